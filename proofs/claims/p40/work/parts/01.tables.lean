-- ===== PART A: goes FIRST, ahead of the names: the tables' words, and 'selects' of the private methods out of them =====
/-- a private method of a class that the tables say can be made, by its rows of tables_1 -/
def lw_okq (q : MethodName × Nat) : Prop := (q.1.cls ≠ "java/lang/invoke/MethodHandle" ∧ q.1.cls ≠ "java/lang/invoke/VarHandle") ∧ Cond.instantiable q.1.cls q.2 ∈ tables_1 ∧ Cond.privateMethod q.1 ∈ tables_1 ∧ Cond.instanceMethod q.1 ∈ tables_1
/-! ===== quicker than by the whole list: words by sublists; the classes' names once ===== -/
set_option maxRecDepth 100000 in
theorem lw_m1 {w : Jvm.Cond} (h : w ∈ tables_1_1) : w ∈ tables_1 := List.mem_append_left _ h
set_option maxRecDepth 100000 in
theorem lw_m2 {w : Jvm.Cond} (h : w ∈ tables_1_2) : w ∈ tables_1 := List.mem_append_right _ (List.mem_append_left _ h)
set_option maxRecDepth 100000 in
theorem lw_m3 {w : Jvm.Cond} (h : w ∈ tables_1_3) : w ∈ tables_1 := List.mem_append_right _ (List.mem_append_right _ (List.mem_append_left _ h))
set_option maxRecDepth 100000 in
theorem lw_m4 {w : Jvm.Cond} (h : w ∈ tables_1_4) : w ∈ tables_1 := List.mem_append_right _ (List.mem_append_right _ (List.mem_append_right _ (List.mem_append_left _ h)))
set_option maxRecDepth 100000 in
theorem lw_m5 {w : Jvm.Cond} (h : w ∈ tables_1_5) : w ∈ tables_1 := List.mem_append_right _ (List.mem_append_right _ (List.mem_append_right _ (List.mem_append_right _ (List.mem_append_left _ h))))
set_option maxRecDepth 100000 in
theorem lw_m6 {w : Jvm.Cond} (h : w ∈ tables_1_6) : w ∈ tables_1 := List.mem_append_right _ (List.mem_append_right _ (List.mem_append_right _ (List.mem_append_right _ (List.mem_append_right _ (List.mem_append_left _ h)))))
set_option maxRecDepth 100000 in
theorem lw_m7 {w : Jvm.Cond} (h : w ∈ tables_1_7) : w ∈ tables_1 := List.mem_append_right _ (List.mem_append_right _ (List.mem_append_right _ (List.mem_append_right _ (List.mem_append_right _ (List.mem_append_right _ (List.mem_append_left _ h))))))
set_option maxRecDepth 100000 in
theorem lw_m8 {w : Jvm.Cond} (h : w ∈ tables_1_8) : w ∈ tables_1 := List.mem_append_right _ (List.mem_append_right _ (List.mem_append_right _ (List.mem_append_right _ (List.mem_append_right _ (List.mem_append_right _ (List.mem_append_right _ (List.mem_append_left _ h)))))))
set_option maxRecDepth 100000 in
theorem lw_m9 {w : Jvm.Cond} (h : w ∈ tables_1_9) : w ∈ tables_1 := List.mem_append_right _ (List.mem_append_right _ (List.mem_append_right _ (List.mem_append_right _ (List.mem_append_right _ (List.mem_append_right _ (List.mem_append_right _ (List.mem_append_right _ (List.mem_append_left _ h))))))))
set_option maxRecDepth 100000 in
theorem lw_m10 {w : Jvm.Cond} (h : w ∈ tables_1_10) : w ∈ tables_1 := List.mem_append_right _ (List.mem_append_right _ (List.mem_append_right _ (List.mem_append_right _ (List.mem_append_right _ (List.mem_append_right _ (List.mem_append_right _ (List.mem_append_right _ (List.mem_append_right _ (List.mem_append_left _ h)))))))))
set_option maxRecDepth 100000 in
theorem lw_m11 {w : Jvm.Cond} (h : w ∈ tables_1_11) : w ∈ tables_1 := List.mem_append_right _ (List.mem_append_right _ (List.mem_append_right _ (List.mem_append_right _ (List.mem_append_right _ (List.mem_append_right _ (List.mem_append_right _ (List.mem_append_right _ (List.mem_append_right _ (List.mem_append_right _ (h))))))))))
theorem lw_ne0 : "ToldNet$Tape" ≠ "java/lang/invoke/MethodHandle" ∧ "ToldNet$Tape" ≠ "java/lang/invoke/VarHandle" := ⟨by decide +kernel, by decide +kernel⟩
theorem lw_ne1 : "ToldNet$Text" ≠ "java/lang/invoke/MethodHandle" ∧ "ToldNet$Text" ≠ "java/lang/invoke/VarHandle" := ⟨by decide +kernel, by decide +kernel⟩
theorem lw_ne2 : "ToldNet$Rule" ≠ "java/lang/invoke/MethodHandle" ∧ "ToldNet$Rule" ≠ "java/lang/invoke/VarHandle" := ⟨by decide +kernel, by decide +kernel⟩
theorem lw_ne3 : "ToldNet$Search" ≠ "java/lang/invoke/MethodHandle" ∧ "ToldNet$Search" ≠ "java/lang/invoke/VarHandle" := ⟨by decide +kernel, by decide +kernel⟩
theorem lw_ne4 : "ToldNet$Parting" ≠ "java/lang/invoke/MethodHandle" ∧ "ToldNet$Parting" ≠ "java/lang/invoke/VarHandle" := ⟨by decide +kernel, by decide +kernel⟩
theorem lw_ne5 : "ToldNet" ≠ "java/lang/invoke/MethodHandle" ∧ "ToldNet" ≠ "java/lang/invoke/VarHandle" := ⟨by decide +kernel, by decide +kernel⟩
theorem lw_ne6 : "ToldNet$Sorts" ≠ "java/lang/invoke/MethodHandle" ∧ "ToldNet$Sorts" ≠ "java/lang/invoke/VarHandle" := ⟨by decide +kernel, by decide +kernel⟩
theorem lw_ne7 : "ToldNet$Reader" ≠ "java/lang/invoke/MethodHandle" ∧ "ToldNet$Reader" ≠ "java/lang/invoke/VarHandle" := ⟨by decide +kernel, by decide +kernel⟩
theorem lw_ne8 : "ToldNet$Telling" ≠ "java/lang/invoke/MethodHandle" ∧ "ToldNet$Telling" ≠ "java/lang/invoke/VarHandle" := ⟨by decide +kernel, by decide +kernel⟩
theorem lw_ne9 : "ToldNet$Order" ≠ "java/lang/invoke/MethodHandle" ∧ "ToldNet$Order" ≠ "java/lang/invoke/VarHandle" := ⟨by decide +kernel, by decide +kernel⟩
theorem lw_ne10 : "ToldNet$Net" ≠ "java/lang/invoke/MethodHandle" ∧ "ToldNet$Net" ≠ "java/lang/invoke/VarHandle" := ⟨by decide +kernel, by decide +kernel⟩
theorem lw_ne11 : "java/lang/Throwable" ≠ "java/lang/invoke/MethodHandle" ∧ "java/lang/Throwable" ≠ "java/lang/invoke/VarHandle" := ⟨by decide +kernel, by decide +kernel⟩
theorem lw_ne12 : "ToldNetModel" ≠ "java/lang/invoke/MethodHandle" ∧ "ToldNetModel" ≠ "java/lang/invoke/VarHandle" := ⟨by decide +kernel, by decide +kernel⟩
set_option maxRecDepth 4096 in
theorem lw_p0 : lw_okq (⟨"ToldNet$Tape", "skipBlanks", "(I)I"⟩, 9) := ⟨lw_ne0, lw_m1 (List.mem_of_getElem? (i := 100) rfl), lw_m3 (List.mem_of_getElem? (i := 202) rfl), lw_m3 (List.mem_of_getElem? (i := 203) rfl)⟩
set_option maxRecDepth 4096 in
theorem lw_p1 : lw_okq (⟨"ToldNet$Tape", "sortOf", "(I)I"⟩, 9) := ⟨lw_ne0, lw_m1 (List.mem_of_getElem? (i := 100) rfl), lw_m3 (List.mem_of_getElem? (i := 206) rfl), lw_m3 (List.mem_of_getElem? (i := 207) rfl)⟩
set_option maxRecDepth 4096 in
theorem lw_p2 : lw_okq (⟨"ToldNet$Tape", "endOf", "(I)I"⟩, 9) := ⟨lw_ne0, lw_m1 (List.mem_of_getElem? (i := 100) rfl), lw_m3 (List.mem_of_getElem? (i := 210) rfl), lw_m3 (List.mem_of_getElem? (i := 211) rfl)⟩
set_option maxRecDepth 4096 in
theorem lw_p3 : lw_okq (⟨"ToldNet$Tape", "valueOf", "(II)J"⟩, 9) := ⟨lw_ne0, lw_m1 (List.mem_of_getElem? (i := 100) rfl), lw_m3 (List.mem_of_getElem? (i := 214) rfl), lw_m3 (List.mem_of_getElem? (i := 215) rfl)⟩
set_option maxRecDepth 4096 in
theorem lw_p4 : lw_okq (⟨"ToldNet$Tape", "kindOf", "(IIJ)I"⟩, 9) := ⟨lw_ne0, lw_m1 (List.mem_of_getElem? (i := 100) rfl), lw_m3 (List.mem_of_getElem? (i := 220) rfl), lw_m3 (List.mem_of_getElem? (i := 221) rfl)⟩
set_option maxRecDepth 4096 in
theorem lw_p5 : lw_okq (⟨"ToldNet$Tape", "nameKind", "(J)I"⟩, 9) := ⟨lw_ne0, lw_m1 (List.mem_of_getElem? (i := 100) rfl), lw_m3 (List.mem_of_getElem? (i := 224) rfl), lw_m3 (List.mem_of_getElem? (i := 225) rfl)⟩
set_option maxRecDepth 4096 in
theorem lw_p6 : lw_okq (⟨"ToldNet$Tape", "blame", "(II)V"⟩, 9) := ⟨lw_ne0, lw_m1 (List.mem_of_getElem? (i := 100) rfl), lw_m3 (List.mem_of_getElem? (i := 237) rfl), lw_m3 (List.mem_of_getElem? (i := 238) rfl)⟩
set_option maxRecDepth 4096 in
theorem lw_p7 : lw_okq (⟨"ToldNet$Tape", "keep", "(IJI)V"⟩, 9) := ⟨lw_ne0, lw_m1 (List.mem_of_getElem? (i := 100) rfl), lw_m4 (List.mem_of_getElem? (i := 1) rfl), lw_m4 (List.mem_of_getElem? (i := 2) rfl)⟩
set_option maxRecDepth 4096 in
theorem lw_p8 : lw_okq (⟨"ToldNet$Text", "takeTell", "(LToldNet$Tape;I)I"⟩, 17) := ⟨lw_ne1, lw_m1 (List.mem_of_getElem? (i := 204) rfl), lw_m4 (List.mem_of_getElem? (i := 10) rfl), lw_m4 (List.mem_of_getElem? (i := 11) rfl)⟩
set_option maxRecDepth 4096 in
theorem lw_p9 : lw_okq (⟨"ToldNet$Text", "takeBox", "(LToldNet$Tape;I)I"⟩, 17) := ⟨lw_ne1, lw_m1 (List.mem_of_getElem? (i := 204) rfl), lw_m4 (List.mem_of_getElem? (i := 14) rfl), lw_m4 (List.mem_of_getElem? (i := 15) rfl)⟩
set_option maxRecDepth 4096 in
theorem lw_p10 : lw_okq (⟨"ToldNet$Text", "findName", "(J)I"⟩, 17) := ⟨lw_ne1, lw_m1 (List.mem_of_getElem? (i := 204) rfl), lw_m4 (List.mem_of_getElem? (i := 18) rfl), lw_m4 (List.mem_of_getElem? (i := 19) rfl)⟩
set_option maxRecDepth 4096 in
theorem lw_p11 : lw_okq (⟨"ToldNet$Text", "blame", "(II)V"⟩, 17) := ⟨lw_ne1, lw_m1 (List.mem_of_getElem? (i := 204) rfl), lw_m4 (List.mem_of_getElem? (i := 22) rfl), lw_m4 (List.mem_of_getElem? (i := 23) rfl)⟩
set_option maxRecDepth 4096 in
theorem lw_p12 : lw_okq (⟨"ToldNet$Text", "postTold", "(LToldNet$Tape;I)I"⟩, 17) := ⟨lw_ne1, lw_m1 (List.mem_of_getElem? (i := 204) rfl), lw_m4 (List.mem_of_getElem? (i := 26) rfl), lw_m4 (List.mem_of_getElem? (i := 27) rfl)⟩
set_option maxRecDepth 4096 in
theorem lw_p13 : lw_okq (⟨"ToldNet$Text", "takeOfBox", "(LToldNet$Tape;II)V"⟩, 17) := ⟨lw_ne1, lw_m1 (List.mem_of_getElem? (i := 204) rfl), lw_m4 (List.mem_of_getElem? (i := 30) rfl), lw_m4 (List.mem_of_getElem? (i := 31) rfl)⟩
set_option maxRecDepth 4096 in
theorem lw_p14 : lw_okq (⟨"ToldNet$Text", "boxNamed", "(LToldNet$Tape;I)I"⟩, 17) := ⟨lw_ne1, lw_m1 (List.mem_of_getElem? (i := 204) rfl), lw_m4 (List.mem_of_getElem? (i := 34) rfl), lw_m4 (List.mem_of_getElem? (i := 35) rfl)⟩
set_option maxRecDepth 4096 in
theorem lw_p15 : lw_okq (⟨"ToldNet$Text", "takeWord", "(IIII)V"⟩, 17) := ⟨lw_ne1, lw_m1 (List.mem_of_getElem? (i := 204) rfl), lw_m4 (List.mem_of_getElem? (i := 39) rfl), lw_m4 (List.mem_of_getElem? (i := 40) rfl)⟩
def lw_privs_1 : List (MethodName × Nat) := [(⟨"ToldNet$Tape", "skipBlanks", "(I)I"⟩, 9), (⟨"ToldNet$Tape", "sortOf", "(I)I"⟩, 9), (⟨"ToldNet$Tape", "endOf", "(I)I"⟩, 9), (⟨"ToldNet$Tape", "valueOf", "(II)J"⟩, 9), (⟨"ToldNet$Tape", "kindOf", "(IIJ)I"⟩, 9), (⟨"ToldNet$Tape", "nameKind", "(J)I"⟩, 9), (⟨"ToldNet$Tape", "blame", "(II)V"⟩, 9), (⟨"ToldNet$Tape", "keep", "(IJI)V"⟩, 9), (⟨"ToldNet$Text", "takeTell", "(LToldNet$Tape;I)I"⟩, 17), (⟨"ToldNet$Text", "takeBox", "(LToldNet$Tape;I)I"⟩, 17), (⟨"ToldNet$Text", "findName", "(J)I"⟩, 17), (⟨"ToldNet$Text", "blame", "(II)V"⟩, 17), (⟨"ToldNet$Text", "postTold", "(LToldNet$Tape;I)I"⟩, 17), (⟨"ToldNet$Text", "takeOfBox", "(LToldNet$Tape;II)V"⟩, 17), (⟨"ToldNet$Text", "boxNamed", "(LToldNet$Tape;I)I"⟩, 17), (⟨"ToldNet$Text", "takeWord", "(IIII)V"⟩, 17)]
theorem lw_r1 : ∀ q ∈ lw_privs_1, lw_okq q := List.forall_mem_cons.mpr ⟨lw_p0, List.forall_mem_cons.mpr ⟨lw_p1, List.forall_mem_cons.mpr ⟨lw_p2, List.forall_mem_cons.mpr ⟨lw_p3, List.forall_mem_cons.mpr ⟨lw_p4, List.forall_mem_cons.mpr ⟨lw_p5, List.forall_mem_cons.mpr ⟨lw_p6, List.forall_mem_cons.mpr ⟨lw_p7, List.forall_mem_cons.mpr ⟨lw_p8, List.forall_mem_cons.mpr ⟨lw_p9, List.forall_mem_cons.mpr ⟨lw_p10, List.forall_mem_cons.mpr ⟨lw_p11, List.forall_mem_cons.mpr ⟨lw_p12, List.forall_mem_cons.mpr ⟨lw_p13, List.forall_mem_cons.mpr ⟨lw_p14, List.forall_mem_cons.mpr ⟨lw_p15, fun _ h => absurd h List.not_mem_nil⟩⟩⟩⟩⟩⟩⟩⟩⟩⟩⟩⟩⟩⟩⟩⟩
set_option maxRecDepth 4096 in
theorem lw_p16 : lw_okq (⟨"ToldNet$Text", "takeSides", "(LToldNet$Tape;I)V"⟩, 17) := ⟨lw_ne1, lw_m1 (List.mem_of_getElem? (i := 204) rfl), lw_m4 (List.mem_of_getElem? (i := 51) rfl), lw_m4 (List.mem_of_getElem? (i := 52) rfl)⟩
set_option maxRecDepth 4096 in
theorem lw_p17 : lw_okq (⟨"ToldNet$Text", "takeStar", "(LToldNet$Tape;I)V"⟩, 17) := ⟨lw_ne1, lw_m1 (List.mem_of_getElem? (i := 204) rfl), lw_m4 (List.mem_of_getElem? (i := 61) rfl), lw_m4 (List.mem_of_getElem? (i := 62) rfl)⟩
set_option maxRecDepth 4096 in
theorem lw_p18 : lw_okq (⟨"ToldNet$Text", "takePair", "(LToldNet$Tape;I)V"⟩, 17) := ⟨lw_ne1, lw_m1 (List.mem_of_getElem? (i := 204) rfl), lw_m4 (List.mem_of_getElem? (i := 65) rfl), lw_m4 (List.mem_of_getElem? (i := 66) rfl)⟩
set_option maxRecDepth 4096 in
theorem lw_p19 : lw_okq (⟨"ToldNet$Text", "checkAlsos", "(LToldNet$Tape;)V"⟩, 17) := ⟨lw_ne1, lw_m1 (List.mem_of_getElem? (i := 204) rfl), lw_m4 (List.mem_of_getElem? (i := 71) rfl), lw_m4 (List.mem_of_getElem? (i := 72) rfl)⟩
set_option maxRecDepth 4096 in
theorem lw_p20 : lw_okq (⟨"ToldNet$Text", "boxOf", "(I)I"⟩, 17) := ⟨lw_ne1, lw_m1 (List.mem_of_getElem? (i := 204) rfl), lw_m4 (List.mem_of_getElem? (i := 83) rfl), lw_m4 (List.mem_of_getElem? (i := 84) rfl)⟩
set_option maxRecDepth 4096 in
theorem lw_p21 : lw_okq (⟨"ToldNet$Text", "numberOf", "(LToldNet$Parting;I)I"⟩, 17) := ⟨lw_ne1, lw_m1 (List.mem_of_getElem? (i := 204) rfl), lw_m4 (List.mem_of_getElem? (i := 93) rfl), lw_m4 (List.mem_of_getElem? (i := 94) rfl)⟩
set_option maxRecDepth 4096 in
theorem lw_p22 : lw_okq (⟨"ToldNet$Text", "numbered", "(LToldNet$Parting;I)I"⟩, 17) := ⟨lw_ne1, lw_m1 (List.mem_of_getElem? (i := 204) rfl), lw_m4 (List.mem_of_getElem? (i := 103) rfl), lw_m4 (List.mem_of_getElem? (i := 104) rfl)⟩
set_option maxRecDepth 4096 in
theorem lw_p23 : lw_okq (⟨"ToldNet$Rule", "countBetween", "(LToldNet$Net;LToldNet$Parting;)V"⟩, 4) := ⟨lw_ne2, lw_m2 (List.mem_of_getElem? (i := 28) rfl), lw_m4 (List.mem_of_getElem? (i := 150) rfl), lw_m4 (List.mem_of_getElem? (i := 151) rfl)⟩
set_option maxRecDepth 4096 in
theorem lw_p24 : lw_okq (⟨"ToldNet$Rule", "takeCrowds", "(LToldNet$Telling;)V"⟩, 4) := ⟨lw_ne2, lw_m2 (List.mem_of_getElem? (i := 28) rfl), lw_m4 (List.mem_of_getElem? (i := 156) rfl), lw_m4 (List.mem_of_getElem? (i := 157) rfl)⟩
set_option maxRecDepth 4096 in
theorem lw_p25 : lw_okq (⟨"ToldNet$Rule", "isSparing", "(III)Z"⟩, 4) := ⟨lw_ne2, lw_m2 (List.mem_of_getElem? (i := 28) rfl), lw_m4 (List.mem_of_getElem? (i := 164) rfl), lw_m4 (List.mem_of_getElem? (i := 165) rfl)⟩
set_option maxRecDepth 4096 in
theorem lw_p26 : lw_okq (⟨"ToldNet$Rule", "takeSides", "(LToldNet$Telling;)V"⟩, 4) := ⟨lw_ne2, lw_m2 (List.mem_of_getElem? (i := 28) rfl), lw_m4 (List.mem_of_getElem? (i := 171) rfl), lw_m4 (List.mem_of_getElem? (i := 172) rfl)⟩
set_option maxRecDepth 4096 in
theorem lw_p27 : lw_okq (⟨"ToldNet$Rule", "takeStars", "(LToldNet$Net;LToldNet$Telling;)V"⟩, 4) := ⟨lw_ne2, lw_m2 (List.mem_of_getElem? (i := 28) rfl), lw_m4 (List.mem_of_getElem? (i := 175) rfl), lw_m4 (List.mem_of_getElem? (i := 176) rfl)⟩
set_option maxRecDepth 4096 in
theorem lw_p28 : lw_okq (⟨"ToldNet$Rule", "layRows", "(LToldNet$Net;LToldNet$Telling;)V"⟩, 4) := ⟨lw_ne2, lw_m2 (List.mem_of_getElem? (i := 28) rfl), lw_m4 (List.mem_of_getElem? (i := 179) rfl), lw_m4 (List.mem_of_getElem? (i := 180) rfl)⟩
set_option maxRecDepth 4096 in
theorem lw_p29 : lw_okq (⟨"ToldNet$Rule", "takeChains", "(LToldNet$Net;LToldNet$Telling;)V"⟩, 4) := ⟨lw_ne2, lw_m2 (List.mem_of_getElem? (i := 28) rfl), lw_m4 (List.mem_of_getElem? (i := 189) rfl), lw_m4 (List.mem_of_getElem? (i := 190) rfl)⟩
set_option maxRecDepth 4096 in
theorem lw_p30 : lw_okq (⟨"ToldNet$Search", "joinTwo", "(LToldNet$Net;)Z"⟩, 7) := ⟨lw_ne3, lw_m2 (List.mem_of_getElem? (i := 47) rfl), lw_m4 (List.mem_of_getElem? (i := 221) rfl), lw_m4 (List.mem_of_getElem? (i := 222) rfl)⟩
set_option maxRecDepth 4096 in
theorem lw_p31 : lw_okq (⟨"ToldNet$Search", "movePost", "(LToldNet$Net;I)Z"⟩, 7) := ⟨lw_ne3, lw_m2 (List.mem_of_getElem? (i := 47) rfl), lw_m4 (List.mem_of_getElem? (i := 230) rfl), lw_m4 (List.mem_of_getElem? (i := 231) rfl)⟩
def lw_privs_2 : List (MethodName × Nat) := [(⟨"ToldNet$Text", "takeSides", "(LToldNet$Tape;I)V"⟩, 17), (⟨"ToldNet$Text", "takeStar", "(LToldNet$Tape;I)V"⟩, 17), (⟨"ToldNet$Text", "takePair", "(LToldNet$Tape;I)V"⟩, 17), (⟨"ToldNet$Text", "checkAlsos", "(LToldNet$Tape;)V"⟩, 17), (⟨"ToldNet$Text", "boxOf", "(I)I"⟩, 17), (⟨"ToldNet$Text", "numberOf", "(LToldNet$Parting;I)I"⟩, 17), (⟨"ToldNet$Text", "numbered", "(LToldNet$Parting;I)I"⟩, 17), (⟨"ToldNet$Rule", "countBetween", "(LToldNet$Net;LToldNet$Parting;)V"⟩, 4), (⟨"ToldNet$Rule", "takeCrowds", "(LToldNet$Telling;)V"⟩, 4), (⟨"ToldNet$Rule", "isSparing", "(III)Z"⟩, 4), (⟨"ToldNet$Rule", "takeSides", "(LToldNet$Telling;)V"⟩, 4), (⟨"ToldNet$Rule", "takeStars", "(LToldNet$Net;LToldNet$Telling;)V"⟩, 4), (⟨"ToldNet$Rule", "layRows", "(LToldNet$Net;LToldNet$Telling;)V"⟩, 4), (⟨"ToldNet$Rule", "takeChains", "(LToldNet$Net;LToldNet$Telling;)V"⟩, 4), (⟨"ToldNet$Search", "joinTwo", "(LToldNet$Net;)Z"⟩, 7), (⟨"ToldNet$Search", "movePost", "(LToldNet$Net;I)Z"⟩, 7)]
theorem lw_r2 : ∀ q ∈ lw_privs_2, lw_okq q := List.forall_mem_cons.mpr ⟨lw_p16, List.forall_mem_cons.mpr ⟨lw_p17, List.forall_mem_cons.mpr ⟨lw_p18, List.forall_mem_cons.mpr ⟨lw_p19, List.forall_mem_cons.mpr ⟨lw_p20, List.forall_mem_cons.mpr ⟨lw_p21, List.forall_mem_cons.mpr ⟨lw_p22, List.forall_mem_cons.mpr ⟨lw_p23, List.forall_mem_cons.mpr ⟨lw_p24, List.forall_mem_cons.mpr ⟨lw_p25, List.forall_mem_cons.mpr ⟨lw_p26, List.forall_mem_cons.mpr ⟨lw_p27, List.forall_mem_cons.mpr ⟨lw_p28, List.forall_mem_cons.mpr ⟨lw_p29, List.forall_mem_cons.mpr ⟨lw_p30, List.forall_mem_cons.mpr ⟨lw_p31, fun _ h => absurd h List.not_mem_nil⟩⟩⟩⟩⟩⟩⟩⟩⟩⟩⟩⟩⟩⟩⟩⟩
set_option maxRecDepth 4096 in
theorem lw_p32 : lw_okq (⟨"ToldNet$Parting", "partOnce", "(LToldNet$Net;)V"⟩, 5) := ⟨lw_ne4, lw_m2 (List.mem_of_getElem? (i := 61) rfl), lw_m5 (List.mem_of_getElem? (i := 16) rfl), lw_m5 (List.mem_of_getElem? (i := 17) rfl)⟩
set_option maxRecDepth 4096 in
theorem lw_p33 : lw_okq (⟨"ToldNet$Parting", "isAlike", "(LToldNet$Net;II)Z"⟩, 5) := ⟨lw_ne4, lw_m2 (List.mem_of_getElem? (i := 61) rfl), lw_m5 (List.mem_of_getElem? (i := 20) rfl), lw_m5 (List.mem_of_getElem? (i := 21) rfl)⟩
set_option maxRecDepth 4096 in
theorem lw_p34 : lw_okq (⟨"ToldNet", "find", "(I)LToldNet$Telling;"⟩, 14) := ⟨lw_ne5, lw_m1 (List.mem_of_getElem? (i := 28) rfl), lw_m5 (List.mem_of_getElem? (i := 29) rfl), lw_m5 (List.mem_of_getElem? (i := 30) rfl)⟩
set_option maxRecDepth 4096 in
theorem lw_p35 : lw_okq (⟨"ToldNet$Sorts", "forget", "()V"⟩, 13) := ⟨lw_ne6, lw_m2 (List.mem_of_getElem? (i := 184) rfl), lw_m5 (List.mem_of_getElem? (i := 56) rfl), lw_m5 (List.mem_of_getElem? (i := 57) rfl)⟩
set_option maxRecDepth 4096 in
theorem lw_p36 : lw_okq (⟨"ToldNet$Sorts", "countFree", "(IZ)V"⟩, 13) := ⟨lw_ne6, lw_m2 (List.mem_of_getElem? (i := 184) rfl), lw_m5 (List.mem_of_getElem? (i := 66) rfl), lw_m5 (List.mem_of_getElem? (i := 67) rfl)⟩
set_option maxRecDepth 4096 in
theorem lw_p37 : lw_okq (⟨"ToldNet$Sorts", "settle", "(I)V"⟩, 13) := ⟨lw_ne6, lw_m2 (List.mem_of_getElem? (i := 184) rfl), lw_m5 (List.mem_of_getElem? (i := 70) rfl), lw_m5 (List.mem_of_getElem? (i := 71) rfl)⟩
set_option maxRecDepth 4096 in
theorem lw_p38 : lw_okq (⟨"ToldNet$Search", "partPiece", "(LToldNet$Net;II)V"⟩, 7) := ⟨lw_ne3, lw_m2 (List.mem_of_getElem? (i := 47) rfl), lw_m5 (List.mem_of_getElem? (i := 137) rfl), lw_m5 (List.mem_of_getElem? (i := 138) rfl)⟩
set_option maxRecDepth 4096 in
theorem lw_p39 : lw_okq (⟨"ToldNet$Sorts", "see", "(Z)V"⟩, 13) := ⟨lw_ne6, lw_m2 (List.mem_of_getElem? (i := 184) rfl), lw_m5 (List.mem_of_getElem? (i := 199) rfl), lw_m5 (List.mem_of_getElem? (i := 200) rfl)⟩
set_option maxRecDepth 4096 in
theorem lw_p40 : lw_okq (⟨"ToldNet$Sorts", "countSteps", "(II)I"⟩, 13) := ⟨lw_ne6, lw_m2 (List.mem_of_getElem? (i := 184) rfl), lw_m5 (List.mem_of_getElem? (i := 205) rfl), lw_m5 (List.mem_of_getElem? (i := 206) rfl)⟩
set_option maxRecDepth 4096 in
theorem lw_p41 : lw_okq (⟨"ToldNet$Sorts", "countTrios", "(I)I"⟩, 13) := ⟨lw_ne6, lw_m2 (List.mem_of_getElem? (i := 184) rfl), lw_m5 (List.mem_of_getElem? (i := 210) rfl), lw_m5 (List.mem_of_getElem? (i := 211) rfl)⟩
set_option maxRecDepth 4096 in
theorem lw_p42 : lw_okq (⟨"ToldNet$Sorts", "sum", "(IIIII)I"⟩, 13) := ⟨lw_ne6, lw_m2 (List.mem_of_getElem? (i := 184) rfl), lw_m5 (List.mem_of_getElem? (i := 214) rfl), lw_m5 (List.mem_of_getElem? (i := 215) rfl)⟩
set_option maxRecDepth 4096 in
theorem lw_p43 : lw_okq (⟨"ToldNet$Sorts", "countAsked", "(I)V"⟩, 13) := ⟨lw_ne6, lw_m2 (List.mem_of_getElem? (i := 184) rfl), lw_m5 (List.mem_of_getElem? (i := 221) rfl), lw_m5 (List.mem_of_getElem? (i := 222) rfl)⟩
set_option maxRecDepth 4096 in
theorem lw_p44 : lw_okq (⟨"ToldNet$Sorts", "share", "(II)I"⟩, 13) := ⟨lw_ne6, lw_m2 (List.mem_of_getElem? (i := 184) rfl), lw_m5 (List.mem_of_getElem? (i := 225) rfl), lw_m5 (List.mem_of_getElem? (i := 226) rfl)⟩
set_option maxRecDepth 4096 in
theorem lw_p45 : lw_okq (⟨"ToldNet$Reader", "tellOnly", "(LToldNet$Telling;I)V"⟩, 8) := ⟨lw_ne7, lw_m2 (List.mem_of_getElem? (i := 236) rfl), lw_m6 (List.mem_of_getElem? (i := 47) rfl), lw_m6 (List.mem_of_getElem? (i := 48) rfl)⟩
set_option maxRecDepth 4096 in
theorem lw_p46 : lw_okq (⟨"ToldNet$Telling", "hasLike", "(LToldNet$Telling;I)Z"⟩, 7) := ⟨lw_ne8, lw_m2 (List.mem_of_getElem? (i := 55) rfl), lw_m6 (List.mem_of_getElem? (i := 92) rfl), lw_m6 (List.mem_of_getElem? (i := 93) rfl)⟩
set_option maxRecDepth 4096 in
theorem lw_p47 : lw_okq (⟨"ToldNet$Telling", "isLike", "(ILToldNet$Telling;I)Z"⟩, 7) := ⟨lw_ne8, lw_m2 (List.mem_of_getElem? (i := 55) rfl), lw_m6 (List.mem_of_getElem? (i := 96) rfl), lw_m6 (List.mem_of_getElem? (i := 97) rfl)⟩
def lw_privs_3 : List (MethodName × Nat) := [(⟨"ToldNet$Parting", "partOnce", "(LToldNet$Net;)V"⟩, 5), (⟨"ToldNet$Parting", "isAlike", "(LToldNet$Net;II)Z"⟩, 5), (⟨"ToldNet", "find", "(I)LToldNet$Telling;"⟩, 14), (⟨"ToldNet$Sorts", "forget", "()V"⟩, 13), (⟨"ToldNet$Sorts", "countFree", "(IZ)V"⟩, 13), (⟨"ToldNet$Sorts", "settle", "(I)V"⟩, 13), (⟨"ToldNet$Search", "partPiece", "(LToldNet$Net;II)V"⟩, 7), (⟨"ToldNet$Sorts", "see", "(Z)V"⟩, 13), (⟨"ToldNet$Sorts", "countSteps", "(II)I"⟩, 13), (⟨"ToldNet$Sorts", "countTrios", "(I)I"⟩, 13), (⟨"ToldNet$Sorts", "sum", "(IIIII)I"⟩, 13), (⟨"ToldNet$Sorts", "countAsked", "(I)V"⟩, 13), (⟨"ToldNet$Sorts", "share", "(II)I"⟩, 13), (⟨"ToldNet$Reader", "tellOnly", "(LToldNet$Telling;I)V"⟩, 8), (⟨"ToldNet$Telling", "hasLike", "(LToldNet$Telling;I)Z"⟩, 7), (⟨"ToldNet$Telling", "isLike", "(ILToldNet$Telling;I)Z"⟩, 7)]
theorem lw_r3 : ∀ q ∈ lw_privs_3, lw_okq q := List.forall_mem_cons.mpr ⟨lw_p32, List.forall_mem_cons.mpr ⟨lw_p33, List.forall_mem_cons.mpr ⟨lw_p34, List.forall_mem_cons.mpr ⟨lw_p35, List.forall_mem_cons.mpr ⟨lw_p36, List.forall_mem_cons.mpr ⟨lw_p37, List.forall_mem_cons.mpr ⟨lw_p38, List.forall_mem_cons.mpr ⟨lw_p39, List.forall_mem_cons.mpr ⟨lw_p40, List.forall_mem_cons.mpr ⟨lw_p41, List.forall_mem_cons.mpr ⟨lw_p42, List.forall_mem_cons.mpr ⟨lw_p43, List.forall_mem_cons.mpr ⟨lw_p44, List.forall_mem_cons.mpr ⟨lw_p45, List.forall_mem_cons.mpr ⟨lw_p46, List.forall_mem_cons.mpr ⟨lw_p47, fun _ h => absurd h List.not_mem_nil⟩⟩⟩⟩⟩⟩⟩⟩⟩⟩⟩⟩⟩⟩⟩⟩
set_option maxRecDepth 4096 in
theorem lw_p48 : lw_okq (⟨"ToldNet$Telling", "isSameRow", "(ILToldNet$Telling;I)Z"⟩, 7) := ⟨lw_ne8, lw_m2 (List.mem_of_getElem? (i := 55) rfl), lw_m6 (List.mem_of_getElem? (i := 106) rfl), lw_m6 (List.mem_of_getElem? (i := 107) rfl)⟩
set_option maxRecDepth 4096 in
theorem lw_p49 : lw_okq (⟨"ToldNet$Order", "sumWith", "(LToldNet$Telling;I)I"⟩, 8) := ⟨lw_ne9, lw_m3 (List.mem_of_getElem? (i := 30) rfl), lw_m6 (List.mem_of_getElem? (i := 121) rfl), lw_m6 (List.mem_of_getElem? (i := 122) rfl)⟩
set_option maxRecDepth 4096 in
theorem lw_p50 : lw_okq (⟨"ToldNet$Order", "canFollow", "(LToldNet$Telling;II)Z"⟩, 8) := ⟨lw_ne9, lw_m3 (List.mem_of_getElem? (i := 30) rfl), lw_m6 (List.mem_of_getElem? (i := 135) rfl), lw_m6 (List.mem_of_getElem? (i := 136) rfl)⟩
set_option maxRecDepth 4096 in
theorem lw_p51 : lw_okq (⟨"ToldNet$Order", "choose", "(LToldNet$Telling;)V"⟩, 8) := ⟨lw_ne9, lw_m3 (List.mem_of_getElem? (i := 30) rfl), lw_m6 (List.mem_of_getElem? (i := 155) rfl), lw_m6 (List.mem_of_getElem? (i := 156) rfl)⟩
set_option maxRecDepth 4096 in
theorem lw_p52 : lw_okq (⟨"ToldNet$Order", "spareOf", "(LToldNet$Telling;I)I"⟩, 8) := ⟨lw_ne9, lw_m3 (List.mem_of_getElem? (i := 30) rfl), lw_m6 (List.mem_of_getElem? (i := 159) rfl), lw_m6 (List.mem_of_getElem? (i := 160) rfl)⟩
set_option maxRecDepth 4096 in
theorem lw_p53 : lw_okq (⟨"ToldNet$Net", "swap", "(IIII)V"⟩, 2) := ⟨lw_ne10, lw_m1 (List.mem_of_getElem? (i := 43) rfl), lw_m6 (List.mem_of_getElem? (i := 199) rfl), lw_m6 (List.mem_of_getElem? (i := 200) rfl)⟩
set_option maxRecDepth 4096 in
theorem lw_p54 : lw_okq (⟨"ToldNet", "countIn", "(I)I"⟩, 14) := ⟨lw_ne5, lw_m1 (List.mem_of_getElem? (i := 28) rfl), lw_m6 (List.mem_of_getElem? (i := 213) rfl), lw_m6 (List.mem_of_getElem? (i := 214) rfl)⟩
set_option maxRecDepth 4096 in
theorem lw_p55 : lw_okq (⟨"java/lang/Throwable", "fillInStackTrace", "(I)Ljava/lang/Throwable;"⟩, 6) := ⟨lw_ne11, lw_m7 (List.mem_of_getElem? (i := 23) rfl), lw_m7 (List.mem_of_getElem? (i := 21) rfl), lw_m7 (List.mem_of_getElem? (i := 22) rfl)⟩
set_option maxRecDepth 4096 in
theorem lw_p56 : lw_okq (⟨"ToldNetModel", "typed", "(I)V"⟩, 82) := ⟨lw_ne12, lw_m7 (List.mem_of_getElem? (i := 82) rfl), lw_m8 (List.mem_of_getElem? (i := 99) rfl), lw_m8 (List.mem_of_getElem? (i := 100) rfl)⟩
set_option maxRecDepth 4096 in
theorem lw_p57 : lw_okq (⟨"ToldNetModel", "isPair", "(II)Z"⟩, 82) := ⟨lw_ne12, lw_m7 (List.mem_of_getElem? (i := 82) rfl), lw_m8 (List.mem_of_getElem? (i := 115) rfl), lw_m8 (List.mem_of_getElem? (i := 116) rfl)⟩
set_option maxRecDepth 4096 in
theorem lw_p58 : lw_okq (⟨"ToldNetModel", "isPost", "(I)Z"⟩, 82) := ⟨lw_ne12, lw_m7 (List.mem_of_getElem? (i := 82) rfl), lw_m8 (List.mem_of_getElem? (i := 119) rfl), lw_m8 (List.mem_of_getElem? (i := 120) rfl)⟩
set_option maxRecDepth 4096 in
theorem lw_p59 : lw_okq (⟨"ToldNetModel", "isDay", "(I)Z"⟩, 82) := ⟨lw_ne12, lw_m7 (List.mem_of_getElem? (i := 82) rfl), lw_m8 (List.mem_of_getElem? (i := 135) rfl), lw_m8 (List.mem_of_getElem? (i := 136) rfl)⟩
set_option maxRecDepth 4096 in
theorem lw_p60 : lw_okq (⟨"ToldNetModel", "asOf", "(I)V"⟩, 82) := ⟨lw_ne12, lw_m7 (List.mem_of_getElem? (i := 82) rfl), lw_m8 (List.mem_of_getElem? (i := 139) rfl), lw_m8 (List.mem_of_getElem? (i := 140) rfl)⟩
set_option maxRecDepth 4096 in
theorem lw_p61 : lw_okq (⟨"ToldNetModel", "aimAtNet", "()V"⟩, 82) := ⟨lw_ne12, lw_m7 (List.mem_of_getElem? (i := 82) rfl), lw_m8 (List.mem_of_getElem? (i := 155) rfl), lw_m8 (List.mem_of_getElem? (i := 156) rfl)⟩
set_option maxRecDepth 4096 in
theorem lw_p62 : lw_okq (⟨"ToldNetModel", "leastOfAll", "()I"⟩, 82) := ⟨lw_ne12, lw_m7 (List.mem_of_getElem? (i := 82) rfl), lw_m8 (List.mem_of_getElem? (i := 159) rfl), lw_m8 (List.mem_of_getElem? (i := 160) rfl)⟩
set_option maxRecDepth 4096 in
theorem lw_p63 : lw_okq (⟨"ToldNetModel", "lengthBy", "()I"⟩, 82) := ⟨lw_ne12, lw_m7 (List.mem_of_getElem? (i := 82) rfl), lw_m8 (List.mem_of_getElem? (i := 163) rfl), lw_m8 (List.mem_of_getElem? (i := 164) rfl)⟩
def lw_privs_4 : List (MethodName × Nat) := [(⟨"ToldNet$Telling", "isSameRow", "(ILToldNet$Telling;I)Z"⟩, 7), (⟨"ToldNet$Order", "sumWith", "(LToldNet$Telling;I)I"⟩, 8), (⟨"ToldNet$Order", "canFollow", "(LToldNet$Telling;II)Z"⟩, 8), (⟨"ToldNet$Order", "choose", "(LToldNet$Telling;)V"⟩, 8), (⟨"ToldNet$Order", "spareOf", "(LToldNet$Telling;I)I"⟩, 8), (⟨"ToldNet$Net", "swap", "(IIII)V"⟩, 2), (⟨"ToldNet", "countIn", "(I)I"⟩, 14), (⟨"java/lang/Throwable", "fillInStackTrace", "(I)Ljava/lang/Throwable;"⟩, 6), (⟨"ToldNetModel", "typed", "(I)V"⟩, 82), (⟨"ToldNetModel", "isPair", "(II)Z"⟩, 82), (⟨"ToldNetModel", "isPost", "(I)Z"⟩, 82), (⟨"ToldNetModel", "isDay", "(I)Z"⟩, 82), (⟨"ToldNetModel", "asOf", "(I)V"⟩, 82), (⟨"ToldNetModel", "aimAtNet", "()V"⟩, 82), (⟨"ToldNetModel", "leastOfAll", "()I"⟩, 82), (⟨"ToldNetModel", "lengthBy", "()I"⟩, 82)]
theorem lw_r4 : ∀ q ∈ lw_privs_4, lw_okq q := List.forall_mem_cons.mpr ⟨lw_p48, List.forall_mem_cons.mpr ⟨lw_p49, List.forall_mem_cons.mpr ⟨lw_p50, List.forall_mem_cons.mpr ⟨lw_p51, List.forall_mem_cons.mpr ⟨lw_p52, List.forall_mem_cons.mpr ⟨lw_p53, List.forall_mem_cons.mpr ⟨lw_p54, List.forall_mem_cons.mpr ⟨lw_p55, List.forall_mem_cons.mpr ⟨lw_p56, List.forall_mem_cons.mpr ⟨lw_p57, List.forall_mem_cons.mpr ⟨lw_p58, List.forall_mem_cons.mpr ⟨lw_p59, List.forall_mem_cons.mpr ⟨lw_p60, List.forall_mem_cons.mpr ⟨lw_p61, List.forall_mem_cons.mpr ⟨lw_p62, List.forall_mem_cons.mpr ⟨lw_p63, fun _ h => absurd h List.not_mem_nil⟩⟩⟩⟩⟩⟩⟩⟩⟩⟩⟩⟩⟩⟩⟩⟩
set_option maxRecDepth 4096 in
theorem lw_p64 : lw_okq (⟨"ToldNetModel", "rule", "(I)V"⟩, 82) := ⟨lw_ne12, lw_m7 (List.mem_of_getElem? (i := 82) rfl), lw_m8 (List.mem_of_getElem? (i := 167) rfl), lw_m8 (List.mem_of_getElem? (i := 168) rfl)⟩
set_option maxRecDepth 4096 in
theorem lw_p65 : lw_okq (⟨"ToldNetModel", "number", "(I)V"⟩, 82) := ⟨lw_ne12, lw_m7 (List.mem_of_getElem? (i := 82) rfl), lw_m8 (List.mem_of_getElem? (i := 171) rfl), lw_m8 (List.mem_of_getElem? (i := 172) rfl)⟩
set_option maxRecDepth 4096 in
theorem lw_p66 : lw_okq (⟨"ToldNetModel", "clearWords", "(I)V"⟩, 82) := ⟨lw_ne12, lw_m7 (List.mem_of_getElem? (i := 82) rfl), lw_m8 (List.mem_of_getElem? (i := 175) rfl), lw_m8 (List.mem_of_getElem? (i := 176) rfl)⟩
set_option maxRecDepth 4096 in
theorem lw_p67 : lw_okq (⟨"ToldNetModel", "weigh", "(I)V"⟩, 82) := ⟨lw_ne12, lw_m7 (List.mem_of_getElem? (i := 82) rfl), lw_m8 (List.mem_of_getElem? (i := 179) rfl), lw_m8 (List.mem_of_getElem? (i := 180) rfl)⟩
set_option maxRecDepth 4096 in
theorem lw_p68 : lw_okq (⟨"ToldNetModel", "exceptBits", "()I"⟩, 82) := ⟨lw_ne12, lw_m7 (List.mem_of_getElem? (i := 82) rfl), lw_m8 (List.mem_of_getElem? (i := 183) rfl), lw_m8 (List.mem_of_getElem? (i := 184) rfl)⟩
set_option maxRecDepth 4096 in
theorem lw_p69 : lw_okq (⟨"ToldNetModel", "hear", "(I)V"⟩, 82) := ⟨lw_ne12, lw_m7 (List.mem_of_getElem? (i := 82) rfl), lw_m8 (List.mem_of_getElem? (i := 190) rfl), lw_m8 (List.mem_of_getElem? (i := 191) rfl)⟩
set_option maxRecDepth 4096 in
theorem lw_p70 : lw_okq (⟨"ToldNetModel", "say", "(II)V"⟩, 82) := ⟨lw_ne12, lw_m7 (List.mem_of_getElem? (i := 82) rfl), lw_m8 (List.mem_of_getElem? (i := 194) rfl), lw_m8 (List.mem_of_getElem? (i := 195) rfl)⟩
set_option maxRecDepth 4096 in
theorem lw_p71 : lw_okq (⟨"ToldNetModel", "isIn", "(III)Z"⟩, 82) := ⟨lw_ne12, lw_m7 (List.mem_of_getElem? (i := 82) rfl), lw_m8 (List.mem_of_getElem? (i := 198) rfl), lw_m8 (List.mem_of_getElem? (i := 199) rfl)⟩
set_option maxRecDepth 4096 in
theorem lw_p72 : lw_okq (⟨"ToldNetModel", "hasOther", "(III)Z"⟩, 82) := ⟨lw_ne12, lw_m7 (List.mem_of_getElem? (i := 82) rfl), lw_m8 (List.mem_of_getElem? (i := 202) rfl), lw_m8 (List.mem_of_getElem? (i := 203) rfl)⟩
set_option maxRecDepth 4096 in
theorem lw_p73 : lw_okq (⟨"ToldNetModel", "lay", "(II)V"⟩, 82) := ⟨lw_ne12, lw_m7 (List.mem_of_getElem? (i := 82) rfl), lw_m8 (List.mem_of_getElem? (i := 206) rfl), lw_m8 (List.mem_of_getElem? (i := 207) rfl)⟩
set_option maxRecDepth 4096 in
theorem lw_p74 : lw_okq (⟨"ToldNetModel", "exceptsAnew", "(I)V"⟩, 82) := ⟨lw_ne12, lw_m7 (List.mem_of_getElem? (i := 82) rfl), lw_m8 (List.mem_of_getElem? (i := 210) rfl), lw_m8 (List.mem_of_getElem? (i := 211) rfl)⟩
set_option maxRecDepth 4096 in
theorem lw_p75 : lw_okq (⟨"ToldNetModel", "lengthOf", "(I)I"⟩, 82) := ⟨lw_ne12, lw_m7 (List.mem_of_getElem? (i := 82) rfl), lw_m8 (List.mem_of_getElem? (i := 214) rfl), lw_m8 (List.mem_of_getElem? (i := 215) rfl)⟩
set_option maxRecDepth 4096 in
theorem lw_p76 : lw_okq (⟨"ToldNetModel", "sorts", "(I)V"⟩, 82) := ⟨lw_ne12, lw_m7 (List.mem_of_getElem? (i := 82) rfl), lw_m8 (List.mem_of_getElem? (i := 218) rfl), lw_m8 (List.mem_of_getElem? (i := 219) rfl)⟩
set_option maxRecDepth 4096 in
theorem lw_p77 : lw_okq (⟨"ToldNetModel", "sortOf", "(IIIZ)I"⟩, 82) := ⟨lw_ne12, lw_m7 (List.mem_of_getElem? (i := 82) rfl), lw_m8 (List.mem_of_getElem? (i := 222) rfl), lw_m8 (List.mem_of_getElem? (i := 223) rfl)⟩
set_option maxRecDepth 4096 in
theorem lw_p78 : lw_okq (⟨"ToldNetModel", "goesOn", "(I)Z"⟩, 82) := ⟨lw_ne12, lw_m7 (List.mem_of_getElem? (i := 82) rfl), lw_m8 (List.mem_of_getElem? (i := 226) rfl), lw_m8 (List.mem_of_getElem? (i := 227) rfl)⟩
set_option maxRecDepth 4096 in
theorem lw_p79 : lw_okq (⟨"ToldNetModel", "piece", "(II)V"⟩, 82) := ⟨lw_ne12, lw_m7 (List.mem_of_getElem? (i := 82) rfl), lw_m8 (List.mem_of_getElem? (i := 234) rfl), lw_m8 (List.mem_of_getElem? (i := 235) rfl)⟩
def lw_privs_5 : List (MethodName × Nat) := [(⟨"ToldNetModel", "rule", "(I)V"⟩, 82), (⟨"ToldNetModel", "number", "(I)V"⟩, 82), (⟨"ToldNetModel", "clearWords", "(I)V"⟩, 82), (⟨"ToldNetModel", "weigh", "(I)V"⟩, 82), (⟨"ToldNetModel", "exceptBits", "()I"⟩, 82), (⟨"ToldNetModel", "hear", "(I)V"⟩, 82), (⟨"ToldNetModel", "say", "(II)V"⟩, 82), (⟨"ToldNetModel", "isIn", "(III)Z"⟩, 82), (⟨"ToldNetModel", "hasOther", "(III)Z"⟩, 82), (⟨"ToldNetModel", "lay", "(II)V"⟩, 82), (⟨"ToldNetModel", "exceptsAnew", "(I)V"⟩, 82), (⟨"ToldNetModel", "lengthOf", "(I)I"⟩, 82), (⟨"ToldNetModel", "sorts", "(I)V"⟩, 82), (⟨"ToldNetModel", "sortOf", "(IIIZ)I"⟩, 82), (⟨"ToldNetModel", "goesOn", "(I)Z"⟩, 82), (⟨"ToldNetModel", "piece", "(II)V"⟩, 82)]
theorem lw_r5 : ∀ q ∈ lw_privs_5, lw_okq q := List.forall_mem_cons.mpr ⟨lw_p64, List.forall_mem_cons.mpr ⟨lw_p65, List.forall_mem_cons.mpr ⟨lw_p66, List.forall_mem_cons.mpr ⟨lw_p67, List.forall_mem_cons.mpr ⟨lw_p68, List.forall_mem_cons.mpr ⟨lw_p69, List.forall_mem_cons.mpr ⟨lw_p70, List.forall_mem_cons.mpr ⟨lw_p71, List.forall_mem_cons.mpr ⟨lw_p72, List.forall_mem_cons.mpr ⟨lw_p73, List.forall_mem_cons.mpr ⟨lw_p74, List.forall_mem_cons.mpr ⟨lw_p75, List.forall_mem_cons.mpr ⟨lw_p76, List.forall_mem_cons.mpr ⟨lw_p77, List.forall_mem_cons.mpr ⟨lw_p78, List.forall_mem_cons.mpr ⟨lw_p79, fun _ h => absurd h List.not_mem_nil⟩⟩⟩⟩⟩⟩⟩⟩⟩⟩⟩⟩⟩⟩⟩⟩
set_option maxRecDepth 4096 in
theorem lw_p80 : lw_okq (⟨"ToldNetModel", "leaves", "(II)I"⟩, 82) := ⟨lw_ne12, lw_m7 (List.mem_of_getElem? (i := 82) rfl), lw_m8 (List.mem_of_getElem? (i := 238) rfl), lw_m8 (List.mem_of_getElem? (i := 239) rfl)⟩
set_option maxRecDepth 4096 in
theorem lw_p81 : lw_okq (⟨"ToldNetModel", "part", "(I)I"⟩, 82) := ⟨lw_ne12, lw_m7 (List.mem_of_getElem? (i := 82) rfl), lw_m9 (List.mem_of_getElem? (i := 6) rfl), lw_m9 (List.mem_of_getElem? (i := 7) rfl)⟩
set_option maxRecDepth 4096 in
theorem lw_p82 : lw_okq (⟨"ToldNetModel", "settle", "(I)V"⟩, 82) := ⟨lw_ne12, lw_m7 (List.mem_of_getElem? (i := 82) rfl), lw_m9 (List.mem_of_getElem? (i := 10) rfl), lw_m9 (List.mem_of_getElem? (i := 11) rfl)⟩
set_option maxRecDepth 4096 in
theorem lw_p83 : lw_okq (⟨"ToldNetModel", "labelsOf", "(I)V"⟩, 82) := ⟨lw_ne12, lw_m7 (List.mem_of_getElem? (i := 82) rfl), lw_m9 (List.mem_of_getElem? (i := 14) rfl), lw_m9 (List.mem_of_getElem? (i := 15) rfl)⟩
set_option maxRecDepth 4096 in
theorem lw_p84 : lw_okq (⟨"ToldNetModel", "moved", "(III)I"⟩, 82) := ⟨lw_ne12, lw_m7 (List.mem_of_getElem? (i := 82) rfl), lw_m9 (List.mem_of_getElem? (i := 18) rfl), lw_m9 (List.mem_of_getElem? (i := 19) rfl)⟩
set_option maxRecDepth 4096 in
theorem lw_p85 : lw_okq (⟨"ToldNetModel", "become", "(II)V"⟩, 82) := ⟨lw_ne12, lw_m7 (List.mem_of_getElem? (i := 82) rfl), lw_m9 (List.mem_of_getElem? (i := 22) rfl), lw_m9 (List.mem_of_getElem? (i := 23) rfl)⟩
set_option maxRecDepth 4096 in
theorem lw_p86 : lw_okq (⟨"ToldNetModel", "refine", "()I"⟩, 82) := ⟨lw_ne12, lw_m7 (List.mem_of_getElem? (i := 82) rfl), lw_m9 (List.mem_of_getElem? (i := 26) rfl), lw_m9 (List.mem_of_getElem? (i := 27) rfl)⟩
set_option maxRecDepth 4096 in
theorem lw_p87 : lw_okq (⟨"ToldNetModel", "isLike", "(III)Z"⟩, 82) := ⟨lw_ne12, lw_m7 (List.mem_of_getElem? (i := 82) rfl), lw_m9 (List.mem_of_getElem? (i := 30) rfl), lw_m9 (List.mem_of_getElem? (i := 31) rfl)⟩
set_option maxRecDepth 4096 in
theorem lw_p88 : lw_okq (⟨"ToldNetModel", "isTelling", "(I)Z"⟩, 82) := ⟨lw_ne12, lw_m7 (List.mem_of_getElem? (i := 82) rfl), lw_m9 (List.mem_of_getElem? (i := 38) rfl), lw_m9 (List.mem_of_getElem? (i := 39) rfl)⟩
set_option maxRecDepth 4096 in
theorem lw_p89 : lw_okq (⟨"ToldNetModel", "isBox", "(II)Z"⟩, 82) := ⟨lw_ne12, lw_m7 (List.mem_of_getElem? (i := 82) rfl), lw_m9 (List.mem_of_getElem? (i := 58) rfl), lw_m9 (List.mem_of_getElem? (i := 59) rfl)⟩
set_option maxRecDepth 4096 in
theorem lw_p90 : lw_okq (⟨"ToldNetModel", "seeks", "(II)Z"⟩, 82) := ⟨lw_ne12, lw_m7 (List.mem_of_getElem? (i := 82) rfl), lw_m9 (List.mem_of_getElem? (i := 66) rfl), lw_m9 (List.mem_of_getElem? (i := 67) rfl)⟩
set_option maxRecDepth 4096 in
theorem lw_p91 : lw_okq (⟨"ToldNetModel", "meets", "(IIII)Z"⟩, 82) := ⟨lw_ne12, lw_m7 (List.mem_of_getElem? (i := 82) rfl), lw_m9 (List.mem_of_getElem? (i := 70) rfl), lw_m9 (List.mem_of_getElem? (i := 71) rfl)⟩
set_option maxRecDepth 4096 in
theorem lw_p92 : lw_okq (⟨"ToldNetModel", "raise", "(I)I"⟩, 82) := ⟨lw_ne12, lw_m7 (List.mem_of_getElem? (i := 82) rfl), lw_m9 (List.mem_of_getElem? (i := 74) rfl), lw_m9 (List.mem_of_getElem? (i := 75) rfl)⟩
set_option maxRecDepth 4096 in
theorem lw_p93 : lw_okq (⟨"ToldNetModel", "exceptAt", "(II)I"⟩, 82) := ⟨lw_ne12, lw_m7 (List.mem_of_getElem? (i := 82) rfl), lw_m9 (List.mem_of_getElem? (i := 82) rfl), lw_m9 (List.mem_of_getElem? (i := 83) rfl)⟩
set_option maxRecDepth 4096 in
theorem lw_p94 : lw_okq (⟨"ToldNetModel", "builds", "(III)Z"⟩, 82) := ⟨lw_ne12, lw_m7 (List.mem_of_getElem? (i := 82) rfl), lw_m9 (List.mem_of_getElem? (i := 90) rfl), lw_m9 (List.mem_of_getElem? (i := 91) rfl)⟩
set_option maxRecDepth 4096 in
theorem lw_p95 : lw_okq (⟨"ToldNetModel", "aimAt", "(I)V"⟩, 82) := ⟨lw_ne12, lw_m7 (List.mem_of_getElem? (i := 82) rfl), lw_m9 (List.mem_of_getElem? (i := 105) rfl), lw_m9 (List.mem_of_getElem? (i := 106) rfl)⟩
def lw_privs_6 : List (MethodName × Nat) := [(⟨"ToldNetModel", "leaves", "(II)I"⟩, 82), (⟨"ToldNetModel", "part", "(I)I"⟩, 82), (⟨"ToldNetModel", "settle", "(I)V"⟩, 82), (⟨"ToldNetModel", "labelsOf", "(I)V"⟩, 82), (⟨"ToldNetModel", "moved", "(III)I"⟩, 82), (⟨"ToldNetModel", "become", "(II)V"⟩, 82), (⟨"ToldNetModel", "refine", "()I"⟩, 82), (⟨"ToldNetModel", "isLike", "(III)Z"⟩, 82), (⟨"ToldNetModel", "isTelling", "(I)Z"⟩, 82), (⟨"ToldNetModel", "isBox", "(II)Z"⟩, 82), (⟨"ToldNetModel", "seeks", "(II)Z"⟩, 82), (⟨"ToldNetModel", "meets", "(IIII)Z"⟩, 82), (⟨"ToldNetModel", "raise", "(I)I"⟩, 82), (⟨"ToldNetModel", "exceptAt", "(II)I"⟩, 82), (⟨"ToldNetModel", "builds", "(III)Z"⟩, 82), (⟨"ToldNetModel", "aimAt", "(I)V"⟩, 82)]
theorem lw_r6 : ∀ q ∈ lw_privs_6, lw_okq q := List.forall_mem_cons.mpr ⟨lw_p80, List.forall_mem_cons.mpr ⟨lw_p81, List.forall_mem_cons.mpr ⟨lw_p82, List.forall_mem_cons.mpr ⟨lw_p83, List.forall_mem_cons.mpr ⟨lw_p84, List.forall_mem_cons.mpr ⟨lw_p85, List.forall_mem_cons.mpr ⟨lw_p86, List.forall_mem_cons.mpr ⟨lw_p87, List.forall_mem_cons.mpr ⟨lw_p88, List.forall_mem_cons.mpr ⟨lw_p89, List.forall_mem_cons.mpr ⟨lw_p90, List.forall_mem_cons.mpr ⟨lw_p91, List.forall_mem_cons.mpr ⟨lw_p92, List.forall_mem_cons.mpr ⟨lw_p93, List.forall_mem_cons.mpr ⟨lw_p94, List.forall_mem_cons.mpr ⟨lw_p95, fun _ h => absurd h List.not_mem_nil⟩⟩⟩⟩⟩⟩⟩⟩⟩⟩⟩⟩⟩⟩⟩⟩
set_option maxRecDepth 4096 in
theorem lw_p96 : lw_okq (⟨"ToldNetModel", "isQuestion", "(III)Z"⟩, 82) := ⟨lw_ne12, lw_m7 (List.mem_of_getElem? (i := 82) rfl), lw_m9 (List.mem_of_getElem? (i := 125) rfl), lw_m9 (List.mem_of_getElem? (i := 126) rfl)⟩
set_option maxRecDepth 4096 in
theorem lw_p97 : lw_okq (⟨"ToldNetModel", "endOf", "(IIIIZ)I"⟩, 82) := ⟨lw_ne12, lw_m7 (List.mem_of_getElem? (i := 82) rfl), lw_m9 (List.mem_of_getElem? (i := 129) rfl), lw_m9 (List.mem_of_getElem? (i := 130) rfl)⟩
set_option maxRecDepth 4096 in
theorem lw_p98 : lw_okq (⟨"ToldNetModel", "collect", "(IIII)V"⟩, 82) := ⟨lw_ne12, lw_m7 (List.mem_of_getElem? (i := 82) rfl), lw_m9 (List.mem_of_getElem? (i := 133) rfl), lw_m9 (List.mem_of_getElem? (i := 134) rfl)⟩
set_option maxRecDepth 4096 in
theorem lw_p99 : lw_okq (⟨"ToldNetModel", "isAsked", "(IIIII)Z"⟩, 82) := ⟨lw_ne12, lw_m7 (List.mem_of_getElem? (i := 82) rfl), lw_m9 (List.mem_of_getElem? (i := 137) rfl), lw_m9 (List.mem_of_getElem? (i := 138) rfl)⟩
set_option maxRecDepth 4096 in
theorem lw_p100 : lw_okq (⟨"ToldNetModel", "sumOf", "(Z)I"⟩, 82) := ⟨lw_ne12, lw_m7 (List.mem_of_getElem? (i := 82) rfl), lw_m9 (List.mem_of_getElem? (i := 141) rfl), lw_m9 (List.mem_of_getElem? (i := 142) rfl)⟩
set_option maxRecDepth 4096 in
theorem lw_p101 : lw_okq (⟨"ToldNetModel", "links", "(IZ)V"⟩, 82) := ⟨lw_ne12, lw_m7 (List.mem_of_getElem? (i := 82) rfl), lw_m9 (List.mem_of_getElem? (i := 145) rfl), lw_m9 (List.mem_of_getElem? (i := 146) rfl)⟩
set_option maxRecDepth 4096 in
theorem lw_p102 : lw_okq (⟨"ToldNetModel", "farOf", "(II)I"⟩, 82) := ⟨lw_ne12, lw_m7 (List.mem_of_getElem? (i := 82) rfl), lw_m9 (List.mem_of_getElem? (i := 149) rfl), lw_m9 (List.mem_of_getElem? (i := 150) rfl)⟩
set_option maxRecDepth 4096 in
theorem lw_p103 : lw_okq (⟨"ToldNetModel", "pathsOf", "(II)I"⟩, 82) := ⟨lw_ne12, lw_m7 (List.mem_of_getElem? (i := 82) rfl), lw_m9 (List.mem_of_getElem? (i := 153) rfl), lw_m9 (List.mem_of_getElem? (i := 154) rfl)⟩
set_option maxRecDepth 4096 in
theorem lw_p104 : lw_okq (⟨"ToldNetModel", "triosOf", "(I)I"⟩, 82) := ⟨lw_ne12, lw_m7 (List.mem_of_getElem? (i := 82) rfl), lw_m9 (List.mem_of_getElem? (i := 157) rfl), lw_m9 (List.mem_of_getElem? (i := 158) rfl)⟩
set_option maxRecDepth 4096 in
theorem lw_p105 : lw_okq (⟨"ToldNetModel", "leadOf", "(IIIII)I"⟩, 82) := ⟨lw_ne12, lw_m7 (List.mem_of_getElem? (i := 82) rfl), lw_m9 (List.mem_of_getElem? (i := 169) rfl), lw_m9 (List.mem_of_getElem? (i := 170) rfl)⟩
set_option maxRecDepth 4096 in
theorem lw_p106 : lw_okq (⟨"ToldNetModel", "offOf", "(IIII)I"⟩, 82) := ⟨lw_ne12, lw_m7 (List.mem_of_getElem? (i := 82) rfl), lw_m9 (List.mem_of_getElem? (i := 173) rfl), lw_m9 (List.mem_of_getElem? (i := 174) rfl)⟩
set_option maxRecDepth 4096 in
theorem lw_p107 : lw_okq (⟨"ToldNetModel", "exceptsOf", "(I)I"⟩, 82) := ⟨lw_ne12, lw_m7 (List.mem_of_getElem? (i := 82) rfl), lw_m9 (List.mem_of_getElem? (i := 177) rfl), lw_m9 (List.mem_of_getElem? (i := 178) rfl)⟩
set_option maxRecDepth 4096 in
theorem lw_p108 : lw_okq (⟨"ToldNetModel", "harmOf", "(I)I"⟩, 82) := ⟨lw_ne12, lw_m7 (List.mem_of_getElem? (i := 82) rfl), lw_m9 (List.mem_of_getElem? (i := 193) rfl), lw_m9 (List.mem_of_getElem? (i := 194) rfl)⟩
set_option maxRecDepth 4096 in
theorem lw_p109 : lw_okq (⟨"ToldNetModel", "serveFew", "(III)I"⟩, 82) := ⟨lw_ne12, lw_m7 (List.mem_of_getElem? (i := 82) rfl), lw_m9 (List.mem_of_getElem? (i := 201) rfl), lw_m9 (List.mem_of_getElem? (i := 202) rfl)⟩
set_option maxRecDepth 4096 in
theorem lw_p110 : lw_okq (⟨"ToldNetModel", "tell", "(II)V"⟩, 82) := ⟨lw_ne12, lw_m7 (List.mem_of_getElem? (i := 82) rfl), lw_m9 (List.mem_of_getElem? (i := 205) rfl), lw_m9 (List.mem_of_getElem? (i := 206) rfl)⟩
set_option maxRecDepth 4096 in
theorem lw_p111 : lw_okq (⟨"ToldNetModel", "serveMany", "(III)I"⟩, 82) := ⟨lw_ne12, lw_m7 (List.mem_of_getElem? (i := 82) rfl), lw_m9 (List.mem_of_getElem? (i := 209) rfl), lw_m9 (List.mem_of_getElem? (i := 210) rfl)⟩
def lw_privs_7 : List (MethodName × Nat) := [(⟨"ToldNetModel", "isQuestion", "(III)Z"⟩, 82), (⟨"ToldNetModel", "endOf", "(IIIIZ)I"⟩, 82), (⟨"ToldNetModel", "collect", "(IIII)V"⟩, 82), (⟨"ToldNetModel", "isAsked", "(IIIII)Z"⟩, 82), (⟨"ToldNetModel", "sumOf", "(Z)I"⟩, 82), (⟨"ToldNetModel", "links", "(IZ)V"⟩, 82), (⟨"ToldNetModel", "farOf", "(II)I"⟩, 82), (⟨"ToldNetModel", "pathsOf", "(II)I"⟩, 82), (⟨"ToldNetModel", "triosOf", "(I)I"⟩, 82), (⟨"ToldNetModel", "leadOf", "(IIIII)I"⟩, 82), (⟨"ToldNetModel", "offOf", "(IIII)I"⟩, 82), (⟨"ToldNetModel", "exceptsOf", "(I)I"⟩, 82), (⟨"ToldNetModel", "harmOf", "(I)I"⟩, 82), (⟨"ToldNetModel", "serveFew", "(III)I"⟩, 82), (⟨"ToldNetModel", "tell", "(II)V"⟩, 82), (⟨"ToldNetModel", "serveMany", "(III)I"⟩, 82)]
theorem lw_r7 : ∀ q ∈ lw_privs_7, lw_okq q := List.forall_mem_cons.mpr ⟨lw_p96, List.forall_mem_cons.mpr ⟨lw_p97, List.forall_mem_cons.mpr ⟨lw_p98, List.forall_mem_cons.mpr ⟨lw_p99, List.forall_mem_cons.mpr ⟨lw_p100, List.forall_mem_cons.mpr ⟨lw_p101, List.forall_mem_cons.mpr ⟨lw_p102, List.forall_mem_cons.mpr ⟨lw_p103, List.forall_mem_cons.mpr ⟨lw_p104, List.forall_mem_cons.mpr ⟨lw_p105, List.forall_mem_cons.mpr ⟨lw_p106, List.forall_mem_cons.mpr ⟨lw_p107, List.forall_mem_cons.mpr ⟨lw_p108, List.forall_mem_cons.mpr ⟨lw_p109, List.forall_mem_cons.mpr ⟨lw_p110, List.forall_mem_cons.mpr ⟨lw_p111, fun _ h => absurd h List.not_mem_nil⟩⟩⟩⟩⟩⟩⟩⟩⟩⟩⟩⟩⟩⟩⟩⟩
set_option maxRecDepth 4096 in
theorem lw_p112 : lw_okq (⟨"ToldNetModel", "isNear", "(III)Z"⟩, 82) := ⟨lw_ne12, lw_m7 (List.mem_of_getElem? (i := 82) rfl), lw_m9 (List.mem_of_getElem? (i := 225) rfl), lw_m9 (List.mem_of_getElem? (i := 226) rfl)⟩
set_option maxRecDepth 4096 in
theorem lw_p113 : lw_okq (⟨"ToldNetModel", "wordsOf", "(I)I"⟩, 82) := ⟨lw_ne12, lw_m7 (List.mem_of_getElem? (i := 82) rfl), lw_m9 (List.mem_of_getElem? (i := 237) rfl), lw_m9 (List.mem_of_getElem? (i := 238) rfl)⟩
set_option maxRecDepth 4096 in
theorem lw_p114 : lw_okq (⟨"ToldNetModel", "hasWord", "(II)Z"⟩, 82) := ⟨lw_ne12, lw_m7 (List.mem_of_getElem? (i := 82) rfl), lw_m10 (List.mem_of_getElem? (i := 1) rfl), lw_m10 (List.mem_of_getElem? (i := 2) rfl)⟩
set_option maxRecDepth 4096 in
theorem lw_p115 : lw_okq (⟨"ToldNetModel", "boxAlike", "(III)I"⟩, 82) := ⟨lw_ne12, lw_m7 (List.mem_of_getElem? (i := 82) rfl), lw_m10 (List.mem_of_getElem? (i := 5) rfl), lw_m10 (List.mem_of_getElem? (i := 6) rfl)⟩
set_option maxRecDepth 4096 in
theorem lw_p116 : lw_okq (⟨"ToldNetModel", "maskOf", "(II)I"⟩, 82) := ⟨lw_ne12, lw_m7 (List.mem_of_getElem? (i := 82) rfl), lw_m10 (List.mem_of_getElem? (i := 9) rfl), lw_m10 (List.mem_of_getElem? (i := 10) rfl)⟩
set_option maxRecDepth 4096 in
theorem lw_p117 : lw_okq (⟨"ToldNetModel", "isRowAlike", "(IIII)Z"⟩, 82) := ⟨lw_ne12, lw_m7 (List.mem_of_getElem? (i := 82) rfl), lw_m10 (List.mem_of_getElem? (i := 13) rfl), lw_m10 (List.mem_of_getElem? (i := 14) rfl)⟩
set_option maxRecDepth 4096 in
theorem lw_p118 : lw_okq (⟨"ToldNetModel", "lineOf", "(I)I"⟩, 82) := ⟨lw_ne12, lw_m7 (List.mem_of_getElem? (i := 82) rfl), lw_m10 (List.mem_of_getElem? (i := 21) rfl), lw_m10 (List.mem_of_getElem? (i := 22) rfl)⟩
set_option maxRecDepth 4096 in
theorem lw_p119 : lw_okq (⟨"ToldNetModel", "tiesOfBoxes", "(I)V"⟩, 82) := ⟨lw_ne12, lw_m7 (List.mem_of_getElem? (i := 82) rfl), lw_m10 (List.mem_of_getElem? (i := 25) rfl), lw_m10 (List.mem_of_getElem? (i := 26) rfl)⟩
set_option maxRecDepth 4096 in
theorem lw_p120 : lw_okq (⟨"ToldNetModel", "stretch", "(I)I"⟩, 82) := ⟨lw_ne12, lw_m7 (List.mem_of_getElem? (i := 82) rfl), lw_m10 (List.mem_of_getElem? (i := 29) rfl), lw_m10 (List.mem_of_getElem? (i := 30) rfl)⟩
set_option maxRecDepth 4096 in
theorem lw_p121 : lw_okq (⟨"ToldNetModel", "reorders", "(I)Z"⟩, 82) := ⟨lw_ne12, lw_m7 (List.mem_of_getElem? (i := 82) rfl), lw_m10 (List.mem_of_getElem? (i := 33) rfl), lw_m10 (List.mem_of_getElem? (i := 34) rfl)⟩
set_option maxRecDepth 4096 in
theorem lw_p122 : lw_okq (⟨"ToldNetModel", "speaks", "(II)I"⟩, 82) := ⟨lw_ne12, lw_m7 (List.mem_of_getElem? (i := 82) rfl), lw_m10 (List.mem_of_getElem? (i := 45) rfl), lw_m10 (List.mem_of_getElem? (i := 46) rfl)⟩
set_option maxRecDepth 4096 in
theorem lw_p123 : lw_okq (⟨"ToldNetModel", "spareOf", "(I)I"⟩, 82) := ⟨lw_ne12, lw_m7 (List.mem_of_getElem? (i := 82) rfl), lw_m10 (List.mem_of_getElem? (i := 49) rfl), lw_m10 (List.mem_of_getElem? (i := 50) rfl)⟩
set_option maxRecDepth 4096 in
theorem lw_p124 : lw_okq (⟨"ToldNetModel", "isOfWord", "(III)Z"⟩, 82) := ⟨lw_ne12, lw_m7 (List.mem_of_getElem? (i := 82) rfl), lw_m10 (List.mem_of_getElem? (i := 53) rfl), lw_m10 (List.mem_of_getElem? (i := 54) rfl)⟩
set_option maxRecDepth 4096 in
theorem lw_p125 : lw_okq (⟨"ToldNetModel", "shuffle", "(I)V"⟩, 82) := ⟨lw_ne12, lw_m7 (List.mem_of_getElem? (i := 82) rfl), lw_m10 (List.mem_of_getElem? (i := 66) rfl), lw_m10 (List.mem_of_getElem? (i := 67) rfl)⟩
set_option maxRecDepth 4096 in
theorem lw_p126 : lw_okq (⟨"ToldNetModel", "tiesOfGoal", "()I"⟩, 82) := ⟨lw_ne12, lw_m7 (List.mem_of_getElem? (i := 82) rfl), lw_m10 (List.mem_of_getElem? (i := 70) rfl), lw_m10 (List.mem_of_getElem? (i := 71) rfl)⟩
set_option maxRecDepth 4096 in
theorem lw_p127 : lw_okq (⟨"ToldNetModel", "tieAt", "(I)I"⟩, 82) := ⟨lw_ne12, lw_m7 (List.mem_of_getElem? (i := 82) rfl), lw_m10 (List.mem_of_getElem? (i := 81) rfl), lw_m10 (List.mem_of_getElem? (i := 82) rfl)⟩
def lw_privs_8 : List (MethodName × Nat) := [(⟨"ToldNetModel", "isNear", "(III)Z"⟩, 82), (⟨"ToldNetModel", "wordsOf", "(I)I"⟩, 82), (⟨"ToldNetModel", "hasWord", "(II)Z"⟩, 82), (⟨"ToldNetModel", "boxAlike", "(III)I"⟩, 82), (⟨"ToldNetModel", "maskOf", "(II)I"⟩, 82), (⟨"ToldNetModel", "isRowAlike", "(IIII)Z"⟩, 82), (⟨"ToldNetModel", "lineOf", "(I)I"⟩, 82), (⟨"ToldNetModel", "tiesOfBoxes", "(I)V"⟩, 82), (⟨"ToldNetModel", "stretch", "(I)I"⟩, 82), (⟨"ToldNetModel", "reorders", "(I)Z"⟩, 82), (⟨"ToldNetModel", "speaks", "(II)I"⟩, 82), (⟨"ToldNetModel", "spareOf", "(I)I"⟩, 82), (⟨"ToldNetModel", "isOfWord", "(III)Z"⟩, 82), (⟨"ToldNetModel", "shuffle", "(I)V"⟩, 82), (⟨"ToldNetModel", "tiesOfGoal", "()I"⟩, 82), (⟨"ToldNetModel", "tieAt", "(I)I"⟩, 82)]
theorem lw_r8 : ∀ q ∈ lw_privs_8, lw_okq q := List.forall_mem_cons.mpr ⟨lw_p112, List.forall_mem_cons.mpr ⟨lw_p113, List.forall_mem_cons.mpr ⟨lw_p114, List.forall_mem_cons.mpr ⟨lw_p115, List.forall_mem_cons.mpr ⟨lw_p116, List.forall_mem_cons.mpr ⟨lw_p117, List.forall_mem_cons.mpr ⟨lw_p118, List.forall_mem_cons.mpr ⟨lw_p119, List.forall_mem_cons.mpr ⟨lw_p120, List.forall_mem_cons.mpr ⟨lw_p121, List.forall_mem_cons.mpr ⟨lw_p122, List.forall_mem_cons.mpr ⟨lw_p123, List.forall_mem_cons.mpr ⟨lw_p124, List.forall_mem_cons.mpr ⟨lw_p125, List.forall_mem_cons.mpr ⟨lw_p126, List.forall_mem_cons.mpr ⟨lw_p127, fun _ h => absurd h List.not_mem_nil⟩⟩⟩⟩⟩⟩⟩⟩⟩⟩⟩⟩⟩⟩⟩⟩
set_option maxRecDepth 4096 in
theorem lw_p128 : lw_okq (⟨"ToldNetModel", "link", "(IIZ)V"⟩, 82) := ⟨lw_ne12, lw_m7 (List.mem_of_getElem? (i := 82) rfl), lw_m10 (List.mem_of_getElem? (i := 85) rfl), lw_m10 (List.mem_of_getElem? (i := 86) rfl)⟩
set_option maxRecDepth 4096 in
theorem lw_p129 : lw_okq (⟨"ToldNetModel", "lengthOfBoxes", "(I)I"⟩, 82) := ⟨lw_ne12, lw_m7 (List.mem_of_getElem? (i := 82) rfl), lw_m10 (List.mem_of_getElem? (i := 93) rfl), lw_m10 (List.mem_of_getElem? (i := 94) rfl)⟩
set_option maxRecDepth 4096 in
theorem lw_p130 : lw_okq (⟨"ToldNetModel", "scanAll", "()V"⟩, 82) := ⟨lw_ne12, lw_m7 (List.mem_of_getElem? (i := 82) rfl), lw_m10 (List.mem_of_getElem? (i := 101) rfl), lw_m10 (List.mem_of_getElem? (i := 102) rfl)⟩
set_option maxRecDepth 4096 in
theorem lw_p131 : lw_okq (⟨"ToldNetModel", "byteAt", "(I)I"⟩, 82) := ⟨lw_ne12, lw_m7 (List.mem_of_getElem? (i := 82) rfl), lw_m10 (List.mem_of_getElem? (i := 105) rfl), lw_m10 (List.mem_of_getElem? (i := 106) rfl)⟩
set_option maxRecDepth 4096 in
theorem lw_p132 : lw_okq (⟨"ToldNetModel", "scan", "(I)I"⟩, 82) := ⟨lw_ne12, lw_m7 (List.mem_of_getElem? (i := 82) rfl), lw_m10 (List.mem_of_getElem? (i := 109) rfl), lw_m10 (List.mem_of_getElem? (i := 110) rfl)⟩
set_option maxRecDepth 4096 in
theorem lw_p133 : lw_okq (⟨"ToldNetModel", "isLetter", "(I)Z"⟩, 82) := ⟨lw_ne12, lw_m7 (List.mem_of_getElem? (i := 82) rfl), lw_m10 (List.mem_of_getElem? (i := 113) rfl), lw_m10 (List.mem_of_getElem? (i := 114) rfl)⟩
set_option maxRecDepth 4096 in
theorem lw_p134 : lw_okq (⟨"ToldNetModel", "token", "(IIII)V"⟩, 82) := ⟨lw_ne12, lw_m7 (List.mem_of_getElem? (i := 82) rfl), lw_m10 (List.mem_of_getElem? (i := 129) rfl), lw_m10 (List.mem_of_getElem? (i := 130) rfl)⟩
set_option maxRecDepth 4096 in
theorem lw_p135 : lw_okq (⟨"ToldNetModel", "isDigit", "(I)Z"⟩, 82) := ⟨lw_ne12, lw_m7 (List.mem_of_getElem? (i := 82) rfl), lw_m10 (List.mem_of_getElem? (i := 133) rfl), lw_m10 (List.mem_of_getElem? (i := 134) rfl)⟩
set_option maxRecDepth 4096 in
theorem lw_p136 : lw_okq (⟨"ToldNetModel", "parses", "()Z"⟩, 82) := ⟨lw_ne12, lw_m7 (List.mem_of_getElem? (i := 82) rfl), lw_m10 (List.mem_of_getElem? (i := 137) rfl), lw_m10 (List.mem_of_getElem? (i := 138) rfl)⟩
set_option maxRecDepth 4096 in
theorem lw_p137 : lw_okq (⟨"ToldNetModel", "wrong", "(I)Z"⟩, 82) := ⟨lw_ne12, lw_m7 (List.mem_of_getElem? (i := 82) rfl), lw_m10 (List.mem_of_getElem? (i := 141) rfl), lw_m10 (List.mem_of_getElem? (i := 142) rfl)⟩
set_option maxRecDepth 4096 in
theorem lw_p138 : lw_okq (⟨"ToldNetModel", "goesThrough", "()Z"⟩, 82) := ⟨lw_ne12, lw_m7 (List.mem_of_getElem? (i := 82) rfl), lw_m10 (List.mem_of_getElem? (i := 145) rfl), lw_m10 (List.mem_of_getElem? (i := 146) rfl)⟩
set_option maxRecDepth 4096 in
theorem lw_p139 : lw_okq (⟨"ToldNetModel", "takes", "(I)Z"⟩, 82) := ⟨lw_ne12, lw_m7 (List.mem_of_getElem? (i := 82) rfl), lw_m10 (List.mem_of_getElem? (i := 149) rfl), lw_m10 (List.mem_of_getElem? (i := 150) rfl)⟩
set_option maxRecDepth 4096 in
theorem lw_p140 : lw_okq (⟨"ToldNetModel", "takesTwo", "(II)Z"⟩, 82) := ⟨lw_ne12, lw_m7 (List.mem_of_getElem? (i := 82) rfl), lw_m10 (List.mem_of_getElem? (i := 153) rfl), lw_m10 (List.mem_of_getElem? (i := 154) rfl)⟩
set_option maxRecDepth 4096 in
theorem lw_p141 : lw_okq (⟨"ToldNetModel", "tellAll", "()V"⟩, 82) := ⟨lw_ne12, lw_m7 (List.mem_of_getElem? (i := 82) rfl), lw_m10 (List.mem_of_getElem? (i := 157) rfl), lw_m10 (List.mem_of_getElem? (i := 158) rfl)⟩
set_option maxRecDepth 4096 in
theorem lw_p142 : lw_okq (⟨"ToldNetModel", "tellBox", "()V"⟩, 82) := ⟨lw_ne12, lw_m7 (List.mem_of_getElem? (i := 82) rfl), lw_m10 (List.mem_of_getElem? (i := 161) rfl), lw_m10 (List.mem_of_getElem? (i := 162) rfl)⟩
set_option maxRecDepth 4096 in
theorem lw_p143 : lw_okq (⟨"ToldNetModel", "textBox", "(I)I"⟩, 82) := ⟨lw_ne12, lw_m7 (List.mem_of_getElem? (i := 82) rfl), lw_m10 (List.mem_of_getElem? (i := 165) rfl), lw_m10 (List.mem_of_getElem? (i := 166) rfl)⟩
def lw_privs_9 : List (MethodName × Nat) := [(⟨"ToldNetModel", "link", "(IIZ)V"⟩, 82), (⟨"ToldNetModel", "lengthOfBoxes", "(I)I"⟩, 82), (⟨"ToldNetModel", "scanAll", "()V"⟩, 82), (⟨"ToldNetModel", "byteAt", "(I)I"⟩, 82), (⟨"ToldNetModel", "scan", "(I)I"⟩, 82), (⟨"ToldNetModel", "isLetter", "(I)Z"⟩, 82), (⟨"ToldNetModel", "token", "(IIII)V"⟩, 82), (⟨"ToldNetModel", "isDigit", "(I)Z"⟩, 82), (⟨"ToldNetModel", "parses", "()Z"⟩, 82), (⟨"ToldNetModel", "wrong", "(I)Z"⟩, 82), (⟨"ToldNetModel", "goesThrough", "()Z"⟩, 82), (⟨"ToldNetModel", "takes", "(I)Z"⟩, 82), (⟨"ToldNetModel", "takesTwo", "(II)Z"⟩, 82), (⟨"ToldNetModel", "tellAll", "()V"⟩, 82), (⟨"ToldNetModel", "tellBox", "()V"⟩, 82), (⟨"ToldNetModel", "textBox", "(I)I"⟩, 82)]
theorem lw_r9 : ∀ q ∈ lw_privs_9, lw_okq q := List.forall_mem_cons.mpr ⟨lw_p128, List.forall_mem_cons.mpr ⟨lw_p129, List.forall_mem_cons.mpr ⟨lw_p130, List.forall_mem_cons.mpr ⟨lw_p131, List.forall_mem_cons.mpr ⟨lw_p132, List.forall_mem_cons.mpr ⟨lw_p133, List.forall_mem_cons.mpr ⟨lw_p134, List.forall_mem_cons.mpr ⟨lw_p135, List.forall_mem_cons.mpr ⟨lw_p136, List.forall_mem_cons.mpr ⟨lw_p137, List.forall_mem_cons.mpr ⟨lw_p138, List.forall_mem_cons.mpr ⟨lw_p139, List.forall_mem_cons.mpr ⟨lw_p140, List.forall_mem_cons.mpr ⟨lw_p141, List.forall_mem_cons.mpr ⟨lw_p142, List.forall_mem_cons.mpr ⟨lw_p143, fun _ h => absurd h List.not_mem_nil⟩⟩⟩⟩⟩⟩⟩⟩⟩⟩⟩⟩⟩⟩⟩⟩
set_option maxRecDepth 4096 in
theorem lw_p144 : lw_okq (⟨"ToldNetModel", "tells", "(II)V"⟩, 82) := ⟨lw_ne12, lw_m7 (List.mem_of_getElem? (i := 82) rfl), lw_m10 (List.mem_of_getElem? (i := 169) rfl), lw_m10 (List.mem_of_getElem? (i := 170) rfl)⟩
set_option maxRecDepth 4096 in
theorem lw_p145 : lw_okq (⟨"ToldNetModel", "isKnownPost", "(I)Z"⟩, 82) := ⟨lw_ne12, lw_m7 (List.mem_of_getElem? (i := 82) rfl), lw_m10 (List.mem_of_getElem? (i := 173) rfl), lw_m10 (List.mem_of_getElem? (i := 174) rfl)⟩
set_option maxRecDepth 4096 in
theorem lw_p146 : lw_okq (⟨"ToldNetModel", "tellOne", "(I)V"⟩, 82) := ⟨lw_ne12, lw_m7 (List.mem_of_getElem? (i := 82) rfl), lw_m10 (List.mem_of_getElem? (i := 177) rfl), lw_m10 (List.mem_of_getElem? (i := 178) rfl)⟩
set_option maxRecDepth 4096 in
theorem lw_p147 : lw_okq (⟨"ToldNetModel", "knownBox", "(I)I"⟩, 82) := ⟨lw_ne12, lw_m7 (List.mem_of_getElem? (i := 82) rfl), lw_m10 (List.mem_of_getElem? (i := 181) rfl), lw_m10 (List.mem_of_getElem? (i := 182) rfl)⟩
set_option maxRecDepth 4096 in
theorem lw_p148 : lw_okq (⟨"ToldNetModel", "tellWord", "(IIII)V"⟩, 82) := ⟨lw_ne12, lw_m7 (List.mem_of_getElem? (i := 82) rfl), lw_m10 (List.mem_of_getElem? (i := 185) rfl), lw_m10 (List.mem_of_getElem? (i := 186) rfl)⟩
set_option maxRecDepth 4096 in
theorem lw_p149 : lw_okq (⟨"ToldNetModel", "tellSides", "()V"⟩, 82) := ⟨lw_ne12, lw_m7 (List.mem_of_getElem? (i := 82) rfl), lw_m10 (List.mem_of_getElem? (i := 189) rfl), lw_m10 (List.mem_of_getElem? (i := 190) rfl)⟩
set_option maxRecDepth 4096 in
theorem lw_p150 : lw_okq (⟨"ToldNetModel", "tellStar", "()V"⟩, 82) := ⟨lw_ne12, lw_m7 (List.mem_of_getElem? (i := 82) rfl), lw_m10 (List.mem_of_getElem? (i := 193) rfl), lw_m10 (List.mem_of_getElem? (i := 194) rfl)⟩
set_option maxRecDepth 4096 in
theorem lw_p151 : lw_okq (⟨"ToldNetModel", "tellPair", "(Z)V"⟩, 82) := ⟨lw_ne12, lw_m7 (List.mem_of_getElem? (i := 82) rfl), lw_m10 (List.mem_of_getElem? (i := 197) rfl), lw_m10 (List.mem_of_getElem? (i := 198) rfl)⟩
set_option maxRecDepth 4096 in
theorem lw_p152 : lw_okq (⟨"ToldNetModel", "isSomeSaid", "(II)Z"⟩, 82) := ⟨lw_ne12, lw_m7 (List.mem_of_getElem? (i := 82) rfl), lw_m10 (List.mem_of_getElem? (i := 201) rfl), lw_m10 (List.mem_of_getElem? (i := 202) rfl)⟩
set_option maxRecDepth 4096 in
theorem lw_p153 : lw_okq (⟨"ToldNetModel", "isTextSaid", "(III)Z"⟩, 82) := ⟨lw_ne12, lw_m7 (List.mem_of_getElem? (i := 82) rfl), lw_m10 (List.mem_of_getElem? (i := 205) rfl), lw_m10 (List.mem_of_getElem? (i := 206) rfl)⟩
set_option maxRecDepth 4096 in
theorem lw_p154 : lw_okq (⟨"ToldNetModel", "build", "(I)V"⟩, 82) := ⟨lw_ne12, lw_m7 (List.mem_of_getElem? (i := 82) rfl), lw_m10 (List.mem_of_getElem? (i := 209) rfl), lw_m10 (List.mem_of_getElem? (i := 210) rfl)⟩
set_option maxRecDepth 4096 in
theorem lw_p155 : lw_okq (⟨"ToldNetModel", "countOf", "(I)I"⟩, 82) := ⟨lw_ne12, lw_m7 (List.mem_of_getElem? (i := 82) rfl), lw_m10 (List.mem_of_getElem? (i := 221) rfl), lw_m10 (List.mem_of_getElem? (i := 222) rfl)⟩
def lw_privs_10 : List (MethodName × Nat) := [(⟨"ToldNetModel", "tells", "(II)V"⟩, 82), (⟨"ToldNetModel", "isKnownPost", "(I)Z"⟩, 82), (⟨"ToldNetModel", "tellOne", "(I)V"⟩, 82), (⟨"ToldNetModel", "knownBox", "(I)I"⟩, 82), (⟨"ToldNetModel", "tellWord", "(IIII)V"⟩, 82), (⟨"ToldNetModel", "tellSides", "()V"⟩, 82), (⟨"ToldNetModel", "tellStar", "()V"⟩, 82), (⟨"ToldNetModel", "tellPair", "(Z)V"⟩, 82), (⟨"ToldNetModel", "isSomeSaid", "(II)Z"⟩, 82), (⟨"ToldNetModel", "isTextSaid", "(III)Z"⟩, 82), (⟨"ToldNetModel", "build", "(I)V"⟩, 82), (⟨"ToldNetModel", "countOf", "(I)I"⟩, 82)]
theorem lw_r10 : ∀ q ∈ lw_privs_10, lw_okq q := List.forall_mem_cons.mpr ⟨lw_p144, List.forall_mem_cons.mpr ⟨lw_p145, List.forall_mem_cons.mpr ⟨lw_p146, List.forall_mem_cons.mpr ⟨lw_p147, List.forall_mem_cons.mpr ⟨lw_p148, List.forall_mem_cons.mpr ⟨lw_p149, List.forall_mem_cons.mpr ⟨lw_p150, List.forall_mem_cons.mpr ⟨lw_p151, List.forall_mem_cons.mpr ⟨lw_p152, List.forall_mem_cons.mpr ⟨lw_p153, List.forall_mem_cons.mpr ⟨lw_p154, List.forall_mem_cons.mpr ⟨lw_p155, fun _ h => absurd h List.not_mem_nil⟩⟩⟩⟩⟩⟩⟩⟩⟩⟩⟩⟩
def lw_privs : List (MethodName × Nat) := lw_privs_1 ++ (lw_privs_2 ++ (lw_privs_3 ++ (lw_privs_4 ++ (lw_privs_5 ++ (lw_privs_6 ++ (lw_privs_7 ++ (lw_privs_8 ++ (lw_privs_9 ++ (lw_privs_10)))))))))
def lw_tbl : List Cond := k2_sels lw_privs ++ tables_1
theorem lw_privs_ok : ∀ q ∈ lw_privs, lw_okq q := by
  show ∀ q ∈ lw_privs_1 ++ (lw_privs_2 ++ (lw_privs_3 ++ (lw_privs_4 ++ (lw_privs_5 ++ (lw_privs_6 ++ (lw_privs_7 ++ (lw_privs_8 ++ (lw_privs_9 ++ (lw_privs_10))))))))), lw_okq q
  exact List.forall_mem_append.mpr ⟨lw_r1, List.forall_mem_append.mpr ⟨lw_r2, List.forall_mem_append.mpr ⟨lw_r3, List.forall_mem_append.mpr ⟨lw_r4, List.forall_mem_append.mpr ⟨lw_r5, List.forall_mem_append.mpr ⟨lw_r6, List.forall_mem_append.mpr ⟨lw_r7, List.forall_mem_append.mpr ⟨lw_r8, List.forall_mem_append.mpr ⟨lw_r9, lw_r10⟩⟩⟩⟩⟩⟩⟩⟩⟩
