section
-- ===== PART A: goes FIRST, ahead of the names: the tables' words, and 'selects' of the private methods out of them =====
/-- a private method of a class that the tables say can be made, by its rows of tables_1 -/
def lw_okq (q : MethodName × Nat) : Prop := (q.1.cls ≠ "java/lang/invoke/MethodHandle" ∧ q.1.cls ≠ "java/lang/invoke/VarHandle") ∧ Cond.instantiable q.1.cls q.2 ∈ tables_1 ∧ Cond.privateMethod q.1 ∈ tables_1 ∧ Cond.instanceMethod q.1 ∈ tables_1
theorem lw_p0 : lw_okq (⟨"EggDrop$Reader", "readClause", "()Z"⟩, 4) := ⟨⟨by decide +kernel, by decide +kernel⟩, List.mem_of_getElem? (i := 169) (by decide +kernel), List.mem_of_getElem? (i := 335) (by decide +kernel), List.mem_of_getElem? (i := 336) (by decide +kernel)⟩
theorem lw_p1 : lw_okq (⟨"EggDrop$Reader", "readWord", "()I"⟩, 4) := ⟨⟨by decide +kernel, by decide +kernel⟩, List.mem_of_getElem? (i := 169) (by decide +kernel), List.mem_of_getElem? (i := 339) (by decide +kernel), List.mem_of_getElem? (i := 340) (by decide +kernel)⟩
theorem lw_p2 : lw_okq (⟨"EggDrop$Reader", "next", "()I"⟩, 4) := ⟨⟨by decide +kernel, by decide +kernel⟩, List.mem_of_getElem? (i := 169) (by decide +kernel), List.mem_of_getElem? (i := 343) (by decide +kernel), List.mem_of_getElem? (i := 344) (by decide +kernel)⟩
theorem lw_p3 : lw_okq (⟨"EggDrop$Reader", "passAll", "(Ljava/lang/String;)Z"⟩, 4) := ⟨⟨by decide +kernel, by decide +kernel⟩, List.mem_of_getElem? (i := 169) (by decide +kernel), List.mem_of_getElem? (i := 348) (by decide +kernel), List.mem_of_getElem? (i := 349) (by decide +kernel)⟩
theorem lw_p4 : lw_okq (⟨"EggDrop$Reader", "pass", "(I)Z"⟩, 4) := ⟨⟨by decide +kernel, by decide +kernel⟩, List.mem_of_getElem? (i := 169) (by decide +kernel), List.mem_of_getElem? (i := 400) (by decide +kernel), List.mem_of_getElem? (i := 401) (by decide +kernel)⟩
theorem lw_p5 : lw_okq (⟨"EggDrop$Reader", "readNumber", "()I"⟩, 4) := ⟨⟨by decide +kernel, by decide +kernel⟩, List.mem_of_getElem? (i := 169) (by decide +kernel), List.mem_of_getElem? (i := 407) (by decide +kernel), List.mem_of_getElem? (i := 408) (by decide +kernel)⟩
theorem lw_p6 : lw_okq (⟨"EggDrop$Reader", "readDigit", "()I"⟩, 4) := ⟨⟨by decide +kernel, by decide +kernel⟩, List.mem_of_getElem? (i := 169) (by decide +kernel), List.mem_of_getElem? (i := 411) (by decide +kernel), List.mem_of_getElem? (i := 412) (by decide +kernel)⟩
theorem lw_p7 : lw_okq (⟨"EggDrop$Reader", "readAny", "(I)Z"⟩, 4) := ⟨⟨by decide +kernel, by decide +kernel⟩, List.mem_of_getElem? (i := 169) (by decide +kernel), List.mem_of_getElem? (i := 415) (by decide +kernel), List.mem_of_getElem? (i := 416) (by decide +kernel)⟩
theorem lw_p8 : lw_okq (⟨"EggDrop$Reader", "readOne", "(I)Z"⟩, 4) := ⟨⟨by decide +kernel, by decide +kernel⟩, List.mem_of_getElem? (i := 169) (by decide +kernel), List.mem_of_getElem? (i := 419) (by decide +kernel), List.mem_of_getElem? (i := 420) (by decide +kernel)⟩
theorem lw_p9 : lw_okq (⟨"EggDrop$Reader", "readTest", "()Z"⟩, 4) := ⟨⟨by decide +kernel, by decide +kernel⟩, List.mem_of_getElem? (i := 169) (by decide +kernel), List.mem_of_getElem? (i := 423) (by decide +kernel), List.mem_of_getElem? (i := 424) (by decide +kernel)⟩
theorem lw_p10 : lw_okq (⟨"EggDrop$Reader", "readOneOf", "(Ljava/lang/String;)I"⟩, 4) := ⟨⟨by decide +kernel, by decide +kernel⟩, List.mem_of_getElem? (i := 169) (by decide +kernel), List.mem_of_getElem? (i := 428) (by decide +kernel), List.mem_of_getElem? (i := 429) (by decide +kernel)⟩
theorem lw_p11 : lw_okq (⟨"EggDrop", "price", "(I)I"⟩, 8) := ⟨⟨by decide +kernel, by decide +kernel⟩, List.mem_of_getElem? (i := 19) (by decide +kernel), List.mem_of_getElem? (i := 475) (by decide +kernel), List.mem_of_getElem? (i := 476) (by decide +kernel)⟩
theorem lw_p12 : lw_okq (⟨"EggDrop", "holding", "()LEggDrop$School;"⟩, 8) := ⟨⟨by decide +kernel, by decide +kernel⟩, List.mem_of_getElem? (i := 19) (by decide +kernel), List.mem_of_getElem? (i := 479) (by decide +kernel), List.mem_of_getElem? (i := 480) (by decide +kernel)⟩
theorem lw_p13 : lw_okq (⟨"EggDrop$School", "holds", "(II)Z"⟩, 7) := ⟨⟨by decide +kernel, by decide +kernel⟩, List.mem_of_getElem? (i := 175) (by decide +kernel), List.mem_of_getElem? (i := 491) (by decide +kernel), List.mem_of_getElem? (i := 492) (by decide +kernel)⟩
theorem lw_p14 : lw_okq (⟨"EggDrop$School", "passes", "(I)Z"⟩, 7) := ⟨⟨by decide +kernel, by decide +kernel⟩, List.mem_of_getElem? (i := 175) (by decide +kernel), List.mem_of_getElem? (i := 495) (by decide +kernel), List.mem_of_getElem? (i := 496) (by decide +kernel)⟩
theorem lw_p15 : lw_okq (⟨"EggDrop", "bear", "()I"⟩, 8) := ⟨⟨by decide +kernel, by decide +kernel⟩, List.mem_of_getElem? (i := 19) (by decide +kernel), List.mem_of_getElem? (i := 527) (by decide +kernel), List.mem_of_getElem? (i := 528) (by decide +kernel)⟩
def lw_privs_1 : List (MethodName × Nat) := [(⟨"EggDrop$Reader", "readClause", "()Z"⟩, 4), (⟨"EggDrop$Reader", "readWord", "()I"⟩, 4), (⟨"EggDrop$Reader", "next", "()I"⟩, 4), (⟨"EggDrop$Reader", "passAll", "(Ljava/lang/String;)Z"⟩, 4), (⟨"EggDrop$Reader", "pass", "(I)Z"⟩, 4), (⟨"EggDrop$Reader", "readNumber", "()I"⟩, 4), (⟨"EggDrop$Reader", "readDigit", "()I"⟩, 4), (⟨"EggDrop$Reader", "readAny", "(I)Z"⟩, 4), (⟨"EggDrop$Reader", "readOne", "(I)Z"⟩, 4), (⟨"EggDrop$Reader", "readTest", "()Z"⟩, 4), (⟨"EggDrop$Reader", "readOneOf", "(Ljava/lang/String;)I"⟩, 4), (⟨"EggDrop", "price", "(I)I"⟩, 8), (⟨"EggDrop", "holding", "()LEggDrop$School;"⟩, 8), (⟨"EggDrop$School", "holds", "(II)Z"⟩, 7), (⟨"EggDrop$School", "passes", "(I)Z"⟩, 7), (⟨"EggDrop", "bear", "()I"⟩, 8)]
theorem lw_r1 : ∀ q ∈ lw_privs_1, lw_okq q := List.forall_mem_cons.mpr ⟨lw_p0, List.forall_mem_cons.mpr ⟨lw_p1, List.forall_mem_cons.mpr ⟨lw_p2, List.forall_mem_cons.mpr ⟨lw_p3, List.forall_mem_cons.mpr ⟨lw_p4, List.forall_mem_cons.mpr ⟨lw_p5, List.forall_mem_cons.mpr ⟨lw_p6, List.forall_mem_cons.mpr ⟨lw_p7, List.forall_mem_cons.mpr ⟨lw_p8, List.forall_mem_cons.mpr ⟨lw_p9, List.forall_mem_cons.mpr ⟨lw_p10, List.forall_mem_cons.mpr ⟨lw_p11, List.forall_mem_cons.mpr ⟨lw_p12, List.forall_mem_cons.mpr ⟨lw_p13, List.forall_mem_cons.mpr ⟨lw_p14, List.forall_mem_cons.mpr ⟨lw_p15, fun _ h => absurd h List.not_mem_nil⟩⟩⟩⟩⟩⟩⟩⟩⟩⟩⟩⟩⟩⟩⟩⟩
theorem lw_p16 : lw_okq (⟨"EggDrop", "prices", "()I"⟩, 8) := ⟨⟨by decide +kernel, by decide +kernel⟩, List.mem_of_getElem? (i := 19) (by decide +kernel), List.mem_of_getElem? (i := 539) (by decide +kernel), List.mem_of_getElem? (i := 540) (by decide +kernel)⟩
theorem lw_p17 : lw_okq (⟨"EggDrop", "letFall", "(IIII)V"⟩, 8) := ⟨⟨by decide +kernel, by decide +kernel⟩, List.mem_of_getElem? (i := 19) (by decide +kernel), List.mem_of_getElem? (i := 550) (by decide +kernel), List.mem_of_getElem? (i := 551) (by decide +kernel)⟩
theorem lw_p18 : lw_okq (⟨"EggDrop$Fall", "goThrough", "(II)I"⟩, 10) := ⟨⟨by decide +kernel, by decide +kernel⟩, List.mem_of_getElem? (i := 217) (by decide +kernel), List.mem_of_getElem? (i := 562) (by decide +kernel), List.mem_of_getElem? (i := 563) (by decide +kernel)⟩
theorem lw_p19 : lw_okq (⟨"EggDrop$Fall", "takenBy", "(II)I"⟩, 10) := ⟨⟨by decide +kernel, by decide +kernel⟩, List.mem_of_getElem? (i := 217) (by decide +kernel), List.mem_of_getElem? (i := 566) (by decide +kernel), List.mem_of_getElem? (i := 567) (by decide +kernel)⟩
theorem lw_p20 : lw_okq (⟨"EggDrop$Fall", "standing", "(III)I"⟩, 10) := ⟨⟨by decide +kernel, by decide +kernel⟩, List.mem_of_getElem? (i := 217) (by decide +kernel), List.mem_of_getElem? (i := 573) (by decide +kernel), List.mem_of_getElem? (i := 574) (by decide +kernel)⟩
theorem lw_p21 : lw_okq (⟨"EggDrop$Fall", "landAll", "(I)V"⟩, 10) := ⟨⟨by decide +kernel, by decide +kernel⟩, List.mem_of_getElem? (i := 217) (by decide +kernel), List.mem_of_getElem? (i := 591) (by decide +kernel), List.mem_of_getElem? (i := 592) (by decide +kernel)⟩
theorem lw_p22 : lw_okq (⟨"EggDrop", "staysWhole", "(IIII)Z"⟩, 8) := ⟨⟨by decide +kernel, by decide +kernel⟩, List.mem_of_getElem? (i := 19) (by decide +kernel), List.mem_of_getElem? (i := 613) (by decide +kernel), List.mem_of_getElem? (i := 614) (by decide +kernel)⟩
theorem lw_p23 : lw_okq (⟨"EggDrop", "forceOf", "(II)I"⟩, 8) := ⟨⟨by decide +kernel, by decide +kernel⟩, List.mem_of_getElem? (i := 19) (by decide +kernel), List.mem_of_getElem? (i := 621) (by decide +kernel), List.mem_of_getElem? (i := 622) (by decide +kernel)⟩
theorem lw_p24 : lw_okq (⟨"EggDrop", "forceWithShifted", "(IIII)I"⟩, 8) := ⟨⟨by decide +kernel, by decide +kernel⟩, List.mem_of_getElem? (i := 19) (by decide +kernel), List.mem_of_getElem? (i := 637) (by decide +kernel), List.mem_of_getElem? (i := 638) (by decide +kernel)⟩
theorem lw_p25 : lw_okq (⟨"EggDrop", "findFits", "()V"⟩, 8) := ⟨⟨by decide +kernel, by decide +kernel⟩, List.mem_of_getElem? (i := 19) (by decide +kernel), List.mem_of_getElem? (i := 667) (by decide +kernel), List.mem_of_getElem? (i := 668) (by decide +kernel)⟩
theorem lw_p26 : lw_okq (⟨"EggDrop$Acts", "begin", "(I)V"⟩, 5) := ⟨⟨by decide +kernel, by decide +kernel⟩, List.mem_of_getElem? (i := 261) (by decide +kernel), List.mem_of_getElem? (i := 712) (by decide +kernel), List.mem_of_getElem? (i := 713) (by decide +kernel)⟩
theorem lw_p27 : lw_okq (⟨"EggDrop$Acts", "takesAtTop", "(I)I"⟩, 5) := ⟨⟨by decide +kernel, by decide +kernel⟩, List.mem_of_getElem? (i := 261) (by decide +kernel), List.mem_of_getElem? (i := 720) (by decide +kernel), List.mem_of_getElem? (i := 721) (by decide +kernel)⟩
theorem lw_p28 : lw_okq (⟨"EggDrop$Acts", "tellsAtTop", "(I)I"⟩, 5) := ⟨⟨by decide +kernel, by decide +kernel⟩, List.mem_of_getElem? (i := 261) (by decide +kernel), List.mem_of_getElem? (i := 729) (by decide +kernel), List.mem_of_getElem? (i := 730) (by decide +kernel)⟩
theorem lw_p29 : lw_okq (⟨"EggDropModel", "clauseHere", "()V"⟩, 26) := ⟨⟨by decide +kernel, by decide +kernel⟩, List.mem_of_getElem? (i := 779) (by decide +kernel), List.mem_of_getElem? (i := 874) (by decide +kernel), List.mem_of_getElem? (i := 875) (by decide +kernel)⟩
theorem lw_p30 : lw_okq (⟨"EggDropModel", "here", "()I"⟩, 26) := ⟨⟨by decide +kernel, by decide +kernel⟩, List.mem_of_getElem? (i := 779) (by decide +kernel), List.mem_of_getElem? (i := 878) (by decide +kernel), List.mem_of_getElem? (i := 879) (by decide +kernel)⟩
theorem lw_p31 : lw_okq (⟨"EggDropModel", "tellsHere", "(ILjava/lang/String;)V"⟩, 26) := ⟨⟨by decide +kernel, by decide +kernel⟩, List.mem_of_getElem? (i := 779) (by decide +kernel), List.mem_of_getElem? (i := 883) (by decide +kernel), List.mem_of_getElem? (i := 884) (by decide +kernel)⟩
def lw_privs_2 : List (MethodName × Nat) := [(⟨"EggDrop", "prices", "()I"⟩, 8), (⟨"EggDrop", "letFall", "(IIII)V"⟩, 8), (⟨"EggDrop$Fall", "goThrough", "(II)I"⟩, 10), (⟨"EggDrop$Fall", "takenBy", "(II)I"⟩, 10), (⟨"EggDrop$Fall", "standing", "(III)I"⟩, 10), (⟨"EggDrop$Fall", "landAll", "(I)V"⟩, 10), (⟨"EggDrop", "staysWhole", "(IIII)Z"⟩, 8), (⟨"EggDrop", "forceOf", "(II)I"⟩, 8), (⟨"EggDrop", "forceWithShifted", "(IIII)I"⟩, 8), (⟨"EggDrop", "findFits", "()V"⟩, 8), (⟨"EggDrop$Acts", "begin", "(I)V"⟩, 5), (⟨"EggDrop$Acts", "takesAtTop", "(I)I"⟩, 5), (⟨"EggDrop$Acts", "tellsAtTop", "(I)I"⟩, 5), (⟨"EggDropModel", "clauseHere", "()V"⟩, 26), (⟨"EggDropModel", "here", "()I"⟩, 26), (⟨"EggDropModel", "tellsHere", "(ILjava/lang/String;)V"⟩, 26)]
theorem lw_r2 : ∀ q ∈ lw_privs_2, lw_okq q := List.forall_mem_cons.mpr ⟨lw_p16, List.forall_mem_cons.mpr ⟨lw_p17, List.forall_mem_cons.mpr ⟨lw_p18, List.forall_mem_cons.mpr ⟨lw_p19, List.forall_mem_cons.mpr ⟨lw_p20, List.forall_mem_cons.mpr ⟨lw_p21, List.forall_mem_cons.mpr ⟨lw_p22, List.forall_mem_cons.mpr ⟨lw_p23, List.forall_mem_cons.mpr ⟨lw_p24, List.forall_mem_cons.mpr ⟨lw_p25, List.forall_mem_cons.mpr ⟨lw_p26, List.forall_mem_cons.mpr ⟨lw_p27, List.forall_mem_cons.mpr ⟨lw_p28, List.forall_mem_cons.mpr ⟨lw_p29, List.forall_mem_cons.mpr ⟨lw_p30, List.forall_mem_cons.mpr ⟨lw_p31, fun _ h => absurd h List.not_mem_nil⟩⟩⟩⟩⟩⟩⟩⟩⟩⟩⟩⟩⟩⟩⟩⟩
theorem lw_p32 : lw_okq (⟨"EggDropModel", "spells", "(Ljava/lang/String;)V"⟩, 26) := ⟨⟨by decide +kernel, by decide +kernel⟩, List.mem_of_getElem? (i := 779) (by decide +kernel), List.mem_of_getElem? (i := 887) (by decide +kernel), List.mem_of_getElem? (i := 888) (by decide +kernel)⟩
theorem lw_p33 : lw_okq (⟨"EggDropModel", "must", "(I)V"⟩, 26) := ⟨⟨by decide +kernel, by decide +kernel⟩, List.mem_of_getElem? (i := 779) (by decide +kernel), List.mem_of_getElem? (i := 893) (by decide +kernel), List.mem_of_getElem? (i := 894) (by decide +kernel)⟩
theorem lw_p34 : lw_okq (⟨"EggDropModel", "figures", "()I"⟩, 26) := ⟨⟨by decide +kernel, by decide +kernel⟩, List.mem_of_getElem? (i := 779) (by decide +kernel), List.mem_of_getElem? (i := 897) (by decide +kernel), List.mem_of_getElem? (i := 898) (by decide +kernel)⟩
theorem lw_p35 : lw_okq (⟨"EggDropModel", "much", "(ILjava/lang/String;)V"⟩, 26) := ⟨⟨by decide +kernel, by decide +kernel⟩, List.mem_of_getElem? (i := 779) (by decide +kernel), List.mem_of_getElem? (i := 903) (by decide +kernel), List.mem_of_getElem? (i := 904) (by decide +kernel)⟩
theorem lw_p36 : lw_okq (⟨"EggDropModel", "some", "()V"⟩, 26) := ⟨⟨by decide +kernel, by decide +kernel⟩, List.mem_of_getElem? (i := 779) (by decide +kernel), List.mem_of_getElem? (i := 907) (by decide +kernel), List.mem_of_getElem? (i := 908) (by decide +kernel)⟩
theorem lw_p37 : lw_okq (⟨"EggDropModel", "every", "()V"⟩, 26) := ⟨⟨by decide +kernel, by decide +kernel⟩, List.mem_of_getElem? (i := 779) (by decide +kernel), List.mem_of_getElem? (i := 911) (by decide +kernel), List.mem_of_getElem? (i := 912) (by decide +kernel)⟩
theorem lw_p38 : lw_okq (⟨"EggDropModel", "factor", "()V"⟩, 26) := ⟨⟨by decide +kernel, by decide +kernel⟩, List.mem_of_getElem? (i := 779) (by decide +kernel), List.mem_of_getElem? (i := 915) (by decide +kernel), List.mem_of_getElem? (i := 916) (by decide +kernel)⟩
theorem lw_p39 : lw_okq (⟨"EggDropModel", "emits", "(I)V"⟩, 26) := ⟨⟨by decide +kernel, by decide +kernel⟩, List.mem_of_getElem? (i := 779) (by decide +kernel), List.mem_of_getElem? (i := 919) (by decide +kernel), List.mem_of_getElem? (i := 920) (by decide +kernel)⟩
theorem lw_p40 : lw_okq (⟨"EggDropModel", "among", "(Ljava/lang/String;)I"⟩, 26) := ⟨⟨by decide +kernel, by decide +kernel⟩, List.mem_of_getElem? (i := 779) (by decide +kernel), List.mem_of_getElem? (i := 924) (by decide +kernel), List.mem_of_getElem? (i := 925) (by decide +kernel)⟩
theorem lw_p41 : lw_okq (⟨"EggDropModel", "isLayer", "(I)Z"⟩, 26) := ⟨⟨by decide +kernel, by decide +kernel⟩, List.mem_of_getElem? (i := 779) (by decide +kernel), List.mem_of_getElem? (i := 941) (by decide +kernel), List.mem_of_getElem? (i := 942) (by decide +kernel)⟩
theorem lw_p42 : lw_okq (⟨"EggDropModel", "priceOf", "(I)I"⟩, 26) := ⟨⟨by decide +kernel, by decide +kernel⟩, List.mem_of_getElem? (i := 779) (by decide +kernel), List.mem_of_getElem? (i := 945) (by decide +kernel), List.mem_of_getElem? (i := 946) (by decide +kernel)⟩
theorem lw_p43 : lw_okq (⟨"EggDropModel", "looks", "(IIII)V"⟩, 26) := ⟨⟨by decide +kernel, by decide +kernel⟩, List.mem_of_getElem? (i := 779) (by decide +kernel), List.mem_of_getElem? (i := 949) (by decide +kernel), List.mem_of_getElem? (i := 950) (by decide +kernel)⟩
theorem lw_p44 : lw_okq (⟨"EggDropModel", "tellsOf", "(II)I"⟩, 26) := ⟨⟨by decide +kernel, by decide +kernel⟩, List.mem_of_getElem? (i := 779) (by decide +kernel), List.mem_of_getElem? (i := 953) (by decide +kernel), List.mem_of_getElem? (i := 954) (by decide +kernel)⟩
theorem lw_p45 : lw_okq (⟨"EggDropModel", "weightBut", "(I)I"⟩, 26) := ⟨⟨by decide +kernel, by decide +kernel⟩, List.mem_of_getElem? (i := 779) (by decide +kernel), List.mem_of_getElem? (i := 977) (by decide +kernel), List.mem_of_getElem? (i := 978) (by decide +kernel)⟩
theorem lw_p46 : lw_okq (⟨"EggDropModel", "prices", "()I"⟩, 26) := ⟨⟨by decide +kernel, by decide +kernel⟩, List.mem_of_getElem? (i := 779) (by decide +kernel), List.mem_of_getElem? (i := 981) (by decide +kernel), List.mem_of_getElem? (i := 982) (by decide +kernel)⟩
theorem lw_p47 : lw_okq (⟨"EggDropModel", "fallsNow", "(II)I"⟩, 26) := ⟨⟨by decide +kernel, by decide +kernel⟩, List.mem_of_getElem? (i := 779) (by decide +kernel), List.mem_of_getElem? (i := 992) (by decide +kernel), List.mem_of_getElem? (i := 993) (by decide +kernel)⟩
def lw_privs_3 : List (MethodName × Nat) := [(⟨"EggDropModel", "spells", "(Ljava/lang/String;)V"⟩, 26), (⟨"EggDropModel", "must", "(I)V"⟩, 26), (⟨"EggDropModel", "figures", "()I"⟩, 26), (⟨"EggDropModel", "much", "(ILjava/lang/String;)V"⟩, 26), (⟨"EggDropModel", "some", "()V"⟩, 26), (⟨"EggDropModel", "every", "()V"⟩, 26), (⟨"EggDropModel", "factor", "()V"⟩, 26), (⟨"EggDropModel", "emits", "(I)V"⟩, 26), (⟨"EggDropModel", "among", "(Ljava/lang/String;)I"⟩, 26), (⟨"EggDropModel", "isLayer", "(I)Z"⟩, 26), (⟨"EggDropModel", "priceOf", "(I)I"⟩, 26), (⟨"EggDropModel", "looks", "(IIII)V"⟩, 26), (⟨"EggDropModel", "tellsOf", "(II)I"⟩, 26), (⟨"EggDropModel", "weightBut", "(I)I"⟩, 26), (⟨"EggDropModel", "prices", "()I"⟩, 26), (⟨"EggDropModel", "fallsNow", "(II)I"⟩, 26)]
theorem lw_r3 : ∀ q ∈ lw_privs_3, lw_okq q := List.forall_mem_cons.mpr ⟨lw_p32, List.forall_mem_cons.mpr ⟨lw_p33, List.forall_mem_cons.mpr ⟨lw_p34, List.forall_mem_cons.mpr ⟨lw_p35, List.forall_mem_cons.mpr ⟨lw_p36, List.forall_mem_cons.mpr ⟨lw_p37, List.forall_mem_cons.mpr ⟨lw_p38, List.forall_mem_cons.mpr ⟨lw_p39, List.forall_mem_cons.mpr ⟨lw_p40, List.forall_mem_cons.mpr ⟨lw_p41, List.forall_mem_cons.mpr ⟨lw_p42, List.forall_mem_cons.mpr ⟨lw_p43, List.forall_mem_cons.mpr ⟨lw_p44, List.forall_mem_cons.mpr ⟨lw_p45, List.forall_mem_cons.mpr ⟨lw_p46, List.forall_mem_cons.mpr ⟨lw_p47, fun _ h => absurd h List.not_mem_nil⟩⟩⟩⟩⟩⟩⟩⟩⟩⟩⟩⟩⟩⟩⟩⟩
theorem lw_p48 : lw_okq (⟨"EggDropModel", "falls", "(II)I"⟩, 26) := ⟨⟨by decide +kernel, by decide +kernel⟩, List.mem_of_getElem? (i := 779) (by decide +kernel), List.mem_of_getElem? (i := 996) (by decide +kernel), List.mem_of_getElem? (i := 997) (by decide +kernel)⟩
theorem lw_p49 : lw_okq (⟨"EggDropModel", "lands", "(III)I"⟩, 26) := ⟨⟨by decide +kernel, by decide +kernel⟩, List.mem_of_getElem? (i := 779) (by decide +kernel), List.mem_of_getElem? (i := 1000) (by decide +kernel), List.mem_of_getElem? (i := 1001) (by decide +kernel)⟩
theorem lw_p50 : lw_okq (⟨"EggDropModel", "takesOf", "(III)I"⟩, 26) := ⟨⟨by decide +kernel, by decide +kernel⟩, List.mem_of_getElem? (i := 779) (by decide +kernel), List.mem_of_getElem? (i := 1004) (by decide +kernel), List.mem_of_getElem? (i := 1005) (by decide +kernel)⟩
theorem lw_p51 : lw_okq (⟨"EggDropModel", "strikes", "(I)V"⟩, 26) := ⟨⟨by decide +kernel, by decide +kernel⟩, List.mem_of_getElem? (i := 779) (by decide +kernel), List.mem_of_getElem? (i := 1008) (by decide +kernel), List.mem_of_getElem? (i := 1009) (by decide +kernel)⟩
theorem lw_p52 : lw_okq (⟨"EggDropModel", "isSet", "(I)Z"⟩, 26) := ⟨⟨by decide +kernel, by decide +kernel⟩, List.mem_of_getElem? (i := 779) (by decide +kernel), List.mem_of_getElem? (i := 1041) (by decide +kernel), List.mem_of_getElem? (i := 1042) (by decide +kernel)⟩
theorem lw_p53 : lw_okq (⟨"EggDropModel", "isAsSeen", "(I)Z"⟩, 26) := ⟨⟨by decide +kernel, by decide +kernel⟩, List.mem_of_getElem? (i := 779) (by decide +kernel), List.mem_of_getElem? (i := 1053) (by decide +kernel), List.mem_of_getElem? (i := 1054) (by decide +kernel)⟩
theorem lw_p54 : lw_okq (⟨"EggDropModel", "givesActs", "(I)I"⟩, 26) := ⟨⟨by decide +kernel, by decide +kernel⟩, List.mem_of_getElem? (i := 779) (by decide +kernel), List.mem_of_getElem? (i := 1083) (by decide +kernel), List.mem_of_getElem? (i := 1084) (by decide +kernel)⟩
theorem lw_p55 : lw_okq (⟨"EggDropModel", "ranBody", "(I)V"⟩, 26) := ⟨⟨by decide +kernel, by decide +kernel⟩, List.mem_of_getElem? (i := 779) (by decide +kernel), List.mem_of_getElem? (i := 1090) (by decide +kernel), List.mem_of_getElem? (i := 1091) (by decide +kernel)⟩
theorem lw_p56 : lw_okq (⟨"EggDropModel", "plainGives", "(I)I"⟩, 26) := ⟨⟨by decide +kernel, by decide +kernel⟩, List.mem_of_getElem? (i := 779) (by decide +kernel), List.mem_of_getElem? (i := 1094) (by decide +kernel), List.mem_of_getElem? (i := 1095) (by decide +kernel)⟩
theorem lw_p57 : lw_okq (⟨"EggDropModel", "takesActs", "(I)I"⟩, 26) := ⟨⟨by decide +kernel, by decide +kernel⟩, List.mem_of_getElem? (i := 779) (by decide +kernel), List.mem_of_getElem? (i := 1098) (by decide +kernel), List.mem_of_getElem? (i := 1099) (by decide +kernel)⟩
theorem lw_p58 : lw_okq (⟨"EggDropModel", "plainTakes", "(I)I"⟩, 26) := ⟨⟨by decide +kernel, by decide +kernel⟩, List.mem_of_getElem? (i := 779) (by decide +kernel), List.mem_of_getElem? (i := 1102) (by decide +kernel), List.mem_of_getElem? (i := 1103) (by decide +kernel)⟩
theorem lw_p59 : lw_okq (⟨"EggDropModel", "tellsActs", "(I)I"⟩, 26) := ⟨⟨by decide +kernel, by decide +kernel⟩, List.mem_of_getElem? (i := 779) (by decide +kernel), List.mem_of_getElem? (i := 1106) (by decide +kernel), List.mem_of_getElem? (i := 1107) (by decide +kernel)⟩
theorem lw_p60 : lw_okq (⟨"EggDropModel", "plainTells", "(I)I"⟩, 26) := ⟨⟨by decide +kernel, by decide +kernel⟩, List.mem_of_getElem? (i := 779) (by decide +kernel), List.mem_of_getElem? (i := 1110) (by decide +kernel), List.mem_of_getElem? (i := 1111) (by decide +kernel)⟩
def lw_privs_4 : List (MethodName × Nat) := [(⟨"EggDropModel", "falls", "(II)I"⟩, 26), (⟨"EggDropModel", "lands", "(III)I"⟩, 26), (⟨"EggDropModel", "takesOf", "(III)I"⟩, 26), (⟨"EggDropModel", "strikes", "(I)V"⟩, 26), (⟨"EggDropModel", "isSet", "(I)Z"⟩, 26), (⟨"EggDropModel", "isAsSeen", "(I)Z"⟩, 26), (⟨"EggDropModel", "givesActs", "(I)I"⟩, 26), (⟨"EggDropModel", "ranBody", "(I)V"⟩, 26), (⟨"EggDropModel", "plainGives", "(I)I"⟩, 26), (⟨"EggDropModel", "takesActs", "(I)I"⟩, 26), (⟨"EggDropModel", "plainTakes", "(I)I"⟩, 26), (⟨"EggDropModel", "tellsActs", "(I)I"⟩, 26), (⟨"EggDropModel", "plainTells", "(I)I"⟩, 26)]
theorem lw_r4 : ∀ q ∈ lw_privs_4, lw_okq q := List.forall_mem_cons.mpr ⟨lw_p48, List.forall_mem_cons.mpr ⟨lw_p49, List.forall_mem_cons.mpr ⟨lw_p50, List.forall_mem_cons.mpr ⟨lw_p51, List.forall_mem_cons.mpr ⟨lw_p52, List.forall_mem_cons.mpr ⟨lw_p53, List.forall_mem_cons.mpr ⟨lw_p54, List.forall_mem_cons.mpr ⟨lw_p55, List.forall_mem_cons.mpr ⟨lw_p56, List.forall_mem_cons.mpr ⟨lw_p57, List.forall_mem_cons.mpr ⟨lw_p58, List.forall_mem_cons.mpr ⟨lw_p59, List.forall_mem_cons.mpr ⟨lw_p60, fun _ h => absurd h List.not_mem_nil⟩⟩⟩⟩⟩⟩⟩⟩⟩⟩⟩⟩⟩
def lw_privs : List (MethodName × Nat) := lw_privs_1 ++ (lw_privs_2 ++ (lw_privs_3 ++ (lw_privs_4)))
def lw_tbl : List Cond := k2_sels lw_privs ++ tables_1
theorem lw_privs_ok : ∀ q ∈ lw_privs, lw_okq q := by
  show ∀ q ∈ lw_privs_1 ++ (lw_privs_2 ++ (lw_privs_3 ++ (lw_privs_4))), lw_okq q
  exact List.forall_mem_append.mpr ⟨lw_r1, List.forall_mem_append.mpr ⟨lw_r2, List.forall_mem_append.mpr ⟨lw_r3, lw_r4⟩⟩⟩
-- ===== end of PART A; then your names; then what follows =====
end
section
def RX0 : String := "EggDrop$Acts"
def TX0 : u_T := fun k => match k with
  | 0 => ("EggDrop$Acts", "bodies", "[I", true)
  | 1 => ("EggDrop$Acts", "ran", "I", false)
  | 2 => ("EggDrop$Acts", "kind", "I", false)
  | 3 => ("EggDrop$Acts", "v", "I", false)
  | _ => ("EggDrop$Acts", "number", "I", false)
def tyX0 : Nat → FieldType := fun k => match k with
  | 0 => .array .int
  | 1 => .int
  | 2 => .int
  | 3 => .int
  | _ => .int
abbrev wsX00 : List Cond := u_ws RX0 TX0 5
theorem nmX0 : ∀ a, a < 5 → ∀ b, b < 5 → a ≠ b → (TX0 a).2.1 ≠ (TX0 b).2.1 := by decide +kernel
theorem tyX0_ok : ∀ k, k < 5 → parseFieldDescriptor (TX0 k).2.2.1 = some (tyX0 k) := by decide +kernel
abbrev cX0_init : ByteArray := prog_2_method_1_code
def yX0_init : MethodName := ⟨RX0, "<init>", "()V"⟩
abbrev cX0_clear : ByteArray := prog_2_method_2_code
def yX0_clear : MethodName := ⟨RX0, "clear", "()V"⟩
abbrev cX0_take : ByteArray := prog_2_method_3_code
def yX0_take : MethodName := ⟨RX0, "take", "(LEggDrop$Layers;I)V"⟩
abbrev cX0_begin : ByteArray := prog_2_method_4_code
def yX0_begin : MethodName := ⟨RX0, "begin", "(I)V"⟩
abbrev cX0_gives : ByteArray := prog_2_method_5_code
def yX0_gives : MethodName := ⟨RX0, "gives", "(I)I"⟩
abbrev cX0_takes : ByteArray := prog_2_method_6_code
def yX0_takes : MethodName := ⟨RX0, "takes", "(I)I"⟩
abbrev cX0_tells : ByteArray := prog_2_method_7_code
def yX0_tells : MethodName := ⟨RX0, "tells", "(I)I"⟩
abbrev cX0_takesAtTop : ByteArray := prog_2_method_8_code
def yX0_takesAtTop : MethodName := ⟨RX0, "takesAtTop", "(I)I"⟩
abbrev cX0_tellsAtTop : ByteArray := prog_2_method_9_code
def yX0_tellsAtTop : MethodName := ⟨RX0, "tellsAtTop", "(I)I"⟩
def RX1 : String := "EggDrop$Box"
def TX1 : u_T := fun k => match k with
  | 0 => ("EggDrop$Box", "tape", "LEggDrop$Tape;", true)
  | 1 => ("EggDrop$Box", "layers", "LEggDrop$Layers;", true)
  | 2 => ("EggDrop$Box", "egg", "LEggDrop$Egg;", true)
  | 3 => ("EggDrop$Box", "seen", "LEggDrop$Sheet;", true)
  | 4 => ("EggDrop$Box", "booked", "LEggDrop$Sheet;", true)
  | 5 => ("EggDrop$Box", "schools", "I", false)
  | _ => ("EggDrop$Box", "tries", "I", false)
def tyX1 : Nat → FieldType := fun k => match k with
  | 0 => .object "EggDrop$Tape"
  | 1 => .object "EggDrop$Layers"
  | 2 => .object "EggDrop$Egg"
  | 3 => .object "EggDrop$Sheet"
  | 4 => .object "EggDrop$Sheet"
  | 5 => .int
  | _ => .int
abbrev wsX10 : List Cond := u_ws RX1 TX1 7
theorem nmX1 : ∀ a, a < 7 → ∀ b, b < 7 → a ≠ b → (TX1 a).2.1 ≠ (TX1 b).2.1 := by decide +kernel
theorem tyX1_ok : ∀ k, k < 7 → parseFieldDescriptor (TX1 k).2.2.1 = some (tyX1 k) := by decide +kernel
abbrev cX1_init : ByteArray := prog_3_method_1_code
def yX1_init : MethodName := ⟨RX1, "<init>", "()V"⟩
abbrev cX1_copyFrom : ByteArray := prog_3_method_2_code
def yX1_copyFrom : MethodName := ⟨RX1, "copyFrom", "(LEggDrop$Box;)V"⟩
def RX2 : String := "EggDrop$Egg"
def TX2 : u_T := fun k => match k with
  | 0 => ("EggDrop$Egg", "cracks", "I", false)
  | _ => ("EggDrop$Egg", "whole", "Z", false)
def tyX2 : Nat → FieldType := fun k => match k with
  | 0 => .int
  | _ => .boolean
abbrev wsX20 : List Cond := u_ws RX2 TX2 2
theorem nmX2 : ∀ a, a < 2 → ∀ b, b < 2 → a ≠ b → (TX2 a).2.1 ≠ (TX2 b).2.1 := by decide +kernel
theorem tyX2_ok : ∀ k, k < 2 → parseFieldDescriptor (TX2 k).2.2.1 = some (tyX2 k) := by decide +kernel
abbrev cX2_init : ByteArray := prog_4_method_1_code
def yX2_init : MethodName := ⟨RX2, "<init>", "()V"⟩
abbrev cX2_renew : ByteArray := prog_4_method_2_code
def yX2_renew : MethodName := ⟨RX2, "renew", "()V"⟩
abbrev cX2_land : ByteArray := prog_4_method_3_code
def yX2_land : MethodName := ⟨RX2, "land", "(II)V"⟩
abbrev cX2_copyFrom : ByteArray := prog_4_method_4_code
def yX2_copyFrom : MethodName := ⟨RX2, "copyFrom", "(LEggDrop$Egg;)V"⟩
def RX3 : String := "EggDrop$Fall"
def TX3 : u_T := fun k => match k with
  | 0 => ("EggDrop$Fall", "egg", "LEggDrop$Egg;", true)
  | 1 => ("EggDrop$Fall", "lands", "I", false)
  | 2 => ("EggDrop$Fall", "brokenBits", "I", false)
  | 3 => ("EggDrop$Fall", "layers", "LEggDrop$Layers;", false)
  | 4 => ("EggDrop$Fall", "tries", "I", false)
  | 5 => ("EggDrop$Fall", "floor", "I", false)
  | 6 => ("EggDrop$Fall", "without", "I", false)
  | 7 => ("EggDrop$Fall", "first", "I", false)
  | 8 => ("EggDrop$Fall", "second", "I", false)
  | _ => ("EggDrop$Fall", "bounces", "Z", false)
def tyX3 : Nat → FieldType := fun k => match k with
  | 0 => .object "EggDrop$Egg"
  | 1 => .int
  | 2 => .int
  | 3 => .object "EggDrop$Layers"
  | 4 => .int
  | 5 => .int
  | 6 => .int
  | 7 => .int
  | 8 => .int
  | _ => .boolean
abbrev wsX30 : List Cond := u_ws RX3 TX3 10
theorem nmX3 : ∀ a, a < 10 → ∀ b, b < 10 → a ≠ b → (TX3 a).2.1 ≠ (TX3 b).2.1 := by decide +kernel
theorem tyX3_ok : ∀ k, k < 10 → parseFieldDescriptor (TX3 k).2.2.1 = some (tyX3 k) := by decide +kernel
abbrev cX3_init : ByteArray := prog_5_method_1_code
def yX3_init : MethodName := ⟨RX3, "<init>", "()V"⟩
abbrev cX3_happen : ByteArray := prog_5_method_2_code
def yX3_happen : MethodName := ⟨RX3, "happen", "(LEggDrop$Box;LEggDrop$School;IIII)V"⟩
abbrev cX3_force : ByteArray := prog_5_method_3_code
def yX3_force : MethodName := ⟨RX3, "force", "()I"⟩
abbrev cX3_meet : ByteArray := prog_5_method_4_code
def yX3_meet : MethodName := ⟨RX3, "meet", "(LEggDrop$Egg;I)V"⟩
abbrev cX3_meetNew : ByteArray := prog_5_method_5_code
def yX3_meetNew : MethodName := ⟨RX3, "meetNew", "(I)V"⟩
abbrev cX3_landAll : ByteArray := prog_5_method_6_code
def yX3_landAll : MethodName := ⟨RX3, "landAll", "(I)V"⟩
abbrev cX3_goThrough : ByteArray := prog_5_method_7_code
def yX3_goThrough : MethodName := ⟨RX3, "goThrough", "(II)I"⟩
abbrev cX3_takenBy : ByteArray := prog_5_method_8_code
def yX3_takenBy : MethodName := ⟨RX3, "takenBy", "(II)I"⟩
abbrev cX3_crumpled : ByteArray := prog_5_method_9_code
def yX3_crumpled : MethodName := ⟨RX3, "crumpled", "(II)I"⟩
abbrev cX3_hung : ByteArray := prog_5_method_10_code
def yX3_hung : MethodName := ⟨RX3, "hung", "(II)I"⟩
abbrev cX3_standing : ByteArray := prog_5_method_11_code
def yX3_standing : MethodName := ⟨RX3, "standing", "(III)I"⟩
def RX4 : String := "EggDrop$Layers"
def TX4 : u_T := fun k => match k with
  | 0 => ("EggDrop$Layers", "kind", "[I", true)
  | 1 => ("EggDrop$Layers", "v", "[I", true)
  | 2 => ("EggDrop$Layers", "thick", "[I", true)
  | 3 => ("EggDrop$Layers", "weight", "[I", true)
  | 4 => ("EggDrop$Layers", "place", "[I", true)
  | 5 => ("EggDrop$Layers", "rows", "[I", true)
  | 6 => ("EggDrop$Layers", "brokenBits", "I", false)
  | _ => ("EggDrop$Layers", "size", "I", false)
def tyX4 : Nat → FieldType := fun k => match k with
  | 0 => .array .int
  | 1 => .array .int
  | 2 => .array .int
  | 3 => .array .int
  | 4 => .array .int
  | 5 => .array .int
  | 6 => .int
  | _ => .int
abbrev wsX40 : List Cond := u_ws RX4 TX4 8
theorem nmX4 : ∀ a, a < 8 → ∀ b, b < 8 → a ≠ b → (TX4 a).2.1 ≠ (TX4 b).2.1 := by decide +kernel
theorem tyX4_ok : ∀ k, k < 8 → parseFieldDescriptor (TX4 k).2.2.1 = some (tyX4 k) := by decide +kernel
abbrev cX4_init : ByteArray := prog_6_method_1_code
def yX4_init : MethodName := ⟨RX4, "<init>", "()V"⟩
abbrev cX4_isUnder : ByteArray := prog_6_method_2_code
def yX4_isUnder : MethodName := ⟨RX4, "isUnder", "(II)Z"⟩
abbrev cX4_has : ByteArray := prog_6_method_3_code
def yX4_has : MethodName := ⟨RX4, "has", "(I)Z"⟩
abbrev cX4_isBroken : ByteArray := prog_6_method_4_code
def yX4_isBroken : MethodName := ⟨RX4, "isBroken", "(I)Z"⟩
abbrev cX4_allBits : ByteArray := prog_6_method_5_code
def yX4_allBits : MethodName := ⟨RX4, "allBits", "()I"⟩
abbrev cX4_add : ByteArray := prog_6_method_6_code
def yX4_add : MethodName := ⟨RX4, "add", "(IIIII)I"⟩
abbrev cX4_mark : ByteArray := prog_6_method_7_code
def yX4_mark : MethodName := ⟨RX4, "mark", "(IZ)V"⟩
abbrev cX4_weightWithout : ByteArray := prog_6_method_8_code
def yX4_weightWithout : MethodName := ⟨RX4, "weightWithout", "(I)I"⟩
abbrev cX4_copyFrom : ByteArray := prog_6_method_9_code
def yX4_copyFrom : MethodName := ⟨RX4, "copyFrom", "(LEggDrop$Layers;)V"⟩
def RX5 : String := "EggDrop$Reader"
def TX5 : u_T := fun k => match k with
  | 0 => ("EggDrop$Reader", "draft", "LEggDrop$School;", true)
  | 1 => ("EggDrop$Reader", "signs", "[I", false)
  | 2 => ("EggDrop$Reader", "size", "I", false)
  | _ => ("EggDrop$Reader", "at", "I", false)
def tyX5 : Nat → FieldType := fun k => match k with
  | 0 => .object "EggDrop$School"
  | 1 => .array .int
  | 2 => .int
  | _ => .int
abbrev wsX50 : List Cond := u_ws RX5 TX5 4
theorem nmX5 : ∀ a, a < 4 → ∀ b, b < 4 → a ≠ b → (TX5 a).2.1 ≠ (TX5 b).2.1 := by decide +kernel
theorem tyX5_ok : ∀ k, k < 4 → parseFieldDescriptor (TX5 k).2.2.1 = some (tyX5 k) := by decide +kernel
abbrev cX5_init : ByteArray := prog_7_method_1_code
def yX5_init : MethodName := ⟨RX5, "<init>", "()V"⟩
abbrev cX5_read : ByteArray := prog_7_method_2_code
def yX5_read : MethodName := ⟨RX5, "read", "(LEggDrop$Tape;)I"⟩
abbrev cX5_next : ByteArray := prog_7_method_3_code
def yX5_next : MethodName := ⟨RX5, "next", "()I"⟩
abbrev cX5_pass : ByteArray := prog_7_method_4_code
def yX5_pass : MethodName := ⟨RX5, "pass", "(I)Z"⟩
abbrev cX5_passAll : ByteArray := prog_7_method_5_code
def yX5_passAll : MethodName := ⟨RX5, "passAll", "(Ljava/lang/String;)Z"⟩
abbrev cX5_readClause : ByteArray := prog_7_method_6_code
def yX5_readClause : MethodName := ⟨RX5, "readClause", "()Z"⟩
abbrev cX5_readWord : ByteArray := prog_7_method_7_code
def yX5_readWord : MethodName := ⟨RX5, "readWord", "()I"⟩
abbrev cX5_readDigit : ByteArray := prog_7_method_8_code
def yX5_readDigit : MethodName := ⟨RX5, "readDigit", "()I"⟩
abbrev cX5_readNumber : ByteArray := prog_7_method_9_code
def yX5_readNumber : MethodName := ⟨RX5, "readNumber", "()I"⟩
abbrev cX5_readAny : ByteArray := prog_7_method_10_code
def yX5_readAny : MethodName := ⟨RX5, "readAny", "(I)Z"⟩
abbrev cX5_readOne : ByteArray := prog_7_method_11_code
def yX5_readOne : MethodName := ⟨RX5, "readOne", "(I)Z"⟩
abbrev cX5_readTest : ByteArray := prog_7_method_12_code
def yX5_readTest : MethodName := ⟨RX5, "readTest", "()Z"⟩
abbrev cX5_readOneOf : ByteArray := prog_7_method_13_code
def yX5_readOneOf : MethodName := ⟨RX5, "readOneOf", "(Ljava/lang/String;)I"⟩
def RX6 : String := "EggDrop$School"
def TX6 : u_T := fun k => match k with
  | 0 => ("EggDrop$School", "words", "[I", true)
  | 1 => ("EggDrop$School", "numbers", "[I", true)
  | 2 => ("EggDrop$School", "ends", "[I", true)
  | 3 => ("EggDrop$School", "steps", "[I", true)
  | 4 => ("EggDrop$School", "values", "[I", true)
  | 5 => ("EggDrop$School", "clauses", "I", false)
  | _ => ("EggDrop$School", "size", "I", false)
def tyX6 : Nat → FieldType := fun k => match k with
  | 0 => .array .int
  | 1 => .array .int
  | 2 => .array .int
  | 3 => .array .int
  | 4 => .array .int
  | 5 => .int
  | _ => .int
abbrev wsX60 : List Cond := u_ws RX6 TX6 7
theorem nmX6 : ∀ a, a < 7 → ∀ b, b < 7 → a ≠ b → (TX6 a).2.1 ≠ (TX6 b).2.1 := by decide +kernel
theorem tyX6_ok : ∀ k, k < 7 → parseFieldDescriptor (TX6 k).2.2.1 = some (tyX6 k) := by decide +kernel
abbrev cX6_init : ByteArray := prog_8_method_1_code
def yX6_init : MethodName := ⟨RX6, "<init>", "()V"⟩
abbrev cX6_clear : ByteArray := prog_8_method_2_code
def yX6_clear : MethodName := ⟨RX6, "clear", "()V"⟩
abbrev cX6_copyFrom : ByteArray := prog_8_method_3_code
def yX6_copyFrom : MethodName := ⟨RX6, "copyFrom", "(LEggDrop$School;)V"⟩
abbrev cX6_addStep : ByteArray := prog_8_method_4_code
def yX6_addStep : MethodName := ⟨RX6, "addStep", "(I)V"⟩
abbrev cX6_addClause : ByteArray := prog_8_method_5_code
def yX6_addClause : MethodName := ⟨RX6, "addClause", "(II)V"⟩
abbrev cX6_last : ByteArray := prog_8_method_6_code
def yX6_last : MethodName := ⟨RX6, "last", "(II)I"⟩
abbrev cX6_setTest : ByteArray := prog_8_method_7_code
def yX6_setTest : MethodName := ⟨RX6, "setTest", "(IIIII)V"⟩
abbrev cX6_sum : ByteArray := prog_8_method_8_code
def yX6_sum : MethodName := ⟨RX6, "sum", "(I)I"⟩
abbrev cX6_holds : ByteArray := prog_8_method_9_code
def yX6_holds : MethodName := ⟨RX6, "holds", "(II)Z"⟩
abbrev cX6_passes : ByteArray := prog_8_method_10_code
def yX6_passes : MethodName := ⟨RX6, "passes", "(I)Z"⟩
def RX7 : String := "EggDrop$Sheet"
def TX7 : u_T := fun k => match k with
  | 0 => ("EggDrop$Sheet", "floor", "[I", true)
  | 1 => ("EggDrop$Sheet", "below", "[I", true)
  | 2 => ("EggDrop$Sheet", "value", "[I", true)
  | _ => ("EggDrop$Sheet", "size", "I", false)
def tyX7 : Nat → FieldType := fun k => match k with
  | 0 => .array .int
  | 1 => .array .int
  | 2 => .array .int
  | _ => .int
abbrev wsX70 : List Cond := u_ws RX7 TX7 4
theorem nmX7 : ∀ a, a < 4 → ∀ b, b < 4 → a ≠ b → (TX7 a).2.1 ≠ (TX7 b).2.1 := by decide +kernel
theorem tyX7_ok : ∀ k, k < 4 → parseFieldDescriptor (TX7 k).2.2.1 = some (tyX7 k) := by decide +kernel
abbrev cX7_init : ByteArray := prog_9_method_1_code
def yX7_init : MethodName := ⟨RX7, "<init>", "()V"⟩
abbrev cX7_add : ByteArray := prog_9_method_2_code
def yX7_add : MethodName := ⟨RX7, "add", "(III)Z"⟩
abbrev cX7_copyFrom : ByteArray := prog_9_method_3_code
def yX7_copyFrom : MethodName := ⟨RX7, "copyFrom", "(LEggDrop$Sheet;)V"⟩
def RX8 : String := "EggDrop$Tape"
def TX8 : u_T := fun k => match k with
  | 0 => ("EggDrop$Tape", "signs", "[I", true)
  | _ => ("EggDrop$Tape", "size", "I", false)
def tyX8 : Nat → FieldType := fun k => match k with
  | 0 => .array .int
  | _ => .int
abbrev wsX80 : List Cond := u_ws RX8 TX8 2
theorem nmX8 : ∀ a, a < 2 → ∀ b, b < 2 → a ≠ b → (TX8 a).2.1 ≠ (TX8 b).2.1 := by decide +kernel
theorem tyX8_ok : ∀ k, k < 2 → parseFieldDescriptor (TX8 k).2.2.1 = some (tyX8 k) := by decide +kernel
abbrev cX8_init : ByteArray := prog_10_method_1_code
def yX8_init : MethodName := ⟨RX8, "<init>", "()V"⟩
abbrev cX8_put : ByteArray := prog_10_method_2_code
def yX8_put : MethodName := ⟨RX8, "put", "(I)Z"⟩
abbrev cX8_copyFrom : ByteArray := prog_10_method_3_code
def yX8_copyFrom : MethodName := ⟨RX8, "copyFrom", "(LEggDrop$Tape;)V"⟩
def RX9 : String := "EggDrop"
def TX9 : u_T := fun k => match k with
  | 0 => ("EggDrop", "box", "LEggDrop$Box;", true)
  | 1 => ("EggDrop", "kept", "LEggDrop$Box;", true)
  | 2 => ("EggDrop", "hasKept", "Z", false)
  | 3 => ("EggDrop", "schools", "[LEggDrop$School;", true)
  | 4 => ("EggDrop", "reader", "LEggDrop$Reader;", true)
  | 5 => ("EggDrop", "latest", "LEggDrop$Fall;", true)
  | 6 => ("EggDrop", "acts", "LEggDrop$Acts;", true)
  | _ => ("EggDrop", "fits", "[Z", true)
def tyX9 : Nat → FieldType := fun k => match k with
  | 0 => .object "EggDrop$Box"
  | 1 => .object "EggDrop$Box"
  | 2 => .boolean
  | 3 => .array (.object "EggDrop$School")
  | 4 => .object "EggDrop$Reader"
  | 5 => .object "EggDrop$Fall"
  | 6 => .object "EggDrop$Acts"
  | _ => .array .boolean
abbrev wsX90 : List Cond := u_ws RX9 TX9 8
theorem nmX9 : ∀ a, a < 8 → ∀ b, b < 8 → a ≠ b → (TX9 a).2.1 ≠ (TX9 b).2.1 := by decide +kernel
theorem tyX9_ok : ∀ k, k < 8 → parseFieldDescriptor (TX9 k).2.2.1 = some (tyX9 k) := by decide +kernel
abbrev cX9_init : ByteArray := prog_1_method_1_code
def yX9_init : MethodName := ⟨RX9, "<init>", "()V"⟩
abbrev cX9_feed : ByteArray := prog_1_method_2_code
def yX9_feed : MethodName := ⟨RX9, "feed", "(I)I"⟩
abbrev cX9_school : ByteArray := prog_1_method_3_code
def yX9_school : MethodName := ⟨RX9, "school", "()I"⟩
abbrev cX9_layer : ByteArray := prog_1_method_4_code
def yX9_layer : MethodName := ⟨RX9, "layer", "(IIIII)I"⟩
abbrev cX9_of : ByteArray := prog_1_method_5_code
def yX9_of : MethodName := ⟨RX9, "of", "(II)I"⟩
abbrev cX9_side : ByteArray := prog_1_method_6_code
def yX9_side : MethodName := ⟨RX9, "side", "(II)I"⟩
abbrev cX9_broken : ByteArray := prog_1_method_7_code
def yX9_broken : MethodName := ⟨RX9, "broken", "(IZ)I"⟩
abbrev cX9_row : ByteArray := prog_1_method_8_code
def yX9_row : MethodName := ⟨RX9, "row", "(III)I"⟩
abbrev cX9_egg : ByteArray := prog_1_method_9_code
def yX9_egg : MethodName := ⟨RX9, "egg", "()I"⟩
abbrev cX9_told : ByteArray := prog_1_method_10_code
def yX9_told : MethodName := ⟨RX9, "told", "(I)I"⟩
abbrev cX9_drop : ByteArray := prog_1_method_11_code
def yX9_drop : MethodName := ⟨RX9, "drop", "(II)I"⟩
abbrev cX9_fall : ByteArray := prog_1_method_12_code
def yX9_fall : MethodName := ⟨RX9, "fall", "(III)I"⟩
abbrev cX9_highest : ByteArray := prog_1_method_13_code
def yX9_highest : MethodName := ⟨RX9, "highest", "(I)I"⟩
abbrev cX9_best : ByteArray := prog_1_method_14_code
def yX9_best : MethodName := ⟨RX9, "best", "(II)I"⟩
abbrev cX9_lighter : ByteArray := prog_1_method_15_code
def yX9_lighter : MethodName := ⟨RX9, "lighter", "(III)I"⟩
abbrev cX9_shift : ByteArray := prog_1_method_16_code
def yX9_shift : MethodName := ⟨RX9, "shift", "(II)I"⟩
abbrev cX9_tries : ByteArray := prog_1_method_17_code
def yX9_tries : MethodName := ⟨RX9, "tries", "(II)I"⟩
abbrev cX9_failed : ByteArray := prog_1_method_18_code
def yX9_failed : MethodName := ⟨RX9, "failed", "(II)I"⟩
abbrev cX9_see : ByteArray := prog_1_method_19_code
def yX9_see : MethodName := ⟨RX9, "see", "(IIZ)I"⟩
abbrev cX9_strong : ByteArray := prog_1_method_20_code
def yX9_strong : MethodName := ⟨RX9, "strong", "(I)I"⟩
abbrev cX9_odds : ByteArray := prog_1_method_21_code
def yX9_odds : MethodName := ⟨RX9, "odds", "(II)J"⟩
abbrev cX9_mean : ByteArray := prog_1_method_22_code
def yX9_mean : MethodName := ⟨RX9, "mean", "(II)J"⟩
abbrev cX9_book : ByteArray := prog_1_method_23_code
def yX9_book : MethodName := ⟨RX9, "book", "(III)I"⟩
abbrev cX9_looked : ByteArray := prog_1_method_24_code
def yX9_looked : MethodName := ⟨RX9, "looked", "()I"⟩
abbrev cX9_act : ByteArray := prog_1_method_25_code
def yX9_act : MethodName := ⟨RX9, "act", "(III)I"⟩
abbrev cX9_trace : ByteArray := prog_1_method_26_code
def yX9_trace : MethodName := ⟨RX9, "trace", "(I)I"⟩
abbrev cX9_as : ByteArray := prog_1_method_27_code
def yX9_as : MethodName := ⟨RX9, "as", "(II)I"⟩
abbrev cX9_image : ByteArray := prog_1_method_28_code
def yX9_image : MethodName := ⟨RX9, "image", "()I"⟩
abbrev cX9_undo : ByteArray := prog_1_method_29_code
def yX9_undo : MethodName := ⟨RX9, "undo", "()I"⟩
abbrev cX9_count : ByteArray := prog_1_method_30_code
def yX9_count : MethodName := ⟨RX9, "count", "(I)I"⟩
abbrev cX9_isFloor : ByteArray := prog_1_method_31_code
def yX9_isFloor : MethodName := ⟨RX9, "isFloor", "(I)Z"⟩
abbrev cX9_isSide : ByteArray := prog_1_method_32_code
def yX9_isSide : MethodName := ⟨RX9, "isSide", "(I)Z"⟩
abbrev cX9_isKind : ByteArray := prog_1_method_33_code
def yX9_isKind : MethodName := ⟨RX9, "isKind", "(I)Z"⟩
abbrev cX9_holding : ByteArray := prog_1_method_34_code
def yX9_holding : MethodName := ⟨RX9, "holding", "()LEggDrop$School;"⟩
abbrev cX9_bear : ByteArray := prog_1_method_35_code
def yX9_bear : MethodName := ⟨RX9, "bear", "()I"⟩
abbrev cX9_price : ByteArray := prog_1_method_36_code
def yX9_price : MethodName := ⟨RX9, "price", "(I)I"⟩
abbrev cX9_prices : ByteArray := prog_1_method_37_code
def yX9_prices : MethodName := ⟨RX9, "prices", "()I"⟩
abbrev cX9_letFall : ByteArray := prog_1_method_38_code
def yX9_letFall : MethodName := ⟨RX9, "letFall", "(IIII)V"⟩
abbrev cX9_staysWhole : ByteArray := prog_1_method_39_code
def yX9_staysWhole : MethodName := ⟨RX9, "staysWhole", "(IIII)Z"⟩
abbrev cX9_forceOf : ByteArray := prog_1_method_40_code
def yX9_forceOf : MethodName := ⟨RX9, "forceOf", "(II)I"⟩
abbrev cX9_forceWithShifted : ByteArray := prog_1_method_41_code
def yX9_forceWithShifted : MethodName := ⟨RX9, "forceWithShifted", "(IIII)I"⟩
abbrev cX9_floorsTold : ByteArray := prog_1_method_42_code
def yX9_floorsTold : MethodName := ⟨RX9, "floorsTold", "(II)I"⟩
abbrev cX9_findFits : ByteArray := prog_1_method_43_code
def yX9_findFits : MethodName := ⟨RX9, "findFits", "()V"⟩
abbrev cX9_write : ByteArray := prog_1_method_44_code
def yX9_write : MethodName := ⟨RX9, "write", "(LEggDrop$Sheet;III)I"⟩
abbrev cX9_inLowestTerms : ByteArray := prog_1_method_45_code
def yX9_inLowestTerms : MethodName := ⟨RX9, "inLowestTerms", "(III)J"⟩
def RX10 : String := "EggDropModel"
def TX10 : u_T := fun k => match k with
  | 0 => ("EggDropModel", "thrown", "I", false)
  | 1 => ("EggDropModel", "s", "[I", true)
  | 2 => ("EggDropModel", "image", "[I", true)
  | 3 => ("EggDropModel", "hasImage", "Z", false)
  | 4 => ("EggDropModel", "act", "I", false)
  | 5 => ("EggDropModel", "spot", "I", false)
  | 6 => ("EggDropModel", "end", "I", false)
  | 7 => ("EggDropModel", "isWrong", "Z", false)
  | 8 => ("EggDropModel", "open", "I", false)
  | 9 => ("EggDropModel", "by", "[I", true)
  | 10 => ("EggDropModel", "truths", "[Z", true)
  | 11 => ("EggDropModel", "blown", "I", false)
  | 12 => ("EggDropModel", "priced", "I", false)
  | 13 => ("EggDropModel", "bears", "I", false)
  | 14 => ("EggDropModel", "out", "I", false)
  | 15 => ("EggDropModel", "added", "I", false)
  | 16 => ("EggDropModel", "brokenThen", "I", false)
  | 17 => ("EggDropModel", "cracksThen", "I", false)
  | 18 => ("EggDropModel", "isWhole", "Z", false)
  | 19 => ("EggDropModel", "firstSide", "I", false)
  | 20 => ("EggDropModel", "tells", "[I", true)
  | 21 => ("EggDropModel", "bodies", "[I", true)
  | 22 => ("EggDropModel", "ran", "I", false)
  | 23 => ("EggDropModel", "kind", "I", false)
  | 24 => ("EggDropModel", "number", "I", false)
  | _ => ("EggDropModel", "tellsV", "I", false)
def tyX10 : Nat → FieldType := fun k => match k with
  | 0 => .int
  | 1 => .array .int
  | 2 => .array .int
  | 3 => .boolean
  | 4 => .int
  | 5 => .int
  | 6 => .int
  | 7 => .boolean
  | 8 => .int
  | 9 => .array .int
  | 10 => .array .boolean
  | 11 => .int
  | 12 => .int
  | 13 => .int
  | 14 => .int
  | 15 => .int
  | 16 => .int
  | 17 => .int
  | 18 => .boolean
  | 19 => .int
  | 20 => .array .int
  | 21 => .array .int
  | 22 => .int
  | 23 => .int
  | 24 => .int
  | _ => .int
abbrev wsX100 : List Cond := u_ws RX10 TX10 26
theorem nmX10 : ∀ a, a < 26 → ∀ b, b < 26 → a ≠ b → (TX10 a).2.1 ≠ (TX10 b).2.1 := by decide +kernel
theorem tyX10_ok : ∀ k, k < 26 → parseFieldDescriptor (TX10 k).2.2.1 = some (tyX10 k) := by decide +kernel
abbrev cX10_init : ByteArray := prog_12_method_1_code
def yX10_init : MethodName := ⟨RX10, "<init>", "()V"⟩
abbrev cX10_in : ByteArray := prog_12_method_3_code
def yX10_in : MethodName := ⟨RX10, "in", "(III)Z"⟩
abbrev cX10_isLayer : ByteArray := prog_12_method_4_code
def yX10_isLayer : MethodName := ⟨RX10, "isLayer", "(I)Z"⟩
abbrev cX10_isSide : ByteArray := prog_12_method_5_code
def yX10_isSide : MethodName := ⟨RX10, "isSide", "(I)Z"⟩
abbrev cX10_isFloor : ByteArray := prog_12_method_6_code
def yX10_isFloor : MethodName := ⟨RX10, "isFloor", "(I)Z"⟩
abbrev cX10_feed : ByteArray := prog_12_method_7_code
def yX10_feed : MethodName := ⟨RX10, "feed", "(I)I"⟩
abbrev cX10_here : ByteArray := prog_12_method_8_code
def yX10_here : MethodName := ⟨RX10, "here", "()I"⟩
abbrev cX10_must : ByteArray := prog_12_method_9_code
def yX10_must : MethodName := ⟨RX10, "must", "(I)V"⟩
abbrev cX10_spells : ByteArray := prog_12_method_10_code
def yX10_spells : MethodName := ⟨RX10, "spells", "(Ljava/lang/String;)V"⟩
abbrev cX10_figures : ByteArray := prog_12_method_11_code
def yX10_figures : MethodName := ⟨RX10, "figures", "()I"⟩
abbrev cX10_among : ByteArray := prog_12_method_12_code
def yX10_among : MethodName := ⟨RX10, "among", "(Ljava/lang/String;)I"⟩
abbrev cX10_emits : ByteArray := prog_12_method_13_code
def yX10_emits : MethodName := ⟨RX10, "emits", "(I)V"⟩
abbrev cX10_factor : ByteArray := prog_12_method_14_code
def yX10_factor : MethodName := ⟨RX10, "factor", "()V"⟩
abbrev cX10_every : ByteArray := prog_12_method_15_code
def yX10_every : MethodName := ⟨RX10, "every", "()V"⟩
abbrev cX10_some : ByteArray := prog_12_method_16_code
def yX10_some : MethodName := ⟨RX10, "some", "()V"⟩
abbrev cX10_much : ByteArray := prog_12_method_17_code
def yX10_much : MethodName := ⟨RX10, "much", "(ILjava/lang/String;)V"⟩
abbrev cX10_tellsHere : ByteArray := prog_12_method_18_code
def yX10_tellsHere : MethodName := ⟨RX10, "tellsHere", "(ILjava/lang/String;)V"⟩
abbrev cX10_clauseHere : ByteArray := prog_12_method_19_code
def yX10_clauseHere : MethodName := ⟨RX10, "clauseHere", "()V"⟩
abbrev cX10_school : ByteArray := prog_12_method_20_code
def yX10_school : MethodName := ⟨RX10, "school", "()I"⟩
abbrev cX10_tellsOf : ByteArray := prog_12_method_21_code
def yX10_tellsOf : MethodName := ⟨RX10, "tellsOf", "(II)I"⟩
abbrev cX10_looks : ByteArray := prog_12_method_22_code
def yX10_looks : MethodName := ⟨RX10, "looks", "(IIII)V"⟩
abbrev cX10_priceOf : ByteArray := prog_12_method_23_code
def yX10_priceOf : MethodName := ⟨RX10, "priceOf", "(I)I"⟩
abbrev cX10_layer : ByteArray := prog_12_method_24_code
def yX10_layer : MethodName := ⟨RX10, "layer", "(IIIII)I"⟩
abbrev cX10_of : ByteArray := prog_12_method_25_code
def yX10_of : MethodName := ⟨RX10, "of", "(II)I"⟩
abbrev cX10_side : ByteArray := prog_12_method_26_code
def yX10_side : MethodName := ⟨RX10, "side", "(II)I"⟩
abbrev cX10_broken : ByteArray := prog_12_method_27_code
def yX10_broken : MethodName := ⟨RX10, "broken", "(IZ)I"⟩
abbrev cX10_row : ByteArray := prog_12_method_28_code
def yX10_row : MethodName := ⟨RX10, "row", "(III)I"⟩
abbrev cX10_egg : ByteArray := prog_12_method_29_code
def yX10_egg : MethodName := ⟨RX10, "egg", "()I"⟩
abbrev cX10_weightBut : ByteArray := prog_12_method_30_code
def yX10_weightBut : MethodName := ⟨RX10, "weightBut", "(I)I"⟩
abbrev cX10_prices : ByteArray := prog_12_method_31_code
def yX10_prices : MethodName := ⟨RX10, "prices", "()I"⟩
abbrev cX10_told : ByteArray := prog_12_method_32_code
def yX10_told : MethodName := ⟨RX10, "told", "(I)I"⟩
abbrev cX10_takesOf : ByteArray := prog_12_method_33_code
def yX10_takesOf : MethodName := ⟨RX10, "takesOf", "(III)I"⟩
abbrev cX10_lands : ByteArray := prog_12_method_34_code
def yX10_lands : MethodName := ⟨RX10, "lands", "(III)I"⟩
abbrev cX10_strikes : ByteArray := prog_12_method_35_code
def yX10_strikes : MethodName := ⟨RX10, "strikes", "(I)V"⟩
abbrev cX10_falls : ByteArray := prog_12_method_36_code
def yX10_falls : MethodName := ⟨RX10, "falls", "(II)I"⟩
abbrev cX10_fallsNow : ByteArray := prog_12_method_37_code
def yX10_fallsNow : MethodName := ⟨RX10, "fallsNow", "(II)I"⟩
abbrev cX10_drop : ByteArray := prog_12_method_38_code
def yX10_drop : MethodName := ⟨RX10, "drop", "(II)I"⟩
abbrev cX10_fall : ByteArray := prog_12_method_39_code
def yX10_fall : MethodName := ⟨RX10, "fall", "(III)I"⟩
abbrev cX10_highest : ByteArray := prog_12_method_40_code
def yX10_highest : MethodName := ⟨RX10, "highest", "(I)I"⟩
abbrev cX10_best : ByteArray := prog_12_method_41_code
def yX10_best : MethodName := ⟨RX10, "best", "(II)I"⟩
abbrev cX10_lighter : ByteArray := prog_12_method_42_code
def yX10_lighter : MethodName := ⟨RX10, "lighter", "(III)I"⟩
abbrev cX10_shift : ByteArray := prog_12_method_43_code
def yX10_shift : MethodName := ⟨RX10, "shift", "(II)I"⟩
abbrev cX10_tries : ByteArray := prog_12_method_44_code
def yX10_tries : MethodName := ⟨RX10, "tries", "(II)I"⟩
abbrev cX10_isSet : ByteArray := prog_12_method_45_code
def yX10_isSet : MethodName := ⟨RX10, "isSet", "(I)Z"⟩
abbrev cX10_failed : ByteArray := prog_12_method_46_code
def yX10_failed : MethodName := ⟨RX10, "failed", "(II)I"⟩
abbrev cX10_see : ByteArray := prog_12_method_47_code
def yX10_see : MethodName := ⟨RX10, "see", "(IIZ)I"⟩
abbrev cX10_isAsSeen : ByteArray := prog_12_method_48_code
def yX10_isAsSeen : MethodName := ⟨RX10, "isAsSeen", "(I)Z"⟩
abbrev cX10_strong : ByteArray := prog_12_method_49_code
def yX10_strong : MethodName := ⟨RX10, "strong", "(I)I"⟩
abbrev cX10_lowest : ByteArray := prog_12_method_50_code
def yX10_lowest : MethodName := ⟨RX10, "lowest", "(JJI)J"⟩
abbrev cX10_odds : ByteArray := prog_12_method_51_code
def yX10_odds : MethodName := ⟨RX10, "odds", "(II)J"⟩
abbrev cX10_mean : ByteArray := prog_12_method_52_code
def yX10_mean : MethodName := ⟨RX10, "mean", "(II)J"⟩
abbrev cX10_book : ByteArray := prog_12_method_53_code
def yX10_book : MethodName := ⟨RX10, "book", "(III)I"⟩
abbrev cX10_looked : ByteArray := prog_12_method_54_code
def yX10_looked : MethodName := ⟨RX10, "looked", "()I"⟩
abbrev cX10_ranBody : ByteArray := prog_12_method_55_code
def yX10_ranBody : MethodName := ⟨RX10, "ranBody", "(I)V"⟩
abbrev cX10_isUnder : ByteArray := prog_12_method_56_code
def yX10_isUnder : MethodName := ⟨RX10, "isUnder", "(II)Z"⟩
abbrev cX10_plainGives : ByteArray := prog_12_method_57_code
def yX10_plainGives : MethodName := ⟨RX10, "plainGives", "(I)I"⟩
abbrev cX10_givesActs : ByteArray := prog_12_method_58_code
def yX10_givesActs : MethodName := ⟨RX10, "givesActs", "(I)I"⟩
abbrev cX10_plainTakes : ByteArray := prog_12_method_59_code
def yX10_plainTakes : MethodName := ⟨RX10, "plainTakes", "(I)I"⟩
abbrev cX10_takesActs : ByteArray := prog_12_method_60_code
def yX10_takesActs : MethodName := ⟨RX10, "takesActs", "(I)I"⟩
abbrev cX10_plainTells : ByteArray := prog_12_method_61_code
def yX10_plainTells : MethodName := ⟨RX10, "plainTells", "(I)I"⟩
abbrev cX10_tellsActs : ByteArray := prog_12_method_62_code
def yX10_tellsActs : MethodName := ⟨RX10, "tellsActs", "(I)I"⟩
abbrev cX10_act : ByteArray := prog_12_method_63_code
def yX10_act : MethodName := ⟨RX10, "act", "(III)I"⟩
abbrev cX10_trace : ByteArray := prog_12_method_64_code
def yX10_trace : MethodName := ⟨RX10, "trace", "(I)I"⟩
abbrev cX10_as : ByteArray := prog_12_method_65_code
def yX10_as : MethodName := ⟨RX10, "as", "(II)I"⟩
abbrev cX10_image : ByteArray := prog_12_method_66_code
def yX10_image : MethodName := ⟨RX10, "image", "()I"⟩
abbrev cX10_undo : ByteArray := prog_12_method_67_code
def yX10_undo : MethodName := ⟨RX10, "undo", "()I"⟩
abbrev cX10_count : ByteArray := prog_12_method_68_code
def yX10_count : MethodName := ⟨RX10, "count", "(I)I"⟩
def RJ9 : String := "java/lang/Math"
def TJ9 : u_T := fun k => match k with
  | _ => ("", "", "", false)
def tyJ9 : Nat → FieldType := fun k => match k with
  | _ => .int
abbrev wsJ90 : List Cond := u_ws RJ9 TJ9 0
theorem nmJ9 : ∀ a, a < 0 → ∀ b, b < 0 → a ≠ b → (TJ9 a).2.1 ≠ (TJ9 b).2.1 := by decide +kernel
theorem tyJ9_ok : ∀ k, k < 0 → parseFieldDescriptor (TJ9 k).2.2.1 = some (tyJ9 k) := by decide +kernel
abbrev cJ9_max_7cf53 : ByteArray := prog_13_method_65_code
def yJ9_max_7cf53 : MethodName := ⟨RJ9, "max", "(II)I"⟩
abbrev cJ9_min_7cf53 : ByteArray := prog_13_method_69_code
def yJ9_min_7cf53 : MethodName := ⟨RJ9, "min", "(II)I"⟩
def RJ0 : String := "java/lang/String"
def TJ0 : u_T := fun k => match k with
  | _ => ("", "", "", false)
def tyJ0 : Nat → FieldType := fun k => match k with
  | _ => .int
abbrev wsJ00 : List Cond := u_ws RJ0 TJ0 0
theorem nmJ0 : ∀ a, a < 0 → ∀ b, b < 0 → a ≠ b → (TJ0 a).2.1 ≠ (TJ0 b).2.1 := by decide +kernel
theorem tyJ0_ok : ∀ k, k < 0 → parseFieldDescriptor (TJ0 k).2.2.1 = some (tyJ0 k) := by decide +kernel
abbrev cJ0_length_8abf5 : ByteArray := prog_14_method_54_code
def yJ0_length_8abf5 : MethodName := ⟨RJ0, "length", "()I"⟩
abbrev cJ0_charAt_5068e : ByteArray := prog_14_method_56_code
def yJ0_charAt_5068e : MethodName := ⟨RJ0, "charAt", "(I)C"⟩
abbrev cJ0_coder_7d493 : ByteArray := prog_14_method_152_code
def yJ0_coder_7d493 : MethodName := ⟨RJ0, "coder", "()B"⟩
abbrev cJ0_isLatin1_aae02 : ByteArray := prog_14_method_154_code
def yJ0_isLatin1_aae02 : MethodName := ⟨RJ0, "isLatin1", "()Z"⟩
abbrev cJ0_checkIndex_df160 : ByteArray := prog_14_method_155_code
def yJ0_checkIndex_df160 : MethodName := ⟨RJ0, "checkIndex", "(II)V"⟩
def RJ1 : String := "java/lang/StringLatin1"
def TJ1 : u_T := fun k => match k with
  | _ => ("", "", "", false)
def tyJ1 : Nat → FieldType := fun k => match k with
  | _ => .int
abbrev wsJ10 : List Cond := u_ws RJ1 TJ1 0
theorem nmJ1 : ∀ a, a < 0 → ∀ b, b < 0 → a ≠ b → (TJ1 a).2.1 ≠ (TJ1 b).2.1 := by decide +kernel
theorem tyJ1_ok : ∀ k, k < 0 → parseFieldDescriptor (TJ1 k).2.2.1 = some (tyJ1 k) := by decide +kernel
abbrev cJ1_charAt_3b067 : ByteArray := prog_15_method_2_code
def yJ1_charAt_3b067 : MethodName := ⟨RJ1, "charAt", "([BI)C"⟩
def RJ2 : String := "java/lang/StringUTF16"
def TJ2 : u_T := fun k => match k with
  | _ => ("", "", "", false)
def tyJ2 : Nat → FieldType := fun k => match k with
  | _ => .int
abbrev wsJ20 : List Cond := u_ws RJ2 TJ2 0
theorem nmJ2 : ∀ a, a < 0 → ∀ b, b < 0 → a ≠ b → (TJ2 a).2.1 ≠ (TJ2 b).2.1 := by decide +kernel
theorem tyJ2_ok : ∀ k, k < 0 → parseFieldDescriptor (TJ2 k).2.2.1 = some (tyJ2 k) := by decide +kernel
abbrev cJ2_getChar_3b067 : ByteArray := prog_16_method_5_code
def yJ2_getChar_3b067 : MethodName := ⟨RJ2, "getChar", "([BI)C"⟩
abbrev cJ2_length_9d52b : ByteArray := prog_16_method_6_code
def yJ2_length_9d52b : MethodName := ⟨RJ2, "length", "([B)I"⟩
abbrev cJ2_charAt_3b067 : ByteArray := prog_16_method_83_code
def yJ2_charAt_3b067 : MethodName := ⟨RJ2, "charAt", "([BI)C"⟩
abbrev cJ2_checkIndex_2214a : ByteArray := prog_16_method_91_code
def yJ2_checkIndex_2214a : MethodName := ⟨RJ2, "checkIndex", "(I[B)V"⟩
def RJ10 : String := "java/lang/System"
def TJ10 : u_T := fun k => match k with
  | _ => ("", "", "", false)
def tyJ10 : Nat → FieldType := fun k => match k with
  | _ => .int
abbrev wsJ100 : List Cond := u_ws RJ10 TJ10 0
theorem nmJ10 : ∀ a, a < 0 → ∀ b, b < 0 → a ≠ b → (TJ10 a).2.1 ≠ (TJ10 b).2.1 := by decide +kernel
theorem tyJ10_ok : ∀ k, k < 0 → parseFieldDescriptor (TJ10 k).2.2.1 = some (tyJ10 k) := by decide +kernel
def RJ3 : String := "jdk/internal/util/Preconditions"
def TJ3 : u_T := fun k => match k with
  | _ => ("", "", "", false)
def tyJ3 : Nat → FieldType := fun k => match k with
  | _ => .int
abbrev wsJ30 : List Cond := u_ws RJ3 TJ3 0
theorem nmJ3 : ∀ a, a < 0 → ∀ b, b < 0 → a ≠ b → (TJ3 a).2.1 ≠ (TJ3 b).2.1 := by decide +kernel
theorem tyJ3_ok : ∀ k, k < 0 → parseFieldDescriptor (TJ3 k).2.2.1 = some (tyJ3 k) := by decide +kernel
abbrev cJ3_checkIndex_8e157 : ByteArray := prog_18_method_11_code
def yJ3_checkIndex_8e157 : MethodName := ⟨RJ3, "checkIndex", "(IILjava/util/function/BiFunction;)I"⟩
def RL : String := "EggDropLaw"
abbrev cL_law : ByteArray := code
def yL_law : MethodName := ⟨RL, "law", "([I)Z"⟩
abbrev vwCl : List vw_C := [(RX0, TX0, 5), (RX1, TX1, 7), (RX2, TX2, 2), (RX3, TX3, 10), (RX4, TX4, 8), (RX5, TX5, 4), (RX6, TX6, 7), (RX7, TX7, 4), (RX8, TX8, 2), (RX9, TX9, 8), (RX10, TX10, 26)]
end
section
/-! the code of the methods for the abstract machine, by program (wip/whole/gen2.py) -/
abbrev zAI : Type := Nat × (Nat × (Nat × Int32))
def kX0_clear : List (List zAI) := [[(55, 0, 0, 0), (3, 0, 0, 0), (15, 0, 1, 0), (24, 0, 0, 0)]]
def kX0_take : List (List zAI) := [[(55, 0, 0, 0), (55, 1, 0, 0), (14, 4, 0, 0), (0, 2, 0, 0), (17, 0, 0, 0), (15, 0, 2, 0), (55, 0, 0, 0), (55, 1, 0, 0), (14, 4, 1, 0), (0, 2, 0, 0), (17, 0, 0, 0), (15, 0, 3, 0), (55, 0, 0, 0), (0, 2, 0, 0), (15, 0, 4, 0), (24, 0, 0, 0)]]
def kX0_begin : List (List zAI) := [[(55, 0, 0, 0), (13, 0, 1, 0), (10, 1, 2, 0), (55, 0, 0, 0), (13, 0, 1, 0), (3, 0, 0, 20), (9, 1, 3, 0), (55, 0, 0, 0), (14, 0, 0, 0), (55, 0, 0, 0), (13, 0, 1, 0), (0, 1, 0, 0), (18, 0, 0, 0), (12, 1, 0, 0)],
  [(55, 0, 0, 0), (29, 0, 0, 0), (13, 0, 1, 0), (3, 0, 0, 1), (60, 0, 0, 0), (15, 0, 1, 0), (24, 0, 0, 0)]]
def kX0_gives : List (List zAI) := [[(55, 0, 0, 0), (13, 0, 2, 0), (38, 0, 5, 0)],
  [(55, 0, 0, 0), (3, 0, 0, 11), (58, 3, 32, 0), (55, 0, 0, 0), (3, 0, 0, 1), (58, 3, 32, 0), (0, 1, 0, 0), (3, 0, 0, 3), (62, 0, 0, 0), (55, 0, 0, 0), (13, 0, 4, 0), (60, 0, 0, 0), (25, 0, 0, 0)],
  [(55, 0, 0, 0), (3, 0, 0, 51), (58, 3, 32, 0), (55, 0, 0, 0), (3, 0, 0, 1), (58, 3, 32, 0), (0, 1, 0, 0), (55, 0, 0, 0), (13, 0, 4, 0), (60, 0, 0, 0), (55, 0, 0, 0), (13, 0, 4, 0), (65, 0, 0, 0), (25, 0, 0, 0)],
  [(55, 0, 0, 0), (3, 0, 0, 1), (58, 3, 32, 0), (0, 1, 0, 0), (55, 0, 0, 0), (13, 0, 4, 0), (60, 0, 0, 0), (25, 0, 0, 0)]]
def kX0_takes : List (List zAI) := [[(55, 0, 0, 0), (13, 0, 2, 0), (38, 1, 5, 0)],
  [(55, 0, 0, 0), (3, 0, 0, 21), (58, 3, 32, 0), (55, 0, 0, 0), (0, 1, 0, 0), (58, 7, 32, 0), (8, 0, 0, 0), (25, 0, 0, 0)],
  [(55, 0, 0, 0), (3, 0, 0, 61), (58, 3, 32, 0), (55, 0, 0, 0), (0, 1, 0, 0), (58, 7, 32, 0), (55, 0, 0, 0), (13, 0, 3, 0), (60, 0, 0, 0), (25, 0, 0, 0)],
  [(55, 0, 0, 0), (0, 1, 0, 0), (58, 7, 32, 0), (25, 0, 0, 0)]]
def kX0_tells : List (List zAI) := [[(55, 0, 0, 0), (13, 0, 2, 0), (38, 2, 4, 0)],
  [(55, 0, 0, 0), (3, 0, 0, 31), (58, 3, 32, 0), (55, 0, 0, 0), (0, 1, 0, 0), (58, 8, 32, 0), (3, 0, 0, 7), (65, 0, 0, 0), (25, 0, 0, 0)],
  [(55, 0, 0, 0), (3, 0, 0, 41), (58, 3, 32, 0), (55, 0, 0, 0), (0, 1, 0, 0), (3, 0, 0, 1), (61, 0, 0, 0), (58, 8, 32, 0), (55, 0, 0, 0), (3, 0, 0, 2), (58, 4, 32, 0), (60, 0, 0, 0), (25, 0, 0, 0)],
  [(55, 0, 0, 0), (0, 1, 0, 0), (58, 8, 32, 0), (25, 0, 0, 0)]]
def kX0_takesAtTop : List (List zAI) := [[(55, 0, 0, 0), (3, 0, 0, 2), (58, 3, 32, 0), (55, 0, 0, 0), (0, 1, 0, 0), (58, 4, 32, 0), (55, 0, 0, 0), (13, 0, 3, 0), (61, 0, 0, 0), (25, 0, 0, 0)]]
def kX0_tellsAtTop : List (List zAI) := [[(55, 0, 0, 0), (3, 0, 0, 3), (58, 3, 32, 0), (55, 0, 0, 0), (0, 1, 0, 0), (58, 5, 32, 0), (3, 0, 0, 2), (62, 0, 0, 0), (25, 0, 0, 0)]]
def kX1_copyFrom : List (List zAI) := [[(55, 0, 0, 0), (14, 1, 0, 0), (55, 1, 0, 0), (14, 1, 0, 0), (58, 63, 40, 0), (55, 0, 0, 0), (14, 1, 1, 0), (55, 1, 0, 0), (14, 1, 1, 0), (58, 34, 36, 0), (55, 0, 0, 0), (14, 1, 2, 0), (55, 1, 0, 0), (14, 1, 2, 0), (58, 14, 34, 0), (55, 0, 0, 0), (14, 1, 3, 0), (55, 1, 0, 0), (14, 1, 3, 0), (58, 60, 39, 0), (55, 0, 0, 0), (14, 1, 4, 0), (55, 1, 0, 0), (14, 1, 4, 0), (58, 60, 39, 0), (55, 0, 0, 0), (55, 1, 0, 0), (13, 1, 5, 0), (15, 1, 5, 0), (55, 0, 0, 0), (55, 1, 0, 0), (13, 1, 6, 0), (15, 1, 6, 0), (24, 0, 0, 0)]]
def kX2_renew : List (List zAI) := [[(55, 0, 0, 0), (3, 0, 0, 0), (15, 2, 0, 0), (55, 0, 0, 0), (3, 0, 0, 1), (54, 2, 1, 0), (24, 0, 0, 0)]]
def kX2_land : List (List zAI) := [[(55, 0, 0, 0), (13, 2, 1, 0), (10, 1, 1, 0), (24, 0, 0, 0)],
  [(3, 0, 0, 0), (0, 2, 0, 0), (3, 0, 0, 3), (55, 0, 0, 0), (13, 2, 0, 0), (62, 0, 0, 0), (61, 0, 0, 0), (42, 0, 0, 0), (1, 3, 0, 0), (0, 1, 0, 0), (0, 3, 0, 0), (9, 2, 5, 0), (55, 0, 0, 0), (3, 0, 0, 0), (54, 2, 1, 0), (11, 3, 0, 0)],
  [(3, 0, 0, 2), (0, 1, 0, 0), (62, 0, 0, 0), (0, 3, 0, 0), (9, 3, 5, 0), (55, 0, 0, 0), (29, 0, 0, 0), (13, 2, 0, 0), (3, 0, 0, 1), (60, 0, 0, 0), (15, 2, 0, 0), (12, 3, 0, 0)],
  [(24, 0, 0, 0)]]
def kX2_copyFrom : List (List zAI) := [[(55, 0, 0, 0), (55, 1, 0, 0), (13, 2, 0, 0), (15, 2, 0, 0), (55, 0, 0, 0), (55, 1, 0, 0), (13, 2, 1, 0), (54, 2, 1, 0), (24, 0, 0, 0)]]
def kX3_happen : List (List zAI) := [[(55, 0, 0, 0), (55, 1, 0, 0), (14, 1, 1, 0), (16, 3, 3, 0), (55, 0, 0, 0), (55, 1, 0, 0), (13, 1, 6, 0), (15, 3, 4, 0), (55, 0, 0, 0), (0, 3, 0, 0), (15, 3, 5, 0), (55, 0, 0, 0), (0, 6, 0, 0), (15, 3, 6, 0), (55, 0, 0, 0), (55, 0, 0, 0), (14, 3, 3, 0), (13, 4, 6, 0), (15, 3, 2, 0), (55, 0, 0, 0), (0, 4, 0, 0), (55, 2, 0, 0), (3, 0, 0, 1), (3, 0, 0, 1), (58, 53, 54, 0), (55, 0, 0, 0), (13, 3, 5, 0), (62, 0, 0, 0), (60, 0, 0, 0), (3, 0, 0, 4), (7, 0, 0, 0), (15, 3, 1, 0), (55, 0, 0, 0), (14, 3, 3, 0), (0, 6, 0, 0), (58, 33, 36, 0), (3, 0, 0, 10), (6, 0, 0, 0), (1, 7, 0, 0), (55, 2, 0, 0), (55, 0, 0, 0), (13, 3, 5, 0), (55, 0, 0, 0), (13, 3, 1, 0), (3, 0, 0, 9), (0, 7, 0, 0), (55, 0, 0, 0), (13, 3, 4, 0), (3, 0, 0, 10), (7, 0, 0, 0), (58, 54, 102, 0), (3, 0, 0, 5), (55, 0, 0, 0), (13, 3, 5, 0), (62, 0, 0, 0), (55, 2, 0, 0), (3, 0, 0, 2), (58, 55, 38, 0), (60, 0, 0, 0), (0, 7, 0, 0), (60, 0, 0, 0), (0, 5, 0, 0), (60, 0, 0, 0), (1, 8, 0, 0), (55, 0, 0, 0), (55, 0, 0, 0), (55, 0, 0, 0), (13, 3, 1, 0), (0, 8, 0, 0), (58, 21, 51, 0), (15, 3, 7, 0), (55, 0, 0, 0), (0, 8, 0, 0), (3, 0, 0, 20), (9, 1, 5, 0), (3, 0, 0, 1), (11, 2, 0, 0)],
  [(3, 0, 0, 0), (12, 2, 0, 0)],
  [(54, 3, 9, 0), (55, 0, 0, 0), (55, 0, 0, 0), (13, 3, 9, 0), (10, 3, 0, 0), (55, 0, 0, 0), (55, 0, 0, 0), (13, 3, 1, 0), (3, 0, 0, 1), (60, 0, 0, 0), (3, 0, 0, 4), (7, 0, 0, 0), (0, 8, 0, 0), (3, 0, 0, 2), (6, 0, 0, 0), (58, 21, 51, 0), (11, 4, 0, 0)],
  [(3, 0, 0, 0), (12, 4, 0, 0)],
  [(15, 3, 8, 0), (24, 0, 0, 0)]]
def kX3_force : List (List zAI) := [[(55, 0, 0, 0), (13, 3, 7, 0), (55, 0, 0, 0), (13, 3, 8, 0), (42, 0, 0, 0), (25, 0, 0, 0)]]
def kX3_meet : List (List zAI) := [[(55, 0, 0, 0), (14, 3, 0, 0), (55, 1, 0, 0), (58, 14, 34, 0), (55, 0, 0, 0), (0, 2, 0, 0), (58, 20, 35, 0), (24, 0, 0, 0)]]
def kX3_meetNew : List (List zAI) := [[(55, 0, 0, 0), (14, 3, 0, 0), (58, 12, 18, 0), (55, 0, 0, 0), (0, 1, 0, 0), (58, 20, 35, 0), (24, 0, 0, 0)]]
def kX3_landAll : List (List zAI) := [[(55, 0, 0, 0), (14, 3, 0, 0), (55, 0, 0, 0), (13, 3, 7, 0), (0, 1, 0, 0), (58, 13, 50, 0), (55, 0, 0, 0), (13, 3, 9, 0), (10, 1, 0, 0), (55, 0, 0, 0), (14, 3, 0, 0), (55, 0, 0, 0), (13, 3, 8, 0), (0, 1, 0, 0), (58, 13, 50, 0), (12, 1, 0, 0)],
  [(24, 0, 0, 0)]]
def kX3_goThrough : List (List zAI) := [[(0, 2, 0, 0), (1, 3, 0, 0), (3, 0, 0, 0), (1, 4, 0, 0), (12, 1, 0, 0)],
  [(0, 4, 0, 0), (55, 0, 0, 0), (14, 3, 3, 0), (13, 4, 7, 0), (9, 5, 3, 0), (0, 4, 0, 0), (3, 0, 0, 8), (9, 5, 3, 0), (55, 0, 0, 0), (13, 3, 2, 0), (55, 0, 0, 0), (13, 3, 6, 0), (64, 0, 0, 0), (0, 4, 0, 0), (67, 0, 0, 0), (3, 0, 0, 1), (63, 0, 0, 0), (10, 2, 1, 0), (3, 0, 0, 1), (11, 3, 0, 0)],
  [(3, 0, 0, 0), (12, 3, 0, 0)],
  [(1, 5, 0, 0), (0, 5, 0, 0), (10, 4, 0, 0), (55, 0, 0, 0), (14, 3, 3, 0), (14, 4, 4, 0), (0, 4, 0, 0), (17, 0, 0, 0), (0, 1, 0, 0), (9, 4, 1, 0), (3, 0, 0, 0), (0, 3, 0, 0), (55, 0, 0, 0), (0, 4, 0, 0), (0, 3, 0, 0), (58, 22, 51, 0), (61, 0, 0, 0), (42, 0, 0, 0), (1, 3, 0, 0), (12, 4, 0, 0)],
  [(4, 4, 0, 1), (11, 1, 0, 0)],
  [(0, 3, 0, 0), (25, 0, 0, 0)]]
def kX3_takenBy : List (List zAI) := [[(55, 0, 0, 0), (14, 3, 3, 0), (14, 4, 2, 0), (0, 1, 0, 0), (17, 0, 0, 0), (1, 3, 0, 0), (55, 0, 0, 0), (14, 3, 3, 0), (14, 4, 0, 0), (0, 1, 0, 0), (17, 0, 0, 0), (38, 3, 6, 0)],
  [(0, 3, 0, 0), (0, 2, 0, 0), (23, 23, 2, 0), (25, 0, 0, 0)],
  [(55, 0, 0, 0), (0, 1, 0, 0), (0, 2, 0, 0), (3, 0, 0, 0), (58, 25, 67, 0), (25, 0, 0, 0)],
  [(0, 3, 0, 0), (0, 2, 0, 0), (23, 24, 2, 0), (25, 0, 0, 0)],
  [(55, 0, 0, 0), (13, 3, 5, 0), (3, 0, 0, 2), (7, 0, 0, 0), (3, 0, 0, 1), (9, 5, 1, 0), (3, 0, 0, 0), (11, 6, 0, 0)],
  [(0, 3, 0, 0), (0, 2, 0, 0), (23, 23, 2, 0), (12, 6, 0, 0)],
  [(25, 0, 0, 0)],
  [(55, 0, 0, 0), (0, 1, 0, 0), (0, 2, 0, 0), (55, 0, 0, 0), (14, 3, 3, 0), (14, 4, 1, 0), (0, 1, 0, 0), (17, 0, 0, 0), (58, 25, 67, 0), (25, 0, 0, 0)],
  [(0, 3, 0, 0), (0, 2, 0, 0), (23, 24, 2, 0), (55, 0, 0, 0), (14, 3, 3, 0), (14, 4, 5, 0), (0, 1, 0, 0), (3, 0, 0, 3), (62, 0, 0, 0), (55, 0, 0, 0), (13, 3, 4, 0), (3, 0, 0, 3), (7, 0, 0, 0), (60, 0, 0, 0), (17, 0, 0, 0), (60, 0, 0, 0), (25, 0, 0, 0)],
  [(0, 3, 0, 0), (25, 0, 0, 0)]]
def kX3_crumpled : List (List zAI) := [[(0, 1, 0, 0), (3, 0, 0, 20), (9, 1, 5, 0), (3, 0, 0, 2), (0, 0, 0, 0), (62, 0, 0, 0), (11, 2, 0, 0)],
  [(0, 0, 0, 0), (12, 2, 0, 0)],
  [(25, 0, 0, 0)]]
def kX3_hung : List (List zAI) := [[(0, 1, 0, 0), (3, 0, 0, 10), (0, 0, 0, 0), (62, 0, 0, 0), (9, 1, 4, 0), (0, 1, 0, 0), (3, 0, 0, 2), (6, 0, 0, 0), (11, 2, 0, 0)],
  [(0, 0, 0, 0), (12, 2, 0, 0)],
  [(25, 0, 0, 0)]]
def kX3_standing : List (List zAI) := [[(3, 0, 0, 3), (55, 0, 0, 0), (14, 3, 3, 0), (14, 4, 2, 0), (0, 1, 0, 0), (17, 0, 0, 0), (62, 0, 0, 0), (1, 4, 0, 0), (0, 2, 0, 0), (3, 0, 0, 10), (55, 0, 0, 0), (14, 3, 3, 0), (14, 4, 1, 0), (0, 1, 0, 0), (17, 0, 0, 0), (62, 0, 0, 0), (9, 1, 5, 0), (55, 0, 0, 0), (29, 0, 0, 0), (13, 3, 2, 0), (3, 0, 0, 1), (0, 1, 0, 0), (66, 0, 0, 0), (64, 0, 0, 0), (15, 3, 2, 0), (0, 4, 0, 0), (25, 0, 0, 0)],
  [(0, 4, 0, 0), (0, 3, 0, 0), (60, 0, 0, 0), (25, 0, 0, 0)]]
def kX4_isUnder : List (List zAI) := [[(0, 0, 0, 0), (1, 2, 0, 0), (3, 0, 0, 0), (1, 3, 0, 0), (12, 1, 0, 0)],
  [(0, 3, 0, 0), (3, 0, 0, 7), (9, 3, 3, 0), (0, 2, 0, 0), (10, 3, 2, 0), (0, 2, 0, 0), (3, 0, 0, 7), (9, 3, 3, 0), (0, 2, 0, 0), (0, 1, 0, 0), (9, 2, 1, 0), (3, 0, 0, 1), (26, 0, 0, 0)],
  [(45, 0, 0, 0), (0, 2, 0, 0), (17, 0, 0, 0), (1, 2, 0, 0), (4, 3, 0, 1), (11, 1, 0, 0)],
  [(3, 0, 0, 0), (26, 0, 0, 0)]]
def kX4_has : List (List zAI) := [[(0, 1, 0, 0), (10, 1, 2, 0), (0, 1, 0, 0), (55, 0, 0, 0), (13, 4, 7, 0), (9, 1, 3, 0), (0, 1, 0, 0), (3, 0, 0, 8), (9, 1, 3, 0), (3, 0, 0, 1), (11, 2, 0, 0)],
  [(3, 0, 0, 0), (12, 2, 0, 0)],
  [(26, 0, 0, 0)]]
def kX4_isBroken : List (List zAI) := [[(55, 0, 0, 0), (13, 4, 6, 0), (0, 1, 0, 0), (67, 0, 0, 0), (3, 0, 0, 1), (63, 0, 0, 0), (3, 0, 0, 1), (9, 1, 1, 0), (3, 0, 0, 1), (11, 2, 0, 0)],
  [(3, 0, 0, 0), (12, 2, 0, 0)],
  [(26, 0, 0, 0)]]
def kX4_allBits : List (List zAI) := [[(3, 0, 0, 1), (55, 0, 0, 0), (13, 4, 7, 0), (66, 0, 0, 0), (3, 0, 0, 1), (61, 0, 0, 0), (25, 0, 0, 0)]]
def kX4_add : List (List zAI) := [[(55, 0, 0, 0), (13, 4, 7, 0), (10, 1, 2, 0), (55, 0, 0, 0), (13, 4, 7, 0), (3, 0, 0, 8), (9, 2, 2, 0), (12, 1, 0, 0)],
  [(3, 0, 0, (-4)), (25, 0, 0, 0)],
  [(55, 0, 0, 0), (13, 4, 7, 0), (1, 6, 0, 0), (55, 0, 0, 0), (14, 4, 0, 0), (0, 6, 0, 0), (0, 1, 0, 0), (18, 0, 0, 0), (55, 0, 0, 0), (14, 4, 1, 0), (0, 6, 0, 0), (0, 2, 0, 0), (18, 0, 0, 0), (55, 0, 0, 0), (14, 4, 2, 0), (0, 6, 0, 0), (0, 3, 0, 0), (18, 0, 0, 0), (55, 0, 0, 0), (14, 4, 3, 0), (0, 6, 0, 0), (0, 4, 0, 0), (18, 0, 0, 0), (55, 0, 0, 0), (14, 4, 4, 0), (0, 6, 0, 0), (0, 5, 0, 0), (18, 0, 0, 0), (55, 0, 0, 0), (29, 0, 0, 0), (13, 4, 7, 0), (3, 0, 0, 1), (60, 0, 0, 0), (15, 4, 7, 0), (0, 6, 0, 0), (25, 0, 0, 0)]]
def kX4_mark : List (List zAI) := [[(55, 0, 0, 0), (0, 2, 0, 0), (10, 1, 0, 0), (55, 0, 0, 0), (13, 4, 6, 0), (3, 0, 0, 1), (0, 1, 0, 0), (66, 0, 0, 0), (64, 0, 0, 0), (11, 2, 0, 0)],
  [(55, 0, 0, 0), (13, 4, 6, 0), (3, 0, 0, 1), (0, 1, 0, 0), (66, 0, 0, 0), (3, 0, 0, (-1)), (65, 0, 0, 0), (63, 0, 0, 0), (12, 2, 0, 0)],
  [(15, 4, 6, 0), (24, 0, 0, 0)]]
def kX4_weightWithout : List (List zAI) := [[(3, 0, 0, 0), (1, 2, 0, 0), (3, 0, 0, 0), (1, 3, 0, 0), (12, 1, 0, 0)],
  [(0, 3, 0, 0), (55, 0, 0, 0), (13, 4, 7, 0), (9, 3, 3, 0), (0, 3, 0, 0), (3, 0, 0, 8), (9, 3, 3, 0), (0, 1, 0, 0), (0, 3, 0, 0), (67, 0, 0, 0), (3, 0, 0, 1), (63, 0, 0, 0), (10, 2, 1, 0), (0, 2, 0, 0), (55, 0, 0, 0), (14, 4, 3, 0), (0, 3, 0, 0), (17, 0, 0, 0), (60, 0, 0, 0), (1, 2, 0, 0), (12, 2, 0, 0)],
  [(4, 3, 0, 1), (11, 1, 0, 0)],
  [(0, 2, 0, 0), (25, 0, 0, 0)]]
def kX4_copyFrom : List (List zAI) := [[(55, 1, 0, 0), (14, 4, 0, 0), (3, 0, 0, 0), (55, 0, 0, 0), (14, 4, 0, 0), (3, 0, 0, 0), (3, 0, 0, 8), (44, 0, 0, 0), (55, 1, 0, 0), (14, 4, 1, 0), (3, 0, 0, 0), (55, 0, 0, 0), (14, 4, 1, 0), (3, 0, 0, 0), (3, 0, 0, 8), (44, 0, 0, 0), (55, 1, 0, 0), (14, 4, 2, 0), (3, 0, 0, 0), (55, 0, 0, 0), (14, 4, 2, 0), (3, 0, 0, 0), (3, 0, 0, 8), (44, 0, 0, 0), (55, 1, 0, 0), (14, 4, 3, 0), (3, 0, 0, 0), (55, 0, 0, 0), (14, 4, 3, 0), (3, 0, 0, 0), (3, 0, 0, 8), (44, 0, 0, 0), (55, 1, 0, 0), (14, 4, 4, 0), (3, 0, 0, 0), (55, 0, 0, 0), (14, 4, 4, 0), (3, 0, 0, 0), (3, 0, 0, 8), (44, 0, 0, 0), (55, 1, 0, 0), (14, 4, 5, 0), (3, 0, 0, 0), (55, 0, 0, 0), (14, 4, 5, 0), (3, 0, 0, 0), (3, 0, 0, 24), (44, 0, 0, 0), (55, 0, 0, 0), (55, 1, 0, 0), (13, 4, 6, 0), (15, 4, 6, 0), (55, 0, 0, 0), (55, 1, 0, 0), (13, 4, 7, 0), (15, 4, 7, 0), (24, 0, 0, 0)]]
def kX5_read : List (List zAI) := [[(55, 0, 0, 0), (55, 1, 0, 0), (14, 8, 0, 0), (16, 5, 1, 0), (55, 0, 0, 0), (55, 1, 0, 0), (13, 8, 1, 0), (55, 0, 0, 0), (14, 5, 1, 0), (21, 0, 0, 0), (43, 0, 0, 0), (15, 5, 2, 0), (55, 0, 0, 0), (3, 0, 0, 0), (15, 5, 3, 0), (55, 0, 0, 0), (14, 5, 0, 0), (58, 49, 22, 0), (3, 0, 0, 1), (1, 2, 0, 0), (12, 1, 0, 0)],
  [(0, 2, 0, 0), (3, 0, 0, 10), (9, 6, 4, 0), (55, 0, 0, 0), (58, 40, 21, 0), (10, 2, 1, 0), (55, 0, 0, 0), (13, 5, 3, 0), (25, 0, 0, 0)],
  [(55, 0, 0, 0), (13, 5, 3, 0), (55, 0, 0, 0), (13, 5, 2, 0), (9, 3, 1, 0), (3, 0, 0, (-1)), (25, 0, 0, 0)],
  [(0, 2, 0, 0), (3, 0, 0, 10), (9, 4, 0, 0), (55, 0, 0, 0), (3, 0, 0, 59), (58, 38, 37, 0), (10, 5, 1, 0), (12, 4, 0, 0)],
  [(55, 0, 0, 0), (13, 5, 3, 0), (25, 0, 0, 0)],
  [(4, 2, 0, 1), (11, 1, 0, 0)],
  [(55, 0, 0, 0), (13, 5, 3, 0), (25, 0, 0, 0)]]
def kX5_next : List (List zAI) := [[(55, 0, 0, 0), (13, 5, 3, 0), (10, 1, 2, 0), (55, 0, 0, 0), (13, 5, 3, 0), (55, 0, 0, 0), (13, 5, 2, 0), (9, 1, 3, 0), (55, 0, 0, 0), (13, 5, 3, 0), (55, 0, 0, 0), (14, 5, 1, 0), (21, 0, 0, 0), (9, 1, 3, 0), (55, 0, 0, 0), (14, 5, 1, 0), (55, 0, 0, 0), (13, 5, 3, 0), (17, 0, 0, 0), (11, 2, 0, 0)],
  [(3, 0, 0, (-1)), (12, 2, 0, 0)],
  [(25, 0, 0, 0)]]
def kX5_pass : List (List zAI) := [[(55, 0, 0, 0), (58, 37, 21, 0), (0, 1, 0, 0), (9, 1, 0, 0), (3, 0, 0, 0), (26, 0, 0, 0)],
  [(55, 0, 0, 0), (29, 0, 0, 0), (13, 5, 3, 0), (3, 0, 0, 1), (60, 0, 0, 0), (15, 5, 3, 0), (3, 0, 0, 1), (26, 0, 0, 0)]]
def kX5_passAll : List (List zAI) := [[(3, 0, 0, 0), (1, 2, 0, 0), (12, 1, 0, 0)],
  [(0, 2, 0, 0), (55, 1, 0, 0), (39, 0, 0, 0), (9, 3, 3, 0), (55, 0, 0, 0), (55, 1, 0, 0), (0, 2, 0, 0), (40, 0, 0, 0), (58, 38, 37, 0), (10, 2, 1, 0), (3, 0, 0, 0), (26, 0, 0, 0)],
  [(4, 2, 0, 1), (11, 1, 0, 0)],
  [(3, 0, 0, 1), (26, 0, 0, 0)]]
def kX5_readClause : List (List zAI) := [[(55, 0, 0, 0), (58, 41, 21, 0), (1, 1, 0, 0), (0, 1, 0, 0), (10, 1, 3, 0), (3, 0, 0, (-1)), (11, 2, 0, 0)],
  [(55, 0, 0, 0), (58, 43, 21, 0), (12, 2, 0, 0)],
  [(1, 2, 0, 0), (0, 2, 0, 0), (10, 3, 3, 0), (3, 0, 0, 0), (26, 0, 0, 0)],
  [(0, 1, 0, 0), (3, 0, 0, 2), (9, 4, 0, 0), (0, 1, 0, 0), (3, 0, 0, 3), (9, 5, 1, 0), (12, 4, 0, 0)],
  [(3, 0, 0, 1), (11, 6, 0, 0)],
  [(3, 0, 0, 0), (12, 6, 0, 0)],
  [(1, 3, 0, 0), (0, 3, 0, 0), (10, 8, 0, 0), (55, 0, 0, 0), (3, 0, 0, 32), (58, 38, 37, 0), (10, 7, 0, 0), (55, 0, 0, 0), (3, 0, 0, 0), (58, 44, 37, 0), (10, 8, 1, 0), (12, 7, 0, 0)],
  [(3, 0, 0, 0), (26, 0, 0, 0)],
  [(55, 0, 0, 0), (14, 5, 0, 0), (0, 1, 0, 0), (0, 2, 0, 0), (58, 52, 54, 0), (3, 0, 0, 1), (26, 0, 0, 0)]]
def kX5_readWord : List (List zAI) := [[(55, 0, 0, 0), (58, 37, 21, 0), (38, 4, 4, 0)],
  [(55, 0, 0, 0), (41, 0, 0, 0), (58, 39, 37, 0), (10, 2, 0, 0), (3, 0, 0, 0), (11, 3, 0, 0)],
  [(3, 0, 0, (-1)), (12, 3, 0, 0)],
  [(25, 0, 0, 0)],
  [(55, 0, 0, 0), (41, 1, 0, 0), (58, 39, 37, 0), (10, 5, 0, 0), (3, 0, 0, 1), (11, 6, 0, 0)],
  [(3, 0, 0, (-1)), (12, 6, 0, 0)],
  [(25, 0, 0, 0)],
  [(55, 0, 0, 0), (41, 2, 0, 0), (58, 39, 37, 0), (10, 8, 0, 0), (3, 0, 0, 2), (11, 9, 0, 0)],
  [(3, 0, 0, (-1)), (12, 9, 0, 0)],
  [(25, 0, 0, 0)],
  [(55, 0, 0, 0), (41, 3, 0, 0), (58, 39, 37, 0), (10, 11, 0, 0), (3, 0, 0, 3), (11, 12, 0, 0)],
  [(3, 0, 0, (-1)), (12, 12, 0, 0)],
  [(25, 0, 0, 0)],
  [(3, 0, 0, (-1)), (25, 0, 0, 0)]]
def kX5_readDigit : List (List zAI) := [[(55, 0, 0, 0), (58, 37, 21, 0), (1, 1, 0, 0), (0, 1, 0, 0), (3, 0, 0, 48), (9, 1, 2, 0), (0, 1, 0, 0), (3, 0, 0, 57), (9, 2, 5, 0), (12, 1, 0, 0)],
  [(3, 0, 0, (-1)), (25, 0, 0, 0)],
  [(55, 0, 0, 0), (29, 0, 0, 0), (13, 5, 3, 0), (3, 0, 0, 1), (60, 0, 0, 0), (15, 5, 3, 0), (0, 1, 0, 0), (3, 0, 0, 48), (61, 0, 0, 0), (25, 0, 0, 0)]]
def kX5_readNumber : List (List zAI) := [[(55, 0, 0, 0), (58, 42, 21, 0), (1, 1, 0, 0), (0, 1, 0, 0), (10, 1, 4, 0), (0, 1, 0, 0), (25, 0, 0, 0)],
  [(55, 0, 0, 0), (58, 42, 21, 0), (1, 2, 0, 0), (0, 2, 0, 0), (10, 2, 3, 0), (0, 1, 0, 0), (11, 3, 0, 0)],
  [(0, 1, 0, 0), (3, 0, 0, 10), (62, 0, 0, 0), (0, 2, 0, 0), (60, 0, 0, 0), (12, 3, 0, 0)],
  [(25, 0, 0, 0)]]
def kX5_readAny : List (List zAI) := [[(3, 0, 0, 0), (1, 2, 0, 0), (12, 1, 0, 0)],
  [(0, 2, 0, 0), (3, 0, 0, 100), (9, 8, 3, 0), (55, 0, 0, 0), (0, 1, 0, 0), (58, 45, 37, 0), (10, 2, 1, 0), (3, 0, 0, 0), (26, 0, 0, 0)],
  [(3, 0, 0, 0), (1, 3, 0, 0), (12, 3, 0, 0)],
  [(0, 3, 0, 0), (3, 0, 0, 100), (9, 5, 3, 0), (55, 0, 0, 0), (3, 0, 0, 38), (58, 38, 37, 0), (10, 5, 0, 0), (55, 0, 0, 0), (0, 1, 0, 0), (58, 45, 37, 0), (10, 4, 1, 0), (3, 0, 0, 0), (26, 0, 0, 0)],
  [(55, 0, 0, 0), (14, 5, 0, 0), (3, 0, 0, (-2)), (58, 51, 38, 0), (4, 3, 0, 1), (11, 3, 0, 0)],
  [(0, 2, 0, 0), (10, 6, 5, 0), (55, 0, 0, 0), (14, 5, 0, 0), (3, 0, 0, (-3)), (58, 51, 38, 0), (12, 6, 0, 0)],
  [(55, 0, 0, 0), (3, 0, 0, 124), (58, 38, 37, 0), (10, 7, 1, 0), (3, 0, 0, 1), (26, 0, 0, 0)],
  [(4, 2, 0, 1), (11, 1, 0, 0)],
  [(3, 0, 0, 0), (26, 0, 0, 0)]]
def kX5_readOne : List (List zAI) := [[(55, 0, 0, 0), (58, 37, 21, 0), (1, 2, 0, 0), (0, 2, 0, 0), (3, 0, 0, 33), (9, 1, 0, 0), (0, 2, 0, 0), (3, 0, 0, 40), (9, 1, 0, 0), (55, 0, 0, 0), (58, 46, 21, 0), (26, 0, 0, 0)],
  [(0, 1, 0, 0), (10, 2, 2, 0), (0, 1, 0, 0), (3, 0, 0, 5), (9, 3, 2, 0), (12, 2, 0, 0)],
  [(3, 0, 0, 0), (26, 0, 0, 0)],
  [(55, 0, 0, 0), (29, 0, 0, 0), (13, 5, 3, 0), (3, 0, 0, 1), (60, 0, 0, 0), (15, 5, 3, 0), (0, 2, 0, 0), (3, 0, 0, 40), (9, 6, 1, 0), (55, 0, 0, 0), (0, 1, 0, 0), (3, 0, 0, 1), (60, 0, 0, 0), (58, 44, 37, 0), (10, 4, 0, 0), (55, 0, 0, 0), (3, 0, 0, 41), (58, 38, 37, 0), (10, 4, 0, 0), (3, 0, 0, 1), (11, 5, 0, 0)],
  [(3, 0, 0, 0), (12, 5, 0, 0)],
  [(26, 0, 0, 0)],
  [(55, 0, 0, 0), (0, 1, 0, 0), (3, 0, 0, 1), (60, 0, 0, 0), (58, 45, 37, 0), (10, 7, 1, 0), (3, 0, 0, 0), (26, 0, 0, 0)],
  [(55, 0, 0, 0), (14, 5, 0, 0), (3, 0, 0, (-1)), (58, 51, 38, 0), (3, 0, 0, 1), (26, 0, 0, 0)]]
def kX5_readTest : List (List zAI) := [[(55, 0, 0, 0), (41, 4, 0, 0), (58, 47, 37, 0), (1, 1, 0, 0), (0, 1, 0, 0), (10, 1, 3, 0), (3, 0, 0, (-1)), (11, 2, 0, 0)],
  [(55, 0, 0, 0), (41, 5, 0, 0), (58, 47, 37, 0), (12, 2, 0, 0)],
  [(1, 2, 0, 0), (0, 2, 0, 0), (10, 3, 3, 0), (3, 0, 0, (-1)), (11, 4, 0, 0)],
  [(55, 0, 0, 0), (58, 43, 21, 0), (12, 4, 0, 0)],
  [(1, 3, 0, 0), (0, 3, 0, 0), (10, 5, 3, 0), (3, 0, 0, 0), (26, 0, 0, 0)],
  [(55, 0, 0, 0), (14, 5, 0, 0), (0, 1, 0, 0), (3, 0, 0, 300), (62, 0, 0, 0), (0, 2, 0, 0), (3, 0, 0, 100), (62, 0, 0, 0), (60, 0, 0, 0), (0, 3, 0, 0), (60, 0, 0, 0), (58, 51, 38, 0), (3, 0, 0, 1), (26, 0, 0, 0)]]
def kX5_readOneOf : List (List zAI) := [[(55, 0, 0, 0), (58, 37, 21, 0), (1, 2, 0, 0), (3, 0, 0, 0), (1, 3, 0, 0), (12, 1, 0, 0)],
  [(0, 3, 0, 0), (55, 1, 0, 0), (39, 0, 0, 0), (9, 3, 3, 0), (55, 1, 0, 0), (0, 3, 0, 0), (40, 0, 0, 0), (0, 2, 0, 0), (9, 2, 1, 0), (55, 0, 0, 0), (29, 0, 0, 0), (13, 5, 3, 0), (3, 0, 0, 1), (60, 0, 0, 0), (15, 5, 3, 0), (0, 3, 0, 0), (25, 0, 0, 0)],
  [(4, 3, 0, 1), (11, 1, 0, 0)],
  [(3, 0, 0, (-1)), (25, 0, 0, 0)]]
def kX6_clear : List (List zAI) := [[(55, 0, 0, 0), (3, 0, 0, 0), (15, 6, 5, 0), (55, 0, 0, 0), (3, 0, 0, 0), (15, 6, 6, 0), (24, 0, 0, 0)]]
def kX6_copyFrom : List (List zAI) := [[(55, 1, 0, 0), (14, 6, 0, 0), (3, 0, 0, 0), (55, 0, 0, 0), (14, 6, 0, 0), (3, 0, 0, 0), (3, 0, 0, 10), (44, 0, 0, 0), (55, 1, 0, 0), (14, 6, 1, 0), (3, 0, 0, 0), (55, 0, 0, 0), (14, 6, 1, 0), (3, 0, 0, 0), (3, 0, 0, 10), (44, 0, 0, 0), (55, 1, 0, 0), (14, 6, 2, 0), (3, 0, 0, 0), (55, 0, 0, 0), (14, 6, 2, 0), (3, 0, 0, 0), (3, 0, 0, 10), (44, 0, 0, 0), (55, 1, 0, 0), (14, 6, 3, 0), (3, 0, 0, 0), (55, 0, 0, 0), (14, 6, 3, 0), (3, 0, 0, 0), (3, 0, 0, 100), (44, 0, 0, 0), (55, 0, 0, 0), (55, 1, 0, 0), (13, 6, 5, 0), (15, 6, 5, 0), (55, 0, 0, 0), (55, 1, 0, 0), (13, 6, 6, 0), (15, 6, 6, 0), (24, 0, 0, 0)]]
def kX6_addStep : List (List zAI) := [[(55, 0, 0, 0), (13, 6, 6, 0), (10, 1, 2, 0), (55, 0, 0, 0), (13, 6, 6, 0), (3, 0, 0, 100), (9, 1, 3, 0), (55, 0, 0, 0), (14, 6, 3, 0), (55, 0, 0, 0), (13, 6, 6, 0), (0, 1, 0, 0), (18, 0, 0, 0), (55, 0, 0, 0), (29, 0, 0, 0), (13, 6, 6, 0), (3, 0, 0, 1), (60, 0, 0, 0), (15, 6, 6, 0), (12, 1, 0, 0)],
  [(24, 0, 0, 0)]]
def kX6_addClause : List (List zAI) := [[(55, 0, 0, 0), (13, 6, 5, 0), (10, 1, 2, 0), (55, 0, 0, 0), (13, 6, 5, 0), (3, 0, 0, 10), (9, 1, 3, 0), (55, 0, 0, 0), (14, 6, 0, 0), (55, 0, 0, 0), (13, 6, 5, 0), (0, 1, 0, 0), (18, 0, 0, 0), (55, 0, 0, 0), (14, 6, 1, 0), (55, 0, 0, 0), (13, 6, 5, 0), (0, 2, 0, 0), (18, 0, 0, 0), (55, 0, 0, 0), (14, 6, 2, 0), (55, 0, 0, 0), (13, 6, 5, 0), (55, 0, 0, 0), (13, 6, 6, 0), (18, 0, 0, 0), (55, 0, 0, 0), (29, 0, 0, 0), (13, 6, 5, 0), (3, 0, 0, 1), (60, 0, 0, 0), (15, 6, 5, 0), (12, 1, 0, 0)],
  [(24, 0, 0, 0)]]
def kX6_last : List (List zAI) := [[(0, 2, 0, 0), (1, 3, 0, 0), (3, 0, 0, 0), (1, 4, 0, 0), (12, 1, 0, 0)],
  [(0, 4, 0, 0), (55, 0, 0, 0), (13, 6, 5, 0), (9, 3, 3, 0), (0, 4, 0, 0), (3, 0, 0, 10), (9, 3, 3, 0), (55, 0, 0, 0), (14, 6, 0, 0), (0, 4, 0, 0), (17, 0, 0, 0), (0, 1, 0, 0), (9, 2, 1, 0), (55, 0, 0, 0), (14, 6, 1, 0), (0, 4, 0, 0), (17, 0, 0, 0), (1, 3, 0, 0), (12, 2, 0, 0)],
  [(4, 4, 0, 1), (11, 1, 0, 0)],
  [(0, 3, 0, 0), (25, 0, 0, 0)]]
def kX6_setTest : List (List zAI) := [[(55, 0, 0, 0), (14, 6, 4, 0), (3, 0, 0, 0), (0, 1, 0, 0), (18, 0, 0, 0), (55, 0, 0, 0), (14, 6, 4, 0), (3, 0, 0, 1), (0, 2, 0, 0), (18, 0, 0, 0), (55, 0, 0, 0), (14, 6, 4, 0), (3, 0, 0, 2), (0, 3, 0, 0), (18, 0, 0, 0), (55, 0, 0, 0), (14, 6, 4, 0), (3, 0, 0, 3), (0, 4, 0, 0), (18, 0, 0, 0), (55, 0, 0, 0), (14, 6, 4, 0), (3, 0, 0, 4), (0, 5, 0, 0), (18, 0, 0, 0), (24, 0, 0, 0)]]
def kX6_sum : List (List zAI) := [[(3, 0, 0, 0), (1, 2, 0, 0), (3, 0, 0, 0), (1, 3, 0, 0), (3, 0, 0, 0), (1, 4, 0, 0), (12, 1, 0, 0)],
  [(0, 4, 0, 0), (55, 0, 0, 0), (13, 6, 5, 0), (9, 3, 3, 0), (0, 4, 0, 0), (3, 0, 0, 10), (9, 3, 3, 0), (55, 0, 0, 0), (14, 6, 0, 0), (0, 4, 0, 0), (17, 0, 0, 0), (0, 1, 0, 0), (9, 2, 1, 0), (55, 0, 0, 0), (0, 3, 0, 0), (55, 0, 0, 0), (14, 6, 2, 0), (0, 4, 0, 0), (17, 0, 0, 0), (58, 56, 54, 0), (10, 2, 0, 0), (0, 2, 0, 0), (55, 0, 0, 0), (14, 6, 1, 0), (0, 4, 0, 0), (17, 0, 0, 0), (60, 0, 0, 0), (1, 2, 0, 0), (12, 2, 0, 0)],
  [(55, 0, 0, 0), (14, 6, 2, 0), (0, 4, 0, 0), (17, 0, 0, 0), (1, 3, 0, 0), (4, 4, 0, 1), (11, 1, 0, 0)],
  [(0, 2, 0, 0), (25, 0, 0, 0)]]
def kX6_holds : List (List zAI) := [[(3, 0, 0, 0), (1, 3, 0, 0), (0, 1, 0, 0), (1, 4, 0, 0), (12, 1, 0, 0)],
  [(0, 4, 0, 0), (10, 8, 2, 0), (0, 4, 0, 0), (0, 2, 0, 0), (9, 8, 3, 0), (0, 4, 0, 0), (3, 0, 0, 100), (9, 8, 3, 0), (55, 0, 0, 0), (14, 6, 3, 0), (0, 4, 0, 0), (17, 0, 0, 0), (1, 5, 0, 0), (0, 3, 0, 0), (3, 0, 0, 1), (63, 0, 0, 0), (1, 6, 0, 0), (0, 5, 0, 0), (10, 4, 2, 0), (0, 3, 0, 0), (3, 0, 0, 1), (66, 0, 0, 0), (55, 0, 0, 0), (0, 5, 0, 0), (58, 57, 38, 0), (10, 2, 0, 0), (3, 0, 0, 1), (11, 3, 0, 0)],
  [(3, 0, 0, 0), (12, 3, 0, 0)],
  [(64, 0, 0, 0), (1, 3, 0, 0), (11, 7, 0, 0)],
  [(0, 5, 0, 0), (3, 0, 0, (-1)), (9, 5, 1, 0), (0, 3, 0, 0), (3, 0, 0, 1), (65, 0, 0, 0), (1, 3, 0, 0), (11, 7, 0, 0)],
  [(0, 5, 0, 0), (3, 0, 0, (-2)), (9, 6, 1, 0), (0, 3, 0, 0), (3, 0, 0, 1), (67, 0, 0, 0), (0, 6, 0, 0), (3, 0, 0, (-2)), (64, 0, 0, 0), (63, 0, 0, 0), (1, 3, 0, 0), (11, 7, 0, 0)],
  [(0, 3, 0, 0), (3, 0, 0, 1), (67, 0, 0, 0), (0, 6, 0, 0), (64, 0, 0, 0), (1, 3, 0, 0), (12, 7, 0, 0)],
  [(4, 4, 0, 1), (11, 1, 0, 0)],
  [(0, 3, 0, 0), (3, 0, 0, 1), (63, 0, 0, 0), (3, 0, 0, 1), (9, 9, 1, 0), (3, 0, 0, 1), (11, 10, 0, 0)],
  [(3, 0, 0, 0), (12, 10, 0, 0)],
  [(26, 0, 0, 0)]]
def kX6_passes : List (List zAI) := [[(0, 1, 0, 0), (3, 0, 0, 300), (6, 0, 0, 0), (1, 2, 0, 0), (0, 2, 0, 0), (10, 1, 2, 0), (0, 2, 0, 0), (55, 0, 0, 0), (14, 6, 4, 0), (21, 0, 0, 0), (9, 2, 2, 0), (12, 1, 0, 0)],
  [(3, 0, 0, 0), (26, 0, 0, 0)],
  [(0, 1, 0, 0), (3, 0, 0, 300), (7, 0, 0, 0), (3, 0, 0, 100), (6, 0, 0, 0), (1, 3, 0, 0), (0, 1, 0, 0), (3, 0, 0, 100), (7, 0, 0, 0), (1, 4, 0, 0), (0, 3, 0, 0), (10, 5, 1, 0), (55, 0, 0, 0), (14, 6, 4, 0), (0, 2, 0, 0), (17, 0, 0, 0), (0, 4, 0, 0), (9, 3, 3, 0), (3, 0, 0, 1), (11, 4, 0, 0)],
  [(3, 0, 0, 0), (12, 4, 0, 0)],
  [(26, 0, 0, 0)],
  [(0, 3, 0, 0), (3, 0, 0, 1), (9, 7, 1, 0), (55, 0, 0, 0), (14, 6, 4, 0), (0, 2, 0, 0), (17, 0, 0, 0), (0, 4, 0, 0), (9, 6, 1, 0), (3, 0, 0, 1), (11, 9, 0, 0)],
  [(3, 0, 0, 0), (11, 9, 0, 0)],
  [(55, 0, 0, 0), (14, 6, 4, 0), (0, 2, 0, 0), (17, 0, 0, 0), (0, 4, 0, 0), (9, 8, 5, 0), (3, 0, 0, 1), (11, 9, 0, 0)],
  [(3, 0, 0, 0), (12, 9, 0, 0)],
  [(26, 0, 0, 0)]]
def kX7_add : List (List zAI) := [[(55, 0, 0, 0), (13, 7, 3, 0), (10, 1, 2, 0), (55, 0, 0, 0), (13, 7, 3, 0), (3, 0, 0, 8), (9, 2, 2, 0), (12, 1, 0, 0)],
  [(3, 0, 0, 0), (26, 0, 0, 0)],
  [(55, 0, 0, 0), (14, 7, 0, 0), (55, 0, 0, 0), (13, 7, 3, 0), (0, 1, 0, 0), (18, 0, 0, 0), (55, 0, 0, 0), (14, 7, 1, 0), (55, 0, 0, 0), (13, 7, 3, 0), (0, 2, 0, 0), (18, 0, 0, 0), (55, 0, 0, 0), (14, 7, 2, 0), (55, 0, 0, 0), (13, 7, 3, 0), (0, 3, 0, 0), (18, 0, 0, 0), (55, 0, 0, 0), (29, 0, 0, 0), (13, 7, 3, 0), (3, 0, 0, 1), (60, 0, 0, 0), (15, 7, 3, 0), (3, 0, 0, 1), (26, 0, 0, 0)]]
def kX7_copyFrom : List (List zAI) := [[(55, 1, 0, 0), (14, 7, 0, 0), (3, 0, 0, 0), (55, 0, 0, 0), (14, 7, 0, 0), (3, 0, 0, 0), (3, 0, 0, 8), (44, 0, 0, 0), (55, 1, 0, 0), (14, 7, 1, 0), (3, 0, 0, 0), (55, 0, 0, 0), (14, 7, 1, 0), (3, 0, 0, 0), (3, 0, 0, 8), (44, 0, 0, 0), (55, 1, 0, 0), (14, 7, 2, 0), (3, 0, 0, 0), (55, 0, 0, 0), (14, 7, 2, 0), (3, 0, 0, 0), (3, 0, 0, 8), (44, 0, 0, 0), (55, 0, 0, 0), (55, 1, 0, 0), (13, 7, 3, 0), (15, 7, 3, 0), (24, 0, 0, 0)]]
def kX8_put : List (List zAI) := [[(55, 0, 0, 0), (13, 8, 1, 0), (10, 1, 2, 0), (55, 0, 0, 0), (13, 8, 1, 0), (3, 0, 0, 100), (9, 2, 2, 0), (12, 1, 0, 0)],
  [(3, 0, 0, 0), (26, 0, 0, 0)],
  [(55, 0, 0, 0), (14, 8, 0, 0), (55, 0, 0, 0), (13, 8, 1, 0), (0, 1, 0, 0), (18, 0, 0, 0), (55, 0, 0, 0), (29, 0, 0, 0), (13, 8, 1, 0), (3, 0, 0, 1), (60, 0, 0, 0), (15, 8, 1, 0), (3, 0, 0, 1), (26, 0, 0, 0)]]
def kX8_copyFrom : List (List zAI) := [[(55, 1, 0, 0), (14, 8, 0, 0), (3, 0, 0, 0), (55, 0, 0, 0), (14, 8, 0, 0), (3, 0, 0, 0), (3, 0, 0, 100), (44, 0, 0, 0), (55, 0, 0, 0), (55, 1, 0, 0), (13, 8, 1, 0), (15, 8, 1, 0), (24, 0, 0, 0)]]
def kX9_feed : List (List zAI) := [[(0, 1, 0, 0), (10, 1, 2, 0), (0, 1, 0, 0), (3, 0, 0, 127), (9, 2, 5, 0), (12, 1, 0, 0)],
  [(3, 0, 0, (-2)), (25, 0, 0, 0)],
  [(55, 0, 0, 0), (14, 9, 0, 0), (14, 1, 0, 0), (0, 1, 0, 0), (58, 62, 40, 0), (10, 3, 0, 0), (55, 0, 0, 0), (14, 9, 0, 0), (14, 1, 0, 0), (13, 8, 1, 0), (11, 4, 0, 0)],
  [(3, 0, 0, (-4)), (12, 4, 0, 0)],
  [(25, 0, 0, 0)]]
def kX9_school : List (List zAI) := [[(55, 0, 0, 0), (14, 9, 0, 0), (13, 1, 5, 0), (3, 0, 0, 1), (60, 0, 0, 0), (1, 1, 0, 0), (0, 1, 0, 0), (3, 0, 0, 1), (9, 1, 2, 0), (0, 1, 0, 0), (55, 0, 0, 0), (14, 9, 3, 0), (21, 0, 0, 0), (9, 2, 2, 0), (12, 1, 0, 0)],
  [(3, 0, 0, (-4)), (25, 0, 0, 0)],
  [(55, 0, 0, 0), (14, 9, 4, 0), (55, 0, 0, 0), (14, 9, 0, 0), (14, 1, 0, 0), (58, 36, 37, 0), (1, 2, 0, 0), (55, 0, 0, 0), (14, 9, 0, 0), (14, 1, 0, 0), (3, 0, 0, 0), (15, 8, 1, 0), (0, 2, 0, 0), (10, 3, 2, 0), (3, 0, 0, (-10)), (0, 2, 0, 0), (61, 0, 0, 0), (25, 0, 0, 0)],
  [(55, 0, 0, 0), (14, 9, 3, 0), (0, 1, 0, 0), (22, 0, 0, 0), (55, 0, 0, 0), (14, 9, 4, 0), (14, 5, 0, 0), (58, 50, 38, 0), (55, 0, 0, 0), (14, 9, 0, 0), (0, 1, 0, 0), (15, 1, 5, 0), (0, 1, 0, 0), (3, 0, 0, 1), (61, 0, 0, 0), (25, 0, 0, 0)]]
def kX9_layer : List (List zAI) := [[(0, 1, 0, 0), (23, 96, 1, 0), (10, 1, 0, 0), (0, 5, 0, 0), (23, 95, 1, 0), (10, 2, 1, 0), (12, 1, 0, 0)],
  [(3, 0, 0, (-1)), (25, 0, 0, 0)],
  [(0, 2, 0, 0), (10, 3, 2, 0), (0, 2, 0, 0), (3, 0, 0, 9), (9, 3, 4, 0), (0, 3, 0, 0), (3, 0, 0, 1), (9, 3, 2, 0), (0, 3, 0, 0), (3, 0, 0, 9), (9, 3, 4, 0), (0, 4, 0, 0), (10, 3, 2, 0), (0, 4, 0, 0), (3, 0, 0, 20), (9, 4, 5, 0), (12, 3, 0, 0)],
  [(3, 0, 0, (-2)), (25, 0, 0, 0)],
  [(55, 0, 0, 0), (14, 9, 0, 0), (14, 1, 1, 0), (0, 1, 0, 0), (0, 2, 0, 0), (0, 3, 0, 0), (0, 4, 0, 0), (0, 5, 0, 0), (58, 31, 100, 0), (25, 0, 0, 0)]]
def kX9_of : List (List zAI) := [[(55, 0, 0, 0), (14, 9, 0, 0), (14, 1, 1, 0), (57, 3, 0, 0), (55, 3, 0, 0), (0, 1, 0, 0), (58, 28, 36, 0), (10, 1, 1, 0), (3, 0, 0, (-1)), (25, 0, 0, 0)],
  [(0, 2, 0, 0), (38, 5, 7, 0)],
  [(55, 3, 0, 0), (14, 4, 0, 0), (0, 1, 0, 0), (17, 0, 0, 0), (25, 0, 0, 0)],
  [(55, 3, 0, 0), (14, 4, 1, 0), (0, 1, 0, 0), (17, 0, 0, 0), (25, 0, 0, 0)],
  [(55, 3, 0, 0), (14, 4, 2, 0), (0, 1, 0, 0), (17, 0, 0, 0), (25, 0, 0, 0)],
  [(55, 3, 0, 0), (14, 4, 3, 0), (0, 1, 0, 0), (17, 0, 0, 0), (25, 0, 0, 0)],
  [(55, 3, 0, 0), (14, 4, 4, 0), (0, 1, 0, 0), (17, 0, 0, 0), (25, 0, 0, 0)],
  [(55, 3, 0, 0), (0, 1, 0, 0), (58, 29, 36, 0), (10, 8, 0, 0), (3, 0, 0, 1), (11, 9, 0, 0)],
  [(3, 0, 0, 0), (12, 9, 0, 0)],
  [(25, 0, 0, 0)],
  [(55, 0, 0, 0), (0, 1, 0, 0), (58, 99, 41, 0), (25, 0, 0, 0)],
  [(3, 0, 0, (-1)), (25, 0, 0, 0)]]
def kX9_side : List (List zAI) := [[(55, 0, 0, 0), (14, 9, 0, 0), (14, 1, 1, 0), (0, 1, 0, 0), (58, 28, 36, 0), (10, 1, 0, 0), (0, 2, 0, 0), (23, 95, 1, 0), (10, 2, 1, 0), (12, 1, 0, 0)],
  [(3, 0, 0, (-1)), (25, 0, 0, 0)],
  [(55, 0, 0, 0), (14, 9, 0, 0), (14, 1, 1, 0), (14, 4, 4, 0), (0, 1, 0, 0), (17, 0, 0, 0), (1, 3, 0, 0), (55, 0, 0, 0), (14, 9, 0, 0), (14, 1, 1, 0), (14, 4, 4, 0), (0, 1, 0, 0), (0, 2, 0, 0), (18, 0, 0, 0), (0, 3, 0, 0), (25, 0, 0, 0)]]
def kX9_broken : List (List zAI) := [[(55, 0, 0, 0), (14, 9, 0, 0), (14, 1, 1, 0), (0, 1, 0, 0), (58, 28, 36, 0), (10, 1, 1, 0), (3, 0, 0, (-1)), (25, 0, 0, 0)],
  [(55, 0, 0, 0), (14, 9, 0, 0), (14, 1, 1, 0), (0, 1, 0, 0), (58, 29, 36, 0), (1, 3, 0, 0), (55, 0, 0, 0), (14, 9, 0, 0), (14, 1, 1, 0), (0, 1, 0, 0), (0, 2, 0, 0), (58, 32, 52, 0), (0, 3, 0, 0), (10, 2, 0, 0), (3, 0, 0, 1), (11, 3, 0, 0)],
  [(3, 0, 0, 0), (12, 3, 0, 0)],
  [(25, 0, 0, 0)]]
def kX9_row : List (List zAI) := [[(55, 0, 0, 0), (14, 9, 0, 0), (14, 1, 1, 0), (57, 4, 0, 0), (55, 4, 0, 0), (0, 1, 0, 0), (58, 28, 36, 0), (10, 1, 0, 0), (0, 2, 0, 0), (10, 1, 2, 0), (0, 2, 0, 0), (3, 0, 0, 3), (9, 2, 2, 0), (12, 1, 0, 0)],
  [(3, 0, 0, (-1)), (25, 0, 0, 0)],
  [(0, 3, 0, 0), (10, 3, 2, 0), (0, 3, 0, 0), (3, 0, 0, 9), (9, 4, 5, 0), (12, 3, 0, 0)],
  [(3, 0, 0, (-2)), (25, 0, 0, 0)],
  [(55, 4, 0, 0), (14, 4, 0, 0), (0, 1, 0, 0), (17, 0, 0, 0), (3, 0, 0, 6), (9, 5, 0, 0), (3, 0, 0, (-3)), (25, 0, 0, 0)],
  [(0, 1, 0, 0), (3, 0, 0, 3), (62, 0, 0, 0), (0, 2, 0, 0), (60, 0, 0, 0), (1, 5, 0, 0), (55, 4, 0, 0), (14, 4, 5, 0), (0, 5, 0, 0), (17, 0, 0, 0), (1, 6, 0, 0), (55, 4, 0, 0), (14, 4, 5, 0), (0, 5, 0, 0), (0, 3, 0, 0), (18, 0, 0, 0), (0, 6, 0, 0), (25, 0, 0, 0)]]
def kX9_egg : List (List zAI) := [[(55, 0, 0, 0), (14, 9, 0, 0), (14, 1, 2, 0), (13, 2, 1, 0), (10, 1, 0, 0), (55, 0, 0, 0), (14, 9, 0, 0), (14, 1, 2, 0), (13, 2, 0, 0), (11, 2, 0, 0)],
  [(3, 0, 0, (-5)), (12, 2, 0, 0)],
  [(1, 1, 0, 0), (55, 0, 0, 0), (14, 9, 0, 0), (14, 1, 2, 0), (58, 12, 18, 0), (0, 1, 0, 0), (25, 0, 0, 0)]]
def kX9_told : List (List zAI) := [[(0, 1, 0, 0), (38, 6, 8, 0)],
  [(55, 0, 0, 0), (14, 9, 0, 0), (13, 1, 6, 0), (25, 0, 0, 0)],
  [(55, 0, 0, 0), (58, 98, 25, 0), (25, 0, 0, 0)],
  [(55, 0, 0, 0), (58, 97, 25, 0), (3, 0, 0, 1), (3, 0, 0, 1), (58, 53, 54, 0), (25, 0, 0, 0)],
  [(55, 0, 0, 0), (14, 9, 0, 0), (14, 1, 2, 0), (13, 2, 0, 0), (25, 0, 0, 0)],
  [(55, 0, 0, 0), (14, 9, 0, 0), (14, 1, 2, 0), (13, 2, 1, 0), (10, 6, 0, 0), (3, 0, 0, 1), (11, 7, 0, 0)],
  [(3, 0, 0, 0), (12, 7, 0, 0)],
  [(25, 0, 0, 0)],
  [(55, 0, 0, 0), (14, 9, 0, 0), (14, 1, 1, 0), (3, 0, 0, 0), (58, 33, 36, 0), (25, 0, 0, 0)],
  [(55, 0, 0, 0), (58, 100, 25, 0), (25, 0, 0, 0)],
  [(55, 0, 0, 0), (14, 9, 0, 0), (14, 1, 1, 0), (13, 4, 6, 0), (25, 0, 0, 0)],
  [(3, 0, 0, (-1)), (25, 0, 0, 0)]]
def kX9_drop : List (List zAI) := [[(0, 1, 0, 0), (23, 94, 1, 0), (10, 1, 0, 0), (0, 2, 0, 0), (23, 95, 1, 0), (10, 2, 1, 0), (12, 1, 0, 0)],
  [(3, 0, 0, (-1)), (25, 0, 0, 0)],
  [(55, 0, 0, 0), (14, 9, 0, 0), (14, 1, 2, 0), (13, 2, 1, 0), (10, 3, 0, 0), (55, 0, 0, 0), (14, 9, 0, 0), (13, 1, 6, 0), (3, 0, 0, 9999), (9, 4, 2, 0), (12, 3, 0, 0)],
  [(3, 0, 0, (-3)), (25, 0, 0, 0)],
  [(55, 0, 0, 0), (0, 1, 0, 0), (0, 2, 0, 0), (3, 0, 0, 0), (3, 0, 0, 0), (58, 101, 89, 0), (55, 0, 0, 0), (14, 9, 0, 0), (14, 1, 2, 0), (55, 0, 0, 0), (14, 9, 5, 0), (14, 3, 0, 0), (58, 14, 34, 0), (55, 0, 0, 0), (14, 9, 0, 0), (14, 1, 1, 0), (55, 0, 0, 0), (14, 9, 5, 0), (13, 3, 2, 0), (15, 4, 6, 0), (55, 0, 0, 0), (14, 9, 0, 0), (29, 0, 0, 0), (13, 1, 6, 0), (3, 0, 0, 1), (60, 0, 0, 0), (15, 1, 6, 0), (55, 0, 0, 0), (14, 9, 5, 0), (58, 17, 19, 0), (25, 0, 0, 0)]]
def kX9_fall : List (List zAI) := [[(0, 1, 0, 0), (23, 94, 1, 0), (10, 1, 0, 0), (0, 2, 0, 0), (23, 95, 1, 0), (10, 2, 1, 0), (12, 1, 0, 0)],
  [(3, 0, 0, (-1)), (25, 0, 0, 0)],
  [(55, 0, 0, 0), (0, 1, 0, 0), (0, 2, 0, 0), (3, 0, 0, 0), (3, 0, 0, 0), (58, 101, 89, 0), (0, 3, 0, 0), (38, 7, 5, 0)],
  [(55, 0, 0, 0), (14, 9, 5, 0), (58, 17, 19, 0), (25, 0, 0, 0)],
  [(55, 0, 0, 0), (14, 9, 5, 0), (13, 3, 1, 0), (25, 0, 0, 0)],
  [(55, 0, 0, 0), (14, 9, 5, 0), (14, 3, 0, 0), (13, 2, 1, 0), (10, 6, 0, 0), (3, 0, 0, 1), (11, 7, 0, 0)],
  [(3, 0, 0, 0), (12, 7, 0, 0)],
  [(25, 0, 0, 0)],
  [(55, 0, 0, 0), (14, 9, 5, 0), (14, 3, 0, 0), (13, 2, 0, 0), (25, 0, 0, 0)],
  [(55, 0, 0, 0), (14, 9, 5, 0), (13, 3, 2, 0), (25, 0, 0, 0)],
  [(3, 0, 0, (-1)), (25, 0, 0, 0)]]
def kX9_highest : List (List zAI) := [[(0, 1, 0, 0), (23, 95, 1, 0), (10, 1, 1, 0), (3, 0, 0, (-1)), (25, 0, 0, 0)],
  [(3, 0, 0, 0), (1, 2, 0, 0), (12, 2, 0, 0)],
  [(0, 2, 0, 0), (3, 0, 0, 20), (9, 6, 4, 0), (55, 0, 0, 0), (0, 2, 0, 0), (0, 1, 0, 0), (3, 0, 0, 0), (3, 0, 0, 0), (58, 102, 89, 0), (10, 5, 1, 0), (0, 2, 0, 0), (10, 3, 1, 0), (3, 0, 0, (-5)), (11, 4, 0, 0)],
  [(0, 2, 0, 0), (3, 0, 0, 1), (61, 0, 0, 0), (12, 4, 0, 0)],
  [(25, 0, 0, 0)],
  [(4, 2, 0, 1), (11, 2, 0, 0)],
  [(3, 0, 0, 20), (25, 0, 0, 0)]]
def kX9_best : List (List zAI) := [[(0, 1, 0, 0), (23, 94, 1, 0), (10, 1, 0, 0), (0, 2, 0, 0), (10, 1, 2, 0), (0, 2, 0, 0), (3, 0, 0, 1), (9, 2, 5, 0), (12, 1, 0, 0)],
  [(3, 0, 0, (-1)), (25, 0, 0, 0)],
  [(3, 0, 0, 0), (1, 3, 0, 0), (55, 0, 0, 0), (0, 1, 0, 0), (3, 0, 0, 0), (58, 103, 57, 0), (1, 4, 0, 0), (3, 0, 0, 1), (1, 5, 0, 0), (12, 3, 0, 0)],
  [(0, 5, 0, 0), (3, 0, 0, 4), (9, 5, 3, 0), (55, 0, 0, 0), (0, 1, 0, 0), (0, 5, 0, 0), (58, 103, 57, 0), (1, 6, 0, 0), (0, 6, 0, 0), (0, 4, 0, 0), (9, 4, 3, 0), (0, 6, 0, 0), (1, 4, 0, 0), (0, 5, 0, 0), (1, 3, 0, 0), (12, 4, 0, 0)],
  [(4, 5, 0, 1), (11, 3, 0, 0)],
  [(0, 2, 0, 0), (10, 6, 1, 0), (0, 3, 0, 0), (11, 7, 0, 0)],
  [(0, 4, 0, 0), (12, 7, 0, 0)],
  [(25, 0, 0, 0)]]
def kX9_lighter : List (List zAI) := [[(0, 1, 0, 0), (23, 94, 1, 0), (10, 1, 0, 0), (0, 2, 0, 0), (23, 95, 1, 0), (10, 1, 0, 0), (0, 3, 0, 0), (10, 1, 2, 0), (0, 3, 0, 0), (3, 0, 0, 1), (9, 2, 5, 0), (12, 1, 0, 0)],
  [(3, 0, 0, (-1)), (25, 0, 0, 0)],
  [(3, 0, 0, (-5)), (1, 4, 0, 0), (3, 0, 0, (-5)), (1, 5, 0, 0), (55, 0, 0, 0), (14, 9, 0, 0), (14, 1, 1, 0), (58, 30, 20, 0), (1, 6, 0, 0), (3, 0, 0, 0), (1, 7, 0, 0), (12, 3, 0, 0)],
  [(0, 7, 0, 0), (0, 6, 0, 0), (9, 6, 4, 0), (55, 0, 0, 0), (14, 9, 0, 0), (14, 1, 1, 0), (0, 7, 0, 0), (58, 33, 36, 0), (1, 8, 0, 0), (0, 4, 0, 0), (10, 4, 2, 0), (0, 8, 0, 0), (0, 5, 0, 0), (9, 5, 3, 0), (12, 4, 0, 0)],
  [(55, 0, 0, 0), (0, 1, 0, 0), (0, 2, 0, 0), (3, 0, 0, 0), (0, 7, 0, 0), (58, 102, 89, 0), (10, 5, 0, 0), (0, 7, 0, 0), (1, 4, 0, 0), (0, 8, 0, 0), (1, 5, 0, 0), (12, 5, 0, 0)],
  [(4, 7, 0, 1), (11, 3, 0, 0)],
  [(0, 3, 0, 0), (10, 7, 1, 0), (0, 4, 0, 0), (11, 8, 0, 0)],
  [(0, 5, 0, 0), (12, 8, 0, 0)],
  [(25, 0, 0, 0)]]
def kX9_shift : List (List zAI) := [[(0, 1, 0, 0), (23, 94, 1, 0), (10, 1, 0, 0), (0, 2, 0, 0), (23, 95, 1, 0), (10, 2, 1, 0), (12, 1, 0, 0)],
  [(3, 0, 0, (-1)), (25, 0, 0, 0)],
  [(55, 0, 0, 0), (0, 1, 0, 0), (0, 2, 0, 0), (58, 103, 57, 0), (1, 3, 0, 0), (3, 0, 0, (-5)), (1, 4, 0, 0), (3, 0, 0, 0), (1, 5, 0, 0), (12, 3, 0, 0)],
  [(0, 5, 0, 0), (55, 0, 0, 0), (14, 9, 0, 0), (14, 1, 1, 0), (13, 4, 7, 0), (3, 0, 0, 4), (62, 0, 0, 0), (9, 5, 3, 0), (55, 0, 0, 0), (0, 5, 0, 0), (3, 0, 0, 4), (6, 0, 0, 0), (0, 5, 0, 0), (3, 0, 0, 4), (7, 0, 0, 0), (0, 1, 0, 0), (0, 2, 0, 0), (58, 104, 89, 0), (1, 6, 0, 0), (0, 6, 0, 0), (0, 3, 0, 0), (9, 4, 3, 0), (0, 6, 0, 0), (1, 3, 0, 0), (3, 0, 0, 10), (0, 5, 0, 0), (3, 0, 0, 4), (6, 0, 0, 0), (62, 0, 0, 0), (0, 5, 0, 0), (3, 0, 0, 4), (7, 0, 0, 0), (60, 0, 0, 0), (1, 4, 0, 0), (12, 4, 0, 0)],
  [(4, 5, 0, 1), (11, 3, 0, 0)],
  [(0, 4, 0, 0), (25, 0, 0, 0)]]
def kX9_tries : List (List zAI) := [[(0, 1, 0, 0), (3, 0, 0, 1), (9, 1, 2, 0), (0, 1, 0, 0), (3, 0, 0, 4), (9, 1, 4, 0), (0, 2, 0, 0), (10, 1, 2, 0), (0, 2, 0, 0), (3, 0, 0, 99), (9, 2, 5, 0), (12, 1, 0, 0)],
  [(3, 0, 0, (-2)), (25, 0, 0, 0)],
  [(3, 0, 0, 0), (1, 3, 0, 0), (12, 3, 0, 0)],
  [(0, 3, 0, 0), (0, 2, 0, 0), (9, 5, 3, 0), (0, 3, 0, 0), (0, 1, 0, 0), (23, 105, 2, 0), (0, 2, 0, 0), (9, 4, 2, 0), (0, 3, 0, 0), (25, 0, 0, 0)],
  [(4, 3, 0, 1), (11, 3, 0, 0)],
  [(0, 2, 0, 0), (25, 0, 0, 0)]]
def kX9_failed : List (List zAI) := [[(0, 1, 0, 0), (23, 95, 1, 0), (10, 1, 1, 0), (3, 0, 0, (-1)), (25, 0, 0, 0)],
  [(0, 2, 0, 0), (55, 0, 0, 0), (14, 9, 0, 0), (14, 1, 1, 0), (58, 30, 20, 0), (3, 0, 0, (-1)), (65, 0, 0, 0), (63, 0, 0, 0), (10, 2, 0, 0), (3, 0, 0, (-2)), (25, 0, 0, 0)],
  [(3, 0, 0, 0), (1, 3, 0, 0), (3, 0, 0, 0), (1, 4, 0, 0), (12, 3, 0, 0)],
  [(0, 4, 0, 0), (3, 0, 0, 20), (9, 5, 4, 0), (55, 0, 0, 0), (0, 4, 0, 0), (0, 1, 0, 0), (3, 0, 0, 0), (3, 0, 0, 0), (58, 101, 89, 0), (55, 0, 0, 0), (14, 9, 5, 0), (13, 3, 2, 0), (0, 2, 0, 0), (9, 4, 1, 0), (0, 3, 0, 0), (3, 0, 0, 1), (0, 4, 0, 0), (66, 0, 0, 0), (64, 0, 0, 0), (1, 3, 0, 0), (12, 4, 0, 0)],
  [(4, 4, 0, 1), (11, 3, 0, 0)],
  [(0, 3, 0, 0), (25, 0, 0, 0)]]
def kX9_see : List (List zAI) := [[(55, 0, 0, 0), (14, 9, 0, 0), (14, 1, 3, 0), (0, 1, 0, 0), (0, 2, 0, 0), (0, 3, 0, 0), (10, 1, 0, 0), (3, 0, 0, 1), (11, 2, 0, 0)],
  [(3, 0, 0, 0), (12, 2, 0, 0)],
  [(23, 107, 4, 0), (25, 0, 0, 0)]]
def kX9_strong : List (List zAI) := [[(0, 1, 0, 0), (10, 1, 2, 0), (0, 1, 0, 0), (3, 0, 0, 1), (9, 2, 5, 0), (12, 1, 0, 0)],
  [(3, 0, 0, (-1)), (25, 0, 0, 0)],
  [(55, 0, 0, 0), (58, 106, 25, 0), (3, 0, 0, 0), (1, 2, 0, 0), (12, 3, 0, 0)],
  [(0, 2, 0, 0), (55, 0, 0, 0), (14, 9, 7, 0), (21, 0, 0, 0), (9, 7, 3, 0), (0, 1, 0, 0), (10, 4, 1, 0), (0, 2, 0, 0), (11, 5, 0, 0)],
  [(55, 0, 0, 0), (14, 9, 7, 0), (21, 0, 0, 0), (3, 0, 0, 1), (61, 0, 0, 0), (0, 2, 0, 0), (61, 0, 0, 0), (12, 5, 0, 0)],
  [(1, 3, 0, 0), (55, 0, 0, 0), (14, 9, 7, 0), (0, 3, 0, 0), (19, 0, 0, 0), (10, 6, 0, 0), (0, 3, 0, 0), (25, 0, 0, 0)],
  [(4, 2, 0, 1), (11, 3, 0, 0)],
  [(3, 0, 0, (-5)), (25, 0, 0, 0)]]
def kX9_odds : List (List zAI) := [[(0, 1, 0, 0), (23, 94, 1, 0), (10, 1, 0, 0), (0, 2, 0, 0), (10, 1, 2, 0), (0, 2, 0, 0), (3, 0, 0, 1), (9, 2, 5, 0), (12, 1, 0, 0)],
  [(47, 0, 0, 0), (27, 0, 0, 0)],
  [(3, 0, 0, 0), (1, 3, 0, 0), (3, 0, 0, 0), (1, 4, 0, 0), (12, 3, 0, 0)],
  [(0, 4, 0, 0), (3, 0, 0, 40), (9, 5, 3, 0), (55, 0, 0, 0), (0, 1, 0, 0), (0, 4, 0, 0), (3, 0, 0, 10), (6, 0, 0, 0), (0, 4, 0, 0), (3, 0, 0, 10), (7, 0, 0, 0), (3, 0, 0, 0), (58, 102, 89, 0), (10, 4, 0, 0), (4, 3, 0, 1), (12, 4, 0, 0)],
  [(4, 4, 0, 1), (11, 3, 0, 0)],
  [(0, 3, 0, 0), (3, 0, 0, 40), (0, 2, 0, 0), (23, 108, 3, 0), (27, 0, 0, 0)]]
def kX9_mean : List (List zAI) := [[(0, 1, 0, 0), (23, 94, 1, 0), (10, 1, 0, 0), (0, 2, 0, 0), (10, 1, 2, 0), (0, 2, 0, 0), (3, 0, 0, 1), (9, 2, 5, 0), (12, 1, 0, 0)],
  [(47, 0, 0, 0), (27, 0, 0, 0)],
  [(3, 0, 0, 0), (1, 3, 0, 0), (3, 0, 0, 0), (1, 4, 0, 0), (12, 3, 0, 0)],
  [(0, 4, 0, 0), (3, 0, 0, 4), (9, 4, 3, 0), (0, 3, 0, 0), (55, 0, 0, 0), (0, 1, 0, 0), (0, 4, 0, 0), (58, 103, 57, 0), (60, 0, 0, 0), (1, 3, 0, 0), (4, 4, 0, 1), (11, 3, 0, 0)],
  [(0, 3, 0, 0), (3, 0, 0, 4), (0, 2, 0, 0), (23, 108, 3, 0), (27, 0, 0, 0)]]
def kX9_book : List (List zAI) := [[(0, 1, 0, 0), (23, 94, 1, 0), (10, 1, 0, 0), (0, 2, 0, 0), (23, 95, 1, 0), (10, 1, 0, 0), (3, 0, 0, 1), (11, 2, 0, 0)],
  [(3, 0, 0, 0), (12, 2, 0, 0)],
  [(1, 4, 0, 0), (0, 4, 0, 0), (10, 4, 0, 0), (0, 3, 0, 0), (10, 3, 2, 0), (0, 3, 0, 0), (3, 0, 0, 9999), (9, 4, 5, 0), (12, 3, 0, 0)],
  [(3, 0, 0, (-2)), (25, 0, 0, 0)],
  [(55, 0, 0, 0), (14, 9, 0, 0), (14, 1, 4, 0), (0, 1, 0, 0), (0, 2, 0, 0), (0, 3, 0, 0), (23, 107, 4, 0), (25, 0, 0, 0)]]
def kX9_looked : List (List zAI) := [[(55, 0, 0, 0), (14, 9, 0, 0), (14, 1, 4, 0), (57, 1, 0, 0), (3, 0, 0, 0), (1, 2, 0, 0), (12, 1, 0, 0)],
  [(0, 2, 0, 0), (55, 1, 0, 0), (13, 7, 3, 0), (9, 3, 3, 0), (0, 2, 0, 0), (3, 0, 0, 8), (9, 3, 3, 0), (55, 0, 0, 0), (55, 1, 0, 0), (14, 7, 0, 0), (0, 2, 0, 0), (17, 0, 0, 0), (55, 1, 0, 0), (14, 7, 1, 0), (0, 2, 0, 0), (17, 0, 0, 0), (58, 103, 57, 0), (55, 1, 0, 0), (14, 7, 2, 0), (0, 2, 0, 0), (17, 0, 0, 0), (9, 2, 0, 0), (0, 2, 0, 0), (25, 0, 0, 0)],
  [(4, 2, 0, 1), (11, 1, 0, 0)],
  [(3, 0, 0, (-5)), (25, 0, 0, 0)]]
def kX9_act : List (List zAI) := [[(55, 0, 0, 0), (14, 9, 6, 0), (58, 1, 16, 0), (55, 0, 0, 0), (14, 9, 0, 0), (14, 1, 1, 0), (0, 1, 0, 0), (58, 28, 36, 0), (10, 1, 1, 0), (3, 0, 0, 0), (25, 0, 0, 0)],
  [(55, 0, 0, 0), (14, 9, 6, 0), (55, 0, 0, 0), (14, 9, 0, 0), (14, 1, 1, 0), (0, 1, 0, 0), (58, 2, 48, 0), (0, 2, 0, 0), (38, 8, 3, 0)],
  [(55, 0, 0, 0), (14, 9, 6, 0), (0, 3, 0, 0), (58, 4, 32, 0), (25, 0, 0, 0)],
  [(55, 0, 0, 0), (14, 9, 6, 0), (0, 3, 0, 0), (58, 5, 32, 0), (25, 0, 0, 0)],
  [(55, 0, 0, 0), (14, 9, 6, 0), (0, 3, 0, 0), (58, 6, 32, 0), (25, 0, 0, 0)],
  [(3, 0, 0, 0), (25, 0, 0, 0)]]
def kX9_trace : List (List zAI) := [[(0, 1, 0, 0), (10, 1, 2, 0), (0, 1, 0, 0), (55, 0, 0, 0), (14, 9, 6, 0), (13, 0, 1, 0), (9, 1, 3, 0), (0, 1, 0, 0), (3, 0, 0, 20), (9, 2, 2, 0), (12, 1, 0, 0)],
  [(3, 0, 0, (-1)), (25, 0, 0, 0)],
  [(55, 0, 0, 0), (14, 9, 6, 0), (14, 0, 0, 0), (0, 1, 0, 0), (17, 0, 0, 0), (25, 0, 0, 0)]]
def kX9_as : List (List zAI) := [[(55, 0, 0, 0), (14, 9, 0, 0), (14, 1, 1, 0), (0, 1, 0, 0), (58, 28, 36, 0), (10, 1, 0, 0), (0, 2, 0, 0), (23, 96, 1, 0), (10, 2, 1, 0), (12, 1, 0, 0)],
  [(3, 0, 0, (-1)), (25, 0, 0, 0)],
  [(55, 0, 0, 0), (14, 9, 0, 0), (14, 1, 1, 0), (14, 4, 0, 0), (0, 1, 0, 0), (17, 0, 0, 0), (0, 2, 0, 0), (23, 27, 2, 0), (10, 3, 0, 0), (55, 0, 0, 0), (14, 9, 0, 0), (14, 1, 1, 0), (14, 4, 1, 0), (0, 1, 0, 0), (17, 0, 0, 0), (11, 4, 0, 0)],
  [(3, 0, 0, (-6)), (12, 4, 0, 0)],
  [(25, 0, 0, 0)]]
def kX9_image : List (List zAI) := [[(55, 0, 0, 0), (14, 9, 1, 0), (55, 0, 0, 0), (14, 9, 0, 0), (58, 10, 33, 0), (55, 0, 0, 0), (3, 0, 0, 1), (54, 9, 2, 0), (55, 0, 0, 0), (14, 9, 0, 0), (14, 1, 1, 0), (13, 4, 7, 0), (25, 0, 0, 0)]]
def kX9_undo : List (List zAI) := [[(55, 0, 0, 0), (13, 9, 2, 0), (10, 1, 1, 0), (3, 0, 0, (-3)), (25, 0, 0, 0)],
  [(55, 0, 0, 0), (14, 9, 0, 0), (55, 0, 0, 0), (14, 9, 1, 0), (58, 10, 33, 0), (55, 0, 0, 0), (14, 9, 0, 0), (14, 1, 1, 0), (13, 4, 7, 0), (25, 0, 0, 0)]]
def kX9_count : List (List zAI) := [[(0, 1, 0, 0), (38, 9, 6, 0)],
  [(55, 0, 0, 0), (14, 9, 0, 0), (14, 1, 1, 0), (13, 4, 7, 0), (25, 0, 0, 0)],
  [(55, 0, 0, 0), (14, 9, 0, 0), (13, 1, 5, 0), (25, 0, 0, 0)],
  [(55, 0, 0, 0), (14, 9, 0, 0), (14, 1, 3, 0), (13, 7, 3, 0), (25, 0, 0, 0)],
  [(55, 0, 0, 0), (14, 9, 0, 0), (14, 1, 4, 0), (13, 7, 3, 0), (25, 0, 0, 0)],
  [(55, 0, 0, 0), (14, 9, 0, 0), (14, 1, 0, 0), (13, 8, 1, 0), (25, 0, 0, 0)],
  [(55, 0, 0, 0), (14, 9, 6, 0), (13, 0, 1, 0), (25, 0, 0, 0)],
  [(3, 0, 0, (-1)), (25, 0, 0, 0)]]
def kX9_isFloor : List (List zAI) := [[(0, 0, 0, 0), (10, 1, 2, 0), (0, 0, 0, 0), (3, 0, 0, 20), (9, 1, 4, 0), (3, 0, 0, 1), (11, 2, 0, 0)],
  [(3, 0, 0, 0), (12, 2, 0, 0)],
  [(26, 0, 0, 0)]]
def kX9_isSide : List (List zAI) := [[(0, 0, 0, 0), (10, 1, 2, 0), (0, 0, 0, 0), (3, 0, 0, 4), (9, 1, 3, 0), (3, 0, 0, 1), (11, 2, 0, 0)],
  [(3, 0, 0, 0), (12, 2, 0, 0)],
  [(26, 0, 0, 0)]]
def kX9_isKind : List (List zAI) := [[(0, 0, 0, 0), (10, 1, 2, 0), (0, 0, 0, 0), (3, 0, 0, 7), (9, 1, 3, 0), (3, 0, 0, 1), (11, 2, 0, 0)],
  [(3, 0, 0, 0), (12, 2, 0, 0)],
  [(26, 0, 0, 0)]]
def kX9_holding : List (List zAI) := [[(55, 0, 0, 0), (14, 9, 0, 0), (13, 1, 5, 0), (1, 1, 0, 0), (0, 1, 0, 0), (10, 1, 2, 0), (0, 1, 0, 0), (55, 0, 0, 0), (14, 9, 3, 0), (21, 0, 0, 0), (9, 1, 3, 0), (55, 0, 0, 0), (14, 9, 3, 0), (0, 1, 0, 0), (22, 0, 0, 0), (11, 2, 0, 0)],
  [(55, 0, 0, 0), (14, 9, 3, 0), (3, 0, 0, 0), (22, 0, 0, 0), (12, 2, 0, 0)],
  [(28, 0, 0, 0)]]
def kX9_bear : List (List zAI) := [[(55, 0, 0, 0), (58, 97, 25, 0), (3, 0, 0, 0), (3, 0, 0, 20), (58, 53, 54, 0), (25, 0, 0, 0)]]
def kX9_price : List (List zAI) := [[(55, 0, 0, 0), (14, 9, 0, 0), (14, 1, 1, 0), (57, 2, 0, 0), (55, 0, 0, 0), (58, 97, 25, 0), (57, 3, 0, 0), (55, 3, 0, 0), (3, 0, 0, 0), (55, 2, 0, 0), (14, 4, 4, 0), (0, 1, 0, 0), (17, 0, 0, 0), (55, 2, 0, 0), (14, 4, 0, 0), (0, 1, 0, 0), (17, 0, 0, 0), (55, 2, 0, 0), (14, 4, 2, 0), (0, 1, 0, 0), (17, 0, 0, 0), (55, 0, 0, 0), (14, 9, 0, 0), (13, 1, 6, 0), (3, 0, 0, 10), (7, 0, 0, 0), (58, 54, 102, 0), (55, 3, 0, 0), (3, 0, 0, 3), (58, 55, 38, 0), (25, 0, 0, 0)]]
def kX9_prices : List (List zAI) := [[(3, 0, 0, 0), (1, 1, 0, 0), (3, 0, 0, 0), (1, 2, 0, 0), (12, 1, 0, 0)],
  [(0, 2, 0, 0), (55, 0, 0, 0), (14, 9, 0, 0), (14, 1, 1, 0), (13, 4, 7, 0), (9, 2, 3, 0), (0, 1, 0, 0), (55, 0, 0, 0), (0, 2, 0, 0), (58, 99, 41, 0), (60, 0, 0, 0), (1, 1, 0, 0), (4, 2, 0, 1), (11, 1, 0, 0)],
  [(0, 1, 0, 0), (25, 0, 0, 0)]]
def kX9_letFall : List (List zAI) := [[(55, 0, 0, 0), (14, 9, 5, 0), (55, 0, 0, 0), (14, 9, 0, 0), (55, 0, 0, 0), (58, 97, 25, 0), (0, 1, 0, 0), (0, 2, 0, 0), (0, 3, 0, 0), (0, 4, 0, 0), (58, 16, 115, 0), (55, 0, 0, 0), (14, 9, 5, 0), (55, 0, 0, 0), (14, 9, 0, 0), (14, 1, 2, 0), (55, 0, 0, 0), (58, 98, 25, 0), (58, 18, 51, 0), (24, 0, 0, 0)]]
def kX9_staysWhole : List (List zAI) := [[(55, 0, 0, 0), (0, 1, 0, 0), (0, 2, 0, 0), (0, 3, 0, 0), (0, 4, 0, 0), (58, 101, 89, 0), (55, 0, 0, 0), (14, 9, 5, 0), (14, 3, 0, 0), (13, 2, 1, 0), (26, 0, 0, 0)]]
def kX9_forceOf : List (List zAI) := [[(55, 0, 0, 0), (14, 9, 5, 0), (55, 0, 0, 0), (14, 9, 0, 0), (55, 0, 0, 0), (58, 97, 25, 0), (0, 1, 0, 0), (0, 2, 0, 0), (3, 0, 0, 0), (3, 0, 0, 0), (58, 16, 115, 0), (55, 0, 0, 0), (14, 9, 5, 0), (58, 17, 19, 0), (25, 0, 0, 0)]]
def kX9_forceWithShifted : List (List zAI) := [[(55, 0, 0, 0), (14, 9, 0, 0), (14, 1, 1, 0), (14, 4, 4, 0), (0, 1, 0, 0), (17, 0, 0, 0), (1, 5, 0, 0), (55, 0, 0, 0), (14, 9, 0, 0), (14, 1, 1, 0), (14, 4, 4, 0), (0, 1, 0, 0), (0, 2, 0, 0), (18, 0, 0, 0), (55, 0, 0, 0), (0, 3, 0, 0), (0, 4, 0, 0), (58, 103, 57, 0), (1, 6, 0, 0), (55, 0, 0, 0), (14, 9, 0, 0), (14, 1, 1, 0), (14, 4, 4, 0), (0, 1, 0, 0), (0, 5, 0, 0), (18, 0, 0, 0), (0, 6, 0, 0), (25, 0, 0, 0)]]
def kX9_floorsTold : List (List zAI) := [[(3, 0, 0, 1), (1, 2, 0, 0), (3, 0, 0, 0), (1, 3, 0, 0), (3, 0, 0, 1), (1, 4, 0, 0), (12, 1, 0, 0)],
  [(0, 4, 0, 0), (0, 1, 0, 0), (9, 2, 4, 0), (0, 4, 0, 0), (3, 0, 0, 4), (9, 2, 4, 0), (0, 2, 0, 0), (0, 0, 0, 0), (0, 4, 0, 0), (61, 0, 0, 0), (3, 0, 0, 1), (60, 0, 0, 0), (62, 0, 0, 0), (0, 4, 0, 0), (6, 0, 0, 0), (1, 2, 0, 0), (0, 3, 0, 0), (0, 2, 0, 0), (60, 0, 0, 0), (1, 3, 0, 0), (4, 4, 0, 1), (11, 1, 0, 0)],
  [(0, 3, 0, 0), (25, 0, 0, 0)]]
def kX9_findFits : List (List zAI) := [[(3, 0, 0, 0), (1, 1, 0, 0), (12, 1, 0, 0)],
  [(0, 1, 0, 0), (55, 0, 0, 0), (14, 9, 7, 0), (21, 0, 0, 0), (9, 2, 3, 0), (55, 0, 0, 0), (14, 9, 7, 0), (0, 1, 0, 0), (3, 0, 0, 1), (20, 0, 0, 0), (4, 1, 0, 1), (11, 1, 0, 0)],
  [(55, 0, 0, 0), (14, 9, 0, 0), (14, 1, 3, 0), (57, 1, 0, 0), (3, 0, 0, 0), (1, 2, 0, 0), (12, 3, 0, 0)],
  [(0, 2, 0, 0), (55, 1, 0, 0), (13, 7, 3, 0), (9, 10, 3, 0), (0, 2, 0, 0), (3, 0, 0, 8), (9, 10, 3, 0), (55, 0, 0, 0), (14, 9, 5, 0), (55, 0, 0, 0), (14, 9, 0, 0), (55, 0, 0, 0), (58, 97, 25, 0), (55, 1, 0, 0), (14, 7, 0, 0), (0, 2, 0, 0), (17, 0, 0, 0), (55, 1, 0, 0), (14, 7, 1, 0), (0, 2, 0, 0), (17, 0, 0, 0), (3, 0, 0, 0), (3, 0, 0, 0), (58, 16, 115, 0), (3, 0, 0, 0), (1, 3, 0, 0), (12, 4, 0, 0)],
  [(0, 3, 0, 0), (55, 0, 0, 0), (14, 9, 7, 0), (21, 0, 0, 0), (9, 9, 3, 0), (55, 0, 0, 0), (14, 9, 5, 0), (0, 3, 0, 0), (58, 19, 35, 0), (55, 0, 0, 0), (14, 9, 7, 0), (0, 3, 0, 0), (30, 0, 0, 0), (19, 0, 0, 0), (55, 0, 0, 0), (14, 9, 5, 0), (14, 3, 0, 0), (13, 2, 1, 0), (55, 1, 0, 0), (14, 7, 2, 0), (0, 2, 0, 0), (17, 0, 0, 0), (3, 0, 0, 1), (9, 5, 1, 0), (3, 0, 0, 1), (11, 6, 0, 0)],
  [(3, 0, 0, 0), (12, 6, 0, 0)],
  [(9, 7, 1, 0), (3, 0, 0, 1), (11, 8, 0, 0)],
  [(3, 0, 0, 0), (12, 8, 0, 0)],
  [(63, 0, 0, 0), (20, 0, 0, 0), (4, 3, 0, 1), (11, 4, 0, 0)],
  [(4, 2, 0, 1), (11, 3, 0, 0)],
  [(24, 0, 0, 0)]]
def kX9_write : List (List zAI) := [[(0, 1, 0, 0), (3, 0, 0, (-1)), (9, 1, 1, 0), (55, 0, 0, 0), (3, 0, 0, 0), (15, 7, 3, 0), (3, 0, 0, 0), (25, 0, 0, 0)],
  [(0, 1, 0, 0), (23, 94, 1, 0), (10, 2, 0, 0), (0, 2, 0, 0), (23, 95, 1, 0), (10, 3, 1, 0), (12, 2, 0, 0)],
  [(3, 0, 0, (-1)), (25, 0, 0, 0)],
  [(55, 0, 0, 0), (0, 1, 0, 0), (0, 2, 0, 0), (0, 3, 0, 0), (58, 59, 71, 0), (10, 4, 0, 0), (55, 0, 0, 0), (13, 7, 3, 0), (11, 5, 0, 0)],
  [(3, 0, 0, (-4)), (12, 5, 0, 0)],
  [(25, 0, 0, 0)]]
def kX9_inLowestTerms : List (List zAI) := [[(0, 1, 0, 0), (1, 3, 0, 0), (12, 1, 0, 0)],
  [(0, 3, 0, 0), (3, 0, 0, 1), (9, 5, 5, 0), (0, 0, 0, 0), (0, 3, 0, 0), (7, 0, 0, 0), (10, 4, 1, 0), (0, 1, 0, 0), (0, 3, 0, 0), (7, 0, 0, 0), (10, 4, 1, 0), (0, 2, 0, 0), (10, 2, 1, 0), (0, 0, 0, 0), (0, 3, 0, 0), (6, 0, 0, 0), (33, 0, 0, 0), (11, 3, 0, 0)],
  [(0, 1, 0, 0), (0, 3, 0, 0), (6, 0, 0, 0), (33, 0, 0, 0), (12, 3, 0, 0)],
  [(27, 0, 0, 0)],
  [(4, 3, 0, (-1)), (11, 1, 0, 0)],
  [(0, 2, 0, 0), (10, 6, 1, 0), (0, 0, 0, 0), (33, 0, 0, 0), (11, 7, 0, 0)],
  [(0, 1, 0, 0), (33, 0, 0, 0), (12, 7, 0, 0)],
  [(27, 0, 0, 0)]]
def kX10_in : List (List zAI) := [[(0, 0, 0, 0), (0, 1, 0, 0), (9, 1, 2, 0), (0, 0, 0, 0), (0, 2, 0, 0), (9, 1, 4, 0), (3, 0, 0, 1), (11, 2, 0, 0)],
  [(3, 0, 0, 0), (12, 2, 0, 0)],
  [(26, 0, 0, 0)]]
def kX10_isLayer : List (List zAI) := [[(0, 1, 0, 0), (3, 0, 0, 0), (55, 0, 0, 0), (14, 10, 1, 0), (3, 0, 0, 0), (17, 0, 0, 0), (3, 0, 0, 1), (61, 0, 0, 0), (23, 110, 3, 0), (26, 0, 0, 0)]]
def kX10_isSide : List (List zAI) := [[(0, 0, 0, 0), (3, 0, 0, 0), (3, 0, 0, 3), (23, 110, 3, 0), (26, 0, 0, 0)]]
def kX10_isFloor : List (List zAI) := [[(0, 0, 0, 0), (3, 0, 0, 0), (3, 0, 0, 20), (23, 110, 3, 0), (26, 0, 0, 0)]]
def kX10_feed : List (List zAI) := [[(0, 1, 0, 0), (3, 0, 0, 0), (3, 0, 0, 127), (23, 110, 3, 0), (10, 1, 1, 0), (3, 0, 0, (-2)), (25, 0, 0, 0)],
  [(55, 0, 0, 0), (14, 10, 1, 0), (3, 0, 0, 4), (17, 0, 0, 0), (3, 0, 0, 100), (9, 2, 1, 0), (3, 0, 0, (-4)), (25, 0, 0, 0)],
  [(55, 0, 0, 0), (14, 10, 1, 0), (3, 0, 0, 122), (55, 0, 0, 0), (14, 10, 1, 0), (3, 0, 0, 4), (17, 0, 0, 0), (60, 0, 0, 0), (0, 1, 0, 0), (18, 0, 0, 0), (55, 0, 0, 0), (14, 10, 1, 0), (3, 0, 0, 4), (30, 0, 0, 0), (17, 0, 0, 0), (3, 0, 0, 1), (60, 0, 0, 0), (18, 0, 0, 0), (55, 0, 0, 0), (14, 10, 1, 0), (3, 0, 0, 4), (17, 0, 0, 0), (25, 0, 0, 0)]]
def kX10_here : List (List zAI) := [[(55, 0, 0, 0), (13, 10, 5, 0), (55, 0, 0, 0), (13, 10, 6, 0), (9, 1, 3, 0), (55, 0, 0, 0), (14, 10, 1, 0), (3, 0, 0, 122), (55, 0, 0, 0), (13, 10, 5, 0), (60, 0, 0, 0), (17, 0, 0, 0), (11, 2, 0, 0)],
  [(3, 0, 0, (-1)), (12, 2, 0, 0)],
  [(25, 0, 0, 0)]]
def kX10_must : List (List zAI) := [[(55, 0, 0, 0), (55, 0, 0, 0), (13, 10, 7, 0), (10, 1, 1, 0), (55, 0, 0, 0), (58, 115, 26, 0), (0, 1, 0, 0), (9, 2, 0, 0), (12, 1, 0, 0)],
  [(3, 0, 0, 1), (11, 3, 0, 0)],
  [(3, 0, 0, 0), (12, 3, 0, 0)],
  [(54, 10, 7, 0), (55, 0, 0, 0), (29, 0, 0, 0), (13, 10, 5, 0), (55, 0, 0, 0), (13, 10, 7, 0), (10, 4, 0, 0), (3, 0, 0, 0), (11, 5, 0, 0)],
  [(3, 0, 0, 1), (12, 5, 0, 0)],
  [(60, 0, 0, 0), (15, 10, 5, 0), (24, 0, 0, 0)]]
def kX10_spells : List (List zAI) := [[(3, 0, 0, 0), (1, 2, 0, 0), (12, 1, 0, 0)],
  [(0, 2, 0, 0), (55, 1, 0, 0), (39, 0, 0, 0), (9, 2, 3, 0), (55, 0, 0, 0), (55, 1, 0, 0), (0, 2, 0, 0), (40, 0, 0, 0), (58, 116, 42, 0), (4, 2, 0, 1), (11, 1, 0, 0)],
  [(24, 0, 0, 0)]]
def kX10_figures : List (List zAI) := [[(55, 0, 0, 0), (55, 0, 0, 0), (13, 10, 7, 0), (10, 1, 1, 0), (55, 0, 0, 0), (58, 115, 26, 0), (3, 0, 0, 48), (3, 0, 0, 57), (23, 110, 3, 0), (10, 2, 1, 0), (12, 1, 0, 0)],
  [(3, 0, 0, 1), (11, 3, 0, 0)],
  [(3, 0, 0, 0), (12, 3, 0, 0)],
  [(54, 10, 7, 0), (3, 0, 0, 0), (1, 1, 0, 0), (3, 0, 0, 0), (1, 2, 0, 0), (12, 4, 0, 0)],
  [(0, 2, 0, 0), (3, 0, 0, 2), (9, 6, 3, 0), (55, 0, 0, 0), (13, 10, 7, 0), (10, 6, 1, 0), (55, 0, 0, 0), (58, 115, 26, 0), (3, 0, 0, 48), (3, 0, 0, 57), (23, 110, 3, 0), (10, 6, 0, 0), (0, 2, 0, 0), (10, 5, 0, 0), (0, 1, 0, 0), (10, 6, 5, 0), (12, 5, 0, 0)],
  [(3, 0, 0, 10), (0, 1, 0, 0), (62, 0, 0, 0), (55, 0, 0, 0), (58, 115, 26, 0), (60, 0, 0, 0), (3, 0, 0, 48), (61, 0, 0, 0), (1, 1, 0, 0), (55, 0, 0, 0), (29, 0, 0, 0), (13, 10, 5, 0), (3, 0, 0, 1), (60, 0, 0, 0), (15, 10, 5, 0), (4, 2, 0, 1), (11, 4, 0, 0)],
  [(0, 1, 0, 0), (25, 0, 0, 0)]]
def kX10_among : List (List zAI) := [[(3, 0, 0, 0), (1, 2, 0, 0), (12, 1, 0, 0)],
  [(0, 2, 0, 0), (55, 1, 0, 0), (39, 0, 0, 0), (9, 3, 3, 0), (55, 0, 0, 0), (58, 115, 26, 0), (55, 1, 0, 0), (0, 2, 0, 0), (40, 0, 0, 0), (9, 2, 1, 0), (55, 0, 0, 0), (29, 0, 0, 0), (13, 10, 5, 0), (3, 0, 0, 1), (60, 0, 0, 0), (15, 10, 5, 0), (0, 2, 0, 0), (25, 0, 0, 0)],
  [(4, 2, 0, 1), (11, 1, 0, 0)],
  [(3, 0, 0, (-1)), (25, 0, 0, 0)]]
def kX10_emits : List (List zAI) := [[(55, 0, 0, 0), (13, 10, 7, 0), (10, 1, 1, 0), (55, 0, 0, 0), (14, 10, 1, 0), (3, 0, 0, 237), (3, 0, 0, 140), (55, 0, 0, 0), (13, 10, 4, 0), (62, 0, 0, 0), (60, 0, 0, 0), (55, 0, 0, 0), (14, 10, 1, 0), (3, 0, 0, 232), (55, 0, 0, 0), (13, 10, 4, 0), (60, 0, 0, 0), (17, 0, 0, 0), (60, 0, 0, 0), (0, 1, 0, 0), (18, 0, 0, 0), (55, 0, 0, 0), (14, 10, 1, 0), (3, 0, 0, 232), (55, 0, 0, 0), (13, 10, 4, 0), (60, 0, 0, 0), (30, 0, 0, 0), (17, 0, 0, 0), (3, 0, 0, 1), (60, 0, 0, 0), (18, 0, 0, 0), (12, 1, 0, 0)],
  [(24, 0, 0, 0)]]
def kX10_factor : List (List zAI) := [[(55, 0, 0, 0), (13, 10, 7, 0), (10, 1, 0, 0), (24, 0, 0, 0)],
  [(55, 0, 0, 0), (58, 115, 26, 0), (1, 1, 0, 0), (0, 1, 0, 0), (3, 0, 0, 33), (9, 2, 0, 0), (0, 1, 0, 0), (3, 0, 0, 40), (9, 9, 1, 0), (12, 2, 0, 0)],
  [(55, 0, 0, 0), (55, 0, 0, 0), (13, 10, 8, 0), (3, 0, 0, 5), (9, 3, 1, 0), (3, 0, 0, 1), (11, 4, 0, 0)],
  [(3, 0, 0, 0), (12, 4, 0, 0)],
  [(54, 10, 7, 0), (55, 0, 0, 0), (29, 0, 0, 0), (13, 10, 8, 0), (3, 0, 0, 1), (60, 0, 0, 0), (15, 10, 8, 0), (55, 0, 0, 0), (29, 0, 0, 0), (13, 10, 5, 0), (55, 0, 0, 0), (13, 10, 7, 0), (10, 5, 0, 0), (3, 0, 0, 0), (11, 6, 0, 0)],
  [(3, 0, 0, 1), (12, 6, 0, 0)],
  [(60, 0, 0, 0), (15, 10, 5, 0), (0, 1, 0, 0), (3, 0, 0, 33), (9, 7, 1, 0), (55, 0, 0, 0), (58, 121, 26, 0), (55, 0, 0, 0), (3, 0, 0, (-1)), (58, 120, 42, 0), (11, 8, 0, 0)],
  [(55, 0, 0, 0), (58, 123, 26, 0), (55, 0, 0, 0), (3, 0, 0, 41), (58, 116, 42, 0), (12, 8, 0, 0)],
  [(55, 0, 0, 0), (29, 0, 0, 0), (13, 10, 8, 0), (3, 0, 0, 1), (61, 0, 0, 0), (15, 10, 8, 0), (24, 0, 0, 0)],
  [(55, 0, 0, 0), (41, 4, 0, 0), (58, 119, 42, 0), (1, 2, 0, 0), (55, 0, 0, 0), (0, 2, 0, 0), (3, 0, 0, (-1)), (9, 10, 1, 0), (3, 0, 0, 1), (11, 11, 0, 0)],
  [(3, 0, 0, 0), (12, 11, 0, 0)],
  [(54, 10, 7, 0), (55, 0, 0, 0), (13, 10, 7, 0), (10, 12, 0, 0), (3, 0, 0, 0), (11, 13, 0, 0)],
  [(55, 0, 0, 0), (41, 5, 0, 0), (58, 119, 42, 0), (12, 13, 0, 0)],
  [(1, 3, 0, 0), (55, 0, 0, 0), (55, 0, 0, 0), (13, 10, 7, 0), (10, 14, 1, 0), (0, 3, 0, 0), (3, 0, 0, (-1)), (9, 15, 1, 0), (12, 14, 0, 0)],
  [(3, 0, 0, 1), (11, 16, 0, 0)],
  [(3, 0, 0, 0), (12, 16, 0, 0)],
  [(54, 10, 7, 0), (55, 0, 0, 0), (58, 118, 26, 0), (1, 4, 0, 0), (55, 0, 0, 0), (0, 2, 0, 0), (3, 0, 0, 8), (0, 3, 0, 0), (62, 0, 0, 0), (60, 0, 0, 0), (3, 0, 0, 32), (0, 4, 0, 0), (62, 0, 0, 0), (60, 0, 0, 0), (58, 120, 42, 0), (24, 0, 0, 0)]]
def kX10_every : List (List zAI) := [[(55, 0, 0, 0), (58, 121, 26, 0), (12, 1, 0, 0)],
  [(55, 0, 0, 0), (13, 10, 7, 0), (10, 2, 1, 0), (55, 0, 0, 0), (58, 115, 26, 0), (3, 0, 0, 38), (9, 2, 1, 0), (55, 0, 0, 0), (29, 0, 0, 0), (13, 10, 5, 0), (3, 0, 0, 1), (60, 0, 0, 0), (15, 10, 5, 0), (55, 0, 0, 0), (58, 121, 26, 0), (55, 0, 0, 0), (3, 0, 0, (-2)), (58, 120, 42, 0), (11, 1, 0, 0)],
  [(24, 0, 0, 0)]]
def kX10_some : List (List zAI) := [[(55, 0, 0, 0), (58, 122, 26, 0), (12, 1, 0, 0)],
  [(55, 0, 0, 0), (13, 10, 7, 0), (10, 2, 1, 0), (55, 0, 0, 0), (58, 115, 26, 0), (3, 0, 0, 124), (9, 2, 1, 0), (55, 0, 0, 0), (29, 0, 0, 0), (13, 10, 5, 0), (3, 0, 0, 1), (60, 0, 0, 0), (15, 10, 5, 0), (55, 0, 0, 0), (58, 122, 26, 0), (55, 0, 0, 0), (3, 0, 0, (-3)), (58, 120, 42, 0), (11, 1, 0, 0)],
  [(24, 0, 0, 0)]]
def kX10_much : List (List zAI) := [[(55, 0, 0, 0), (55, 2, 0, 0), (58, 117, 42, 0), (55, 0, 0, 0), (58, 118, 26, 0), (1, 3, 0, 0), (55, 0, 0, 0), (3, 0, 0, 32), (58, 116, 42, 0), (55, 0, 0, 0), (58, 123, 26, 0), (55, 0, 0, 0), (0, 1, 0, 0), (0, 3, 0, 0), (61, 0, 0, 0), (58, 120, 42, 0), (24, 0, 0, 0)]]
def kX10_tellsHere : List (List zAI) := [[(55, 0, 0, 0), (55, 2, 0, 0), (58, 117, 42, 0), (55, 0, 0, 0), (58, 118, 26, 0), (1, 3, 0, 0), (55, 0, 0, 0), (13, 10, 7, 0), (10, 1, 1, 0), (55, 0, 0, 0), (14, 10, 1, 0), (0, 1, 0, 0), (55, 0, 0, 0), (13, 10, 4, 0), (60, 0, 0, 0), (0, 3, 0, 0), (18, 0, 0, 0), (12, 1, 0, 0)],
  [(24, 0, 0, 0)]]
def kX10_clauseHere : List (List zAI) := [[(55, 0, 0, 0), (58, 115, 26, 0), (38, 10, 4, 0)],
  [(55, 0, 0, 0), (3, 0, 0, 222), (41, 0, 0, 0), (58, 125, 58, 0), (11, 6, 0, 0)],
  [(55, 0, 0, 0), (3, 0, 0, 227), (41, 1, 0, 0), (58, 125, 58, 0), (11, 6, 0, 0)],
  [(55, 0, 0, 0), (3, 0, 0, (-10)), (41, 2, 0, 0), (58, 124, 58, 0), (11, 6, 0, 0)],
  [(55, 0, 0, 0), (3, 0, 0, (-200)), (41, 3, 0, 0), (58, 124, 58, 0), (11, 6, 0, 0)],
  [(55, 0, 0, 0), (3, 0, 0, 1), (54, 10, 7, 0), (12, 6, 0, 0)],
  [(24, 0, 0, 0)]]
def kX10_school : List (List zAI) := [[(55, 0, 0, 0), (14, 10, 1, 0), (3, 0, 0, 1), (17, 0, 0, 0), (3, 0, 0, 5), (9, 1, 1, 0), (3, 0, 0, (-4)), (25, 0, 0, 0)],
  [(55, 0, 0, 0), (55, 0, 0, 0), (14, 10, 1, 0), (3, 0, 0, 1), (17, 0, 0, 0), (15, 10, 4, 0), (55, 0, 0, 0), (55, 0, 0, 0), (14, 10, 1, 0), (3, 0, 0, 4), (17, 0, 0, 0), (15, 10, 6, 0), (55, 0, 0, 0), (14, 10, 1, 0), (3, 0, 0, 4), (3, 0, 0, 0), (18, 0, 0, 0), (55, 0, 0, 0), (14, 10, 1, 0), (3, 0, 0, 222), (55, 0, 0, 0), (13, 10, 4, 0), (60, 0, 0, 0), (3, 0, 0, 20), (18, 0, 0, 0), (55, 0, 0, 0), (14, 10, 1, 0), (3, 0, 0, 227), (55, 0, 0, 0), (13, 10, 4, 0), (60, 0, 0, 0), (3, 0, 0, 1), (18, 0, 0, 0), (55, 0, 0, 0), (14, 10, 1, 0), (3, 0, 0, 232), (55, 0, 0, 0), (13, 10, 4, 0), (60, 0, 0, 0), (3, 0, 0, 0), (18, 0, 0, 0), (55, 0, 0, 0), (3, 0, 0, 0), (15, 10, 5, 0), (55, 0, 0, 0), (3, 0, 0, 0), (54, 10, 7, 0), (55, 0, 0, 0), (3, 0, 0, 0), (15, 10, 8, 0), (3, 0, 0, 1), (1, 1, 0, 0), (55, 0, 0, 0), (58, 126, 26, 0), (12, 2, 0, 0)],
  [(55, 0, 0, 0), (13, 10, 7, 0), (10, 3, 1, 0), (0, 1, 0, 0), (3, 0, 0, 10), (9, 3, 3, 0), (55, 0, 0, 0), (58, 115, 26, 0), (3, 0, 0, 59), (9, 3, 1, 0), (55, 0, 0, 0), (29, 0, 0, 0), (13, 10, 5, 0), (3, 0, 0, 1), (60, 0, 0, 0), (15, 10, 5, 0), (55, 0, 0, 0), (58, 126, 26, 0), (4, 1, 0, 1), (11, 2, 0, 0)],
  [(55, 0, 0, 0), (13, 10, 7, 0), (10, 4, 1, 0), (55, 0, 0, 0), (13, 10, 5, 0), (55, 0, 0, 0), (13, 10, 6, 0), (9, 5, 0, 0), (12, 4, 0, 0)],
  [(3, 0, 0, (-10)), (55, 0, 0, 0), (13, 10, 5, 0), (61, 0, 0, 0), (25, 0, 0, 0)],
  [(55, 0, 0, 0), (14, 10, 1, 0), (3, 0, 0, 1), (30, 0, 0, 0), (17, 0, 0, 0), (3, 0, 0, 1), (60, 0, 0, 0), (18, 0, 0, 0), (55, 0, 0, 0), (14, 10, 1, 0), (3, 0, 0, 5), (55, 0, 0, 0), (13, 10, 4, 0), (18, 0, 0, 0), (55, 0, 0, 0), (13, 10, 4, 0), (25, 0, 0, 0)]]
def kX10_tellsOf : List (List zAI) := [[(55, 0, 0, 0), (14, 10, 1, 0), (3, 0, 0, 5), (17, 0, 0, 0), (3, 0, 0, (-1)), (9, 1, 1, 0), (0, 2, 0, 0), (11, 2, 0, 0)],
  [(55, 0, 0, 0), (14, 10, 1, 0), (0, 1, 0, 0), (55, 0, 0, 0), (14, 10, 1, 0), (3, 0, 0, 5), (17, 0, 0, 0), (60, 0, 0, 0), (17, 0, 0, 0), (12, 2, 0, 0)],
  [(25, 0, 0, 0)]]
def kX10_looks : List (List zAI) := [[(55, 0, 0, 0), (14, 10, 9, 0), (3, 0, 0, 0), (0, 1, 0, 0), (18, 0, 0, 0), (55, 0, 0, 0), (14, 10, 9, 0), (3, 0, 0, 1), (0, 2, 0, 0), (18, 0, 0, 0), (55, 0, 0, 0), (14, 10, 9, 0), (3, 0, 0, 2), (0, 3, 0, 0), (18, 0, 0, 0), (55, 0, 0, 0), (14, 10, 9, 0), (3, 0, 0, 3), (0, 4, 0, 0), (18, 0, 0, 0), (55, 0, 0, 0), (14, 10, 9, 0), (3, 0, 0, 4), (55, 0, 0, 0), (14, 10, 1, 0), (3, 0, 0, 6), (17, 0, 0, 0), (3, 0, 0, 10), (7, 0, 0, 0), (18, 0, 0, 0), (55, 0, 0, 0), (3, 0, 0, 0), (15, 10, 11, 0), (55, 0, 0, 0), (3, 0, 0, 0), (15, 10, 12, 0), (55, 0, 0, 0), (3, 0, 0, 232), (3, 0, 0, 0), (58, 128, 58, 0), (1, 5, 0, 0), (3, 0, 0, 237), (3, 0, 0, 140), (55, 0, 0, 0), (14, 10, 1, 0), (3, 0, 0, 5), (17, 0, 0, 0), (62, 0, 0, 0), (60, 0, 0, 0), (1, 6, 0, 0), (3, 0, 0, 0), (1, 7, 0, 0), (0, 6, 0, 0), (1, 8, 0, 0), (12, 1, 0, 0)],
  [(0, 8, 0, 0), (0, 6, 0, 0), (0, 5, 0, 0), (60, 0, 0, 0), (9, 23, 3, 0), (55, 0, 0, 0), (14, 10, 1, 0), (0, 8, 0, 0), (17, 0, 0, 0), (1, 9, 0, 0), (0, 9, 0, 0), (10, 8, 2, 0), (55, 0, 0, 0), (14, 10, 9, 0), (0, 9, 0, 0), (3, 0, 0, 8), (7, 0, 0, 0), (17, 0, 0, 0), (1, 10, 0, 0), (0, 9, 0, 0), (3, 0, 0, 8), (6, 0, 0, 0), (3, 0, 0, 4), (7, 0, 0, 0), (1, 11, 0, 0), (0, 9, 0, 0), (3, 0, 0, 32), (6, 0, 0, 0), (1, 12, 0, 0), (55, 0, 0, 0), (14, 10, 10, 0), (0, 7, 0, 0), (0, 11, 0, 0), (10, 3, 1, 0), (0, 10, 0, 0), (0, 12, 0, 0), (9, 2, 3, 0), (3, 0, 0, 1), (11, 7, 0, 0)],
  [(3, 0, 0, 0), (11, 7, 0, 0)],
  [(0, 11, 0, 0), (3, 0, 0, 1), (9, 5, 1, 0), (0, 10, 0, 0), (0, 12, 0, 0), (9, 4, 1, 0), (3, 0, 0, 1), (11, 7, 0, 0)],
  [(3, 0, 0, 0), (11, 7, 0, 0)],
  [(0, 10, 0, 0), (0, 12, 0, 0), (9, 6, 5, 0), (3, 0, 0, 1), (11, 7, 0, 0)],
  [(3, 0, 0, 0), (12, 7, 0, 0)],
  [(20, 0, 0, 0), (4, 7, 0, 1), (11, 22, 0, 0)],
  [(0, 9, 0, 0), (3, 0, 0, (-1)), (9, 11, 1, 0), (55, 0, 0, 0), (14, 10, 10, 0), (0, 7, 0, 0), (3, 0, 0, 1), (61, 0, 0, 0), (55, 0, 0, 0), (14, 10, 10, 0), (0, 7, 0, 0), (3, 0, 0, 1), (61, 0, 0, 0), (19, 0, 0, 0), (10, 9, 1, 0), (3, 0, 0, 1), (11, 10, 0, 0)],
  [(3, 0, 0, 0), (12, 10, 0, 0)],
  [(20, 0, 0, 0), (11, 22, 0, 0)],
  [(0, 9, 0, 0), (3, 0, 0, (-10)), (9, 17, 5, 0), (4, 7, 0, (-1)), (55, 0, 0, 0), (14, 10, 10, 0), (0, 7, 0, 0), (3, 0, 0, 1), (61, 0, 0, 0), (0, 9, 0, 0), (3, 0, 0, (-2)), (9, 13, 1, 0), (55, 0, 0, 0), (14, 10, 10, 0), (0, 7, 0, 0), (3, 0, 0, 1), (61, 0, 0, 0), (19, 0, 0, 0), (10, 12, 0, 0), (55, 0, 0, 0), (14, 10, 10, 0), (0, 7, 0, 0), (19, 0, 0, 0), (10, 12, 0, 0), (3, 0, 0, 1), (11, 16, 0, 0)],
  [(3, 0, 0, 0), (11, 16, 0, 0)],
  [(55, 0, 0, 0), (14, 10, 10, 0), (0, 7, 0, 0), (3, 0, 0, 1), (61, 0, 0, 0), (19, 0, 0, 0), (10, 14, 1, 0), (55, 0, 0, 0), (14, 10, 10, 0), (0, 7, 0, 0), (19, 0, 0, 0), (10, 15, 0, 0), (12, 14, 0, 0)],
  [(3, 0, 0, 1), (11, 16, 0, 0)],
  [(3, 0, 0, 0), (12, 16, 0, 0)],
  [(20, 0, 0, 0), (11, 22, 0, 0)],
  [(3, 0, 0, 0), (1, 7, 0, 0), (55, 0, 0, 0), (14, 10, 10, 0), (3, 0, 0, 0), (19, 0, 0, 0), (1, 10, 0, 0), (55, 0, 0, 0), (29, 0, 0, 0), (13, 10, 11, 0), (0, 10, 0, 0), (10, 18, 0, 0), (0, 9, 0, 0), (3, 0, 0, (-200)), (9, 18, 5, 0), (3, 0, 0, (-10)), (0, 9, 0, 0), (61, 0, 0, 0), (11, 19, 0, 0)],
  [(3, 0, 0, 0), (12, 19, 0, 0)],
  [(60, 0, 0, 0), (15, 10, 11, 0), (55, 0, 0, 0), (29, 0, 0, 0), (13, 10, 12, 0), (0, 10, 0, 0), (10, 20, 0, 0), (0, 9, 0, 0), (3, 0, 0, (-200)), (9, 20, 4, 0), (3, 0, 0, (-200)), (0, 9, 0, 0), (61, 0, 0, 0), (11, 21, 0, 0)],
  [(3, 0, 0, 0), (12, 21, 0, 0)],
  [(60, 0, 0, 0), (15, 10, 12, 0), (12, 22, 0, 0)],
  [(4, 8, 0, 1), (11, 1, 0, 0)],
  [(24, 0, 0, 0)]]
def kX10_priceOf : List (List zAI) := [[(55, 0, 0, 0), (3, 0, 0, 0), (55, 0, 0, 0), (14, 10, 1, 0), (3, 0, 0, 42), (0, 1, 0, 0), (60, 0, 0, 0), (17, 0, 0, 0), (55, 0, 0, 0), (14, 10, 1, 0), (3, 0, 0, 10), (0, 1, 0, 0), (60, 0, 0, 0), (17, 0, 0, 0), (55, 0, 0, 0), (14, 10, 1, 0), (3, 0, 0, 26), (0, 1, 0, 0), (60, 0, 0, 0), (17, 0, 0, 0), (58, 129, 90, 0), (55, 0, 0, 0), (13, 10, 12, 0), (25, 0, 0, 0)]]
def kX10_layer : List (List zAI) := [[(0, 1, 0, 0), (3, 0, 0, 0), (3, 0, 0, 6), (23, 110, 3, 0), (10, 1, 0, 0), (0, 5, 0, 0), (23, 112, 1, 0), (10, 2, 1, 0), (12, 1, 0, 0)],
  [(3, 0, 0, (-1)), (25, 0, 0, 0)],
  [(0, 2, 0, 0), (3, 0, 0, 0), (3, 0, 0, 9), (23, 110, 3, 0), (10, 3, 0, 0), (0, 3, 0, 0), (3, 0, 0, 1), (3, 0, 0, 9), (23, 110, 3, 0), (10, 3, 0, 0), (0, 4, 0, 0), (3, 0, 0, 0), (3, 0, 0, 20), (23, 110, 3, 0), (10, 4, 1, 0), (12, 3, 0, 0)],
  [(3, 0, 0, (-2)), (25, 0, 0, 0)],
  [(55, 0, 0, 0), (14, 10, 1, 0), (3, 0, 0, 0), (17, 0, 0, 0), (3, 0, 0, 8), (9, 5, 1, 0), (3, 0, 0, (-4)), (25, 0, 0, 0)],
  [(55, 0, 0, 0), (14, 10, 1, 0), (3, 0, 0, 0), (17, 0, 0, 0), (1, 6, 0, 0), (55, 0, 0, 0), (14, 10, 1, 0), (3, 0, 0, 10), (0, 6, 0, 0), (60, 0, 0, 0), (0, 1, 0, 0), (18, 0, 0, 0), (55, 0, 0, 0), (14, 10, 1, 0), (3, 0, 0, 18), (0, 6, 0, 0), (60, 0, 0, 0), (0, 2, 0, 0), (18, 0, 0, 0), (55, 0, 0, 0), (14, 10, 1, 0), (3, 0, 0, 26), (0, 6, 0, 0), (60, 0, 0, 0), (0, 3, 0, 0), (18, 0, 0, 0), (55, 0, 0, 0), (14, 10, 1, 0), (3, 0, 0, 34), (0, 6, 0, 0), (60, 0, 0, 0), (0, 4, 0, 0), (18, 0, 0, 0), (55, 0, 0, 0), (14, 10, 1, 0), (3, 0, 0, 42), (0, 6, 0, 0), (60, 0, 0, 0), (0, 5, 0, 0), (18, 0, 0, 0), (55, 0, 0, 0), (14, 10, 1, 0), (3, 0, 0, 9), (30, 0, 0, 0), (17, 0, 0, 0), (3, 0, 0, 1), (0, 6, 0, 0), (66, 0, 0, 0), (3, 0, 0, (-1)), (65, 0, 0, 0), (63, 0, 0, 0), (18, 0, 0, 0), (3, 0, 0, 0), (1, 7, 0, 0), (12, 6, 0, 0)],
  [(0, 7, 0, 0), (3, 0, 0, 3), (9, 7, 3, 0), (55, 0, 0, 0), (14, 10, 1, 0), (3, 0, 0, 50), (3, 0, 0, 3), (0, 6, 0, 0), (62, 0, 0, 0), (60, 0, 0, 0), (0, 7, 0, 0), (60, 0, 0, 0), (3, 0, 0, 0), (18, 0, 0, 0), (4, 7, 0, 1), (11, 6, 0, 0)],
  [(55, 0, 0, 0), (14, 10, 1, 0), (3, 0, 0, 0), (30, 0, 0, 0), (17, 0, 0, 0), (3, 0, 0, 1), (60, 0, 0, 0), (18, 0, 0, 0), (0, 6, 0, 0), (25, 0, 0, 0)]]
def kX10_of : List (List zAI) := [[(55, 0, 0, 0), (0, 1, 0, 0), (58, 111, 42, 0), (10, 1, 1, 0), (3, 0, 0, (-1)), (25, 0, 0, 0)],
  [(0, 2, 0, 0), (3, 0, 0, 5), (9, 2, 1, 0), (55, 0, 0, 0), (14, 10, 1, 0), (3, 0, 0, 9), (17, 0, 0, 0), (0, 1, 0, 0), (67, 0, 0, 0), (3, 0, 0, 1), (63, 0, 0, 0), (11, 5, 0, 0)],
  [(0, 2, 0, 0), (3, 0, 0, 6), (9, 3, 1, 0), (55, 0, 0, 0), (0, 1, 0, 0), (58, 130, 42, 0), (11, 5, 0, 0)],
  [(0, 2, 0, 0), (3, 0, 0, 0), (3, 0, 0, 4), (23, 110, 3, 0), (10, 4, 0, 0), (55, 0, 0, 0), (14, 10, 1, 0), (3, 0, 0, 10), (3, 0, 0, 8), (0, 2, 0, 0), (62, 0, 0, 0), (60, 0, 0, 0), (0, 1, 0, 0), (60, 0, 0, 0), (17, 0, 0, 0), (11, 5, 0, 0)],
  [(3, 0, 0, (-1)), (12, 5, 0, 0)],
  [(25, 0, 0, 0)]]
def kX10_side : List (List zAI) := [[(55, 0, 0, 0), (0, 1, 0, 0), (58, 111, 42, 0), (10, 1, 0, 0), (0, 2, 0, 0), (23, 112, 1, 0), (10, 2, 1, 0), (12, 1, 0, 0)],
  [(3, 0, 0, (-1)), (25, 0, 0, 0)],
  [(55, 0, 0, 0), (14, 10, 1, 0), (3, 0, 0, 42), (0, 1, 0, 0), (60, 0, 0, 0), (17, 0, 0, 0), (1, 3, 0, 0), (55, 0, 0, 0), (14, 10, 1, 0), (3, 0, 0, 42), (0, 1, 0, 0), (60, 0, 0, 0), (0, 2, 0, 0), (18, 0, 0, 0), (0, 3, 0, 0), (25, 0, 0, 0)]]
def kX10_broken : List (List zAI) := [[(55, 0, 0, 0), (0, 1, 0, 0), (58, 111, 42, 0), (10, 1, 1, 0), (3, 0, 0, (-1)), (25, 0, 0, 0)],
  [(55, 0, 0, 0), (14, 10, 1, 0), (3, 0, 0, 9), (17, 0, 0, 0), (0, 1, 0, 0), (67, 0, 0, 0), (3, 0, 0, 1), (63, 0, 0, 0), (1, 3, 0, 0), (55, 0, 0, 0), (14, 10, 1, 0), (3, 0, 0, 9), (0, 2, 0, 0), (10, 2, 0, 0), (55, 0, 0, 0), (14, 10, 1, 0), (3, 0, 0, 9), (17, 0, 0, 0), (3, 0, 0, 1), (0, 1, 0, 0), (66, 0, 0, 0), (64, 0, 0, 0), (11, 3, 0, 0)],
  [(55, 0, 0, 0), (14, 10, 1, 0), (3, 0, 0, 9), (17, 0, 0, 0), (3, 0, 0, 1), (0, 1, 0, 0), (66, 0, 0, 0), (3, 0, 0, (-1)), (65, 0, 0, 0), (63, 0, 0, 0), (12, 3, 0, 0)],
  [(18, 0, 0, 0), (0, 3, 0, 0), (25, 0, 0, 0)]]
def kX10_row : List (List zAI) := [[(55, 0, 0, 0), (0, 1, 0, 0), (58, 111, 42, 0), (10, 1, 0, 0), (0, 2, 0, 0), (3, 0, 0, 0), (3, 0, 0, 2), (23, 110, 3, 0), (10, 2, 1, 0), (12, 1, 0, 0)],
  [(3, 0, 0, (-1)), (25, 0, 0, 0)],
  [(0, 3, 0, 0), (3, 0, 0, 0), (3, 0, 0, 9), (23, 110, 3, 0), (10, 3, 1, 0), (3, 0, 0, (-2)), (25, 0, 0, 0)],
  [(55, 0, 0, 0), (14, 10, 1, 0), (3, 0, 0, 10), (0, 1, 0, 0), (60, 0, 0, 0), (17, 0, 0, 0), (3, 0, 0, 6), (9, 4, 0, 0), (3, 0, 0, (-3)), (25, 0, 0, 0)],
  [(55, 0, 0, 0), (14, 10, 1, 0), (3, 0, 0, 50), (3, 0, 0, 3), (0, 1, 0, 0), (62, 0, 0, 0), (60, 0, 0, 0), (0, 2, 0, 0), (60, 0, 0, 0), (17, 0, 0, 0), (1, 4, 0, 0), (55, 0, 0, 0), (14, 10, 1, 0), (3, 0, 0, 50), (3, 0, 0, 3), (0, 1, 0, 0), (62, 0, 0, 0), (60, 0, 0, 0), (0, 2, 0, 0), (60, 0, 0, 0), (0, 3, 0, 0), (18, 0, 0, 0), (0, 4, 0, 0), (25, 0, 0, 0)]]
def kX10_egg : List (List zAI) := [[(55, 0, 0, 0), (14, 10, 1, 0), (3, 0, 0, 8), (17, 0, 0, 0), (3, 0, 0, 1), (9, 1, 1, 0), (3, 0, 0, (-5)), (11, 2, 0, 0)],
  [(55, 0, 0, 0), (14, 10, 1, 0), (3, 0, 0, 7), (17, 0, 0, 0), (12, 2, 0, 0)],
  [(1, 1, 0, 0), (55, 0, 0, 0), (14, 10, 1, 0), (3, 0, 0, 8), (3, 0, 0, 0), (18, 0, 0, 0), (55, 0, 0, 0), (14, 10, 1, 0), (3, 0, 0, 7), (3, 0, 0, 0), (18, 0, 0, 0), (0, 1, 0, 0), (25, 0, 0, 0)]]
def kX10_weightBut : List (List zAI) := [[(3, 0, 0, 0), (1, 2, 0, 0), (3, 0, 0, 0), (1, 3, 0, 0), (12, 1, 0, 0)],
  [(0, 3, 0, 0), (55, 0, 0, 0), (14, 10, 1, 0), (3, 0, 0, 0), (17, 0, 0, 0), (9, 4, 3, 0), (0, 2, 0, 0), (0, 1, 0, 0), (0, 3, 0, 0), (67, 0, 0, 0), (3, 0, 0, 1), (63, 0, 0, 0), (3, 0, 0, 1), (9, 2, 1, 0), (3, 0, 0, 0), (11, 3, 0, 0)],
  [(55, 0, 0, 0), (14, 10, 1, 0), (3, 0, 0, 34), (0, 3, 0, 0), (60, 0, 0, 0), (17, 0, 0, 0), (12, 3, 0, 0)],
  [(60, 0, 0, 0), (1, 2, 0, 0), (4, 3, 0, 1), (11, 1, 0, 0)],
  [(0, 2, 0, 0), (25, 0, 0, 0)]]
def kX10_prices : List (List zAI) := [[(3, 0, 0, 0), (1, 1, 0, 0), (3, 0, 0, 0), (1, 2, 0, 0), (12, 1, 0, 0)],
  [(0, 2, 0, 0), (55, 0, 0, 0), (14, 10, 1, 0), (3, 0, 0, 0), (17, 0, 0, 0), (9, 2, 3, 0), (0, 1, 0, 0), (55, 0, 0, 0), (0, 2, 0, 0), (58, 130, 42, 0), (60, 0, 0, 0), (1, 1, 0, 0), (4, 2, 0, 1), (11, 1, 0, 0)],
  [(0, 1, 0, 0), (25, 0, 0, 0)]]
def kX10_told : List (List zAI) := [[(0, 1, 0, 0), (38, 11, 8, 0)],
  [(55, 0, 0, 0), (14, 10, 1, 0), (3, 0, 0, 6), (17, 0, 0, 0), (25, 0, 0, 0)],
  [(55, 0, 0, 0), (3, 0, 0, 222), (3, 0, 0, 20), (58, 128, 58, 0), (25, 0, 0, 0)],
  [(55, 0, 0, 0), (3, 0, 0, 227), (3, 0, 0, 1), (58, 128, 58, 0), (25, 0, 0, 0)],
  [(55, 0, 0, 0), (14, 10, 1, 0), (3, 0, 0, 7), (17, 0, 0, 0), (25, 0, 0, 0)],
  [(3, 0, 0, 1), (55, 0, 0, 0), (14, 10, 1, 0), (3, 0, 0, 8), (17, 0, 0, 0), (61, 0, 0, 0), (25, 0, 0, 0)],
  [(55, 0, 0, 0), (3, 0, 0, 0), (58, 137, 42, 0), (25, 0, 0, 0)],
  [(55, 0, 0, 0), (58, 138, 26, 0), (25, 0, 0, 0)],
  [(55, 0, 0, 0), (14, 10, 1, 0), (3, 0, 0, 9), (17, 0, 0, 0), (25, 0, 0, 0)],
  [(3, 0, 0, (-1)), (25, 0, 0, 0)]]
def kX10_takesOf : List (List zAI) := [[(55, 0, 0, 0), (14, 10, 1, 0), (3, 0, 0, 26), (0, 1, 0, 0), (60, 0, 0, 0), (17, 0, 0, 0), (1, 4, 0, 0), (55, 0, 0, 0), (14, 10, 1, 0), (3, 0, 0, 10), (0, 1, 0, 0), (60, 0, 0, 0), (17, 0, 0, 0), (1, 5, 0, 0), (0, 3, 0, 0), (3, 0, 0, 10), (0, 4, 0, 0), (62, 0, 0, 0), (9, 1, 4, 0), (0, 3, 0, 0), (3, 0, 0, 2), (6, 0, 0, 0), (11, 2, 0, 0)],
  [(0, 4, 0, 0), (12, 2, 0, 0)],
  [(1, 6, 0, 0), (0, 5, 0, 0), (38, 12, 6, 0)],
  [(0, 3, 0, 0), (3, 0, 0, 20), (9, 4, 5, 0), (3, 0, 0, 2), (0, 4, 0, 0), (62, 0, 0, 0), (11, 5, 0, 0)],
  [(0, 4, 0, 0), (12, 5, 0, 0)],
  [(25, 0, 0, 0)],
  [(0, 2, 0, 0), (3, 0, 0, 2), (7, 0, 0, 0), (3, 0, 0, 1), (9, 7, 1, 0), (3, 0, 0, 0), (11, 9, 0, 0)],
  [(0, 3, 0, 0), (3, 0, 0, 20), (9, 8, 5, 0), (3, 0, 0, 2), (0, 4, 0, 0), (62, 0, 0, 0), (11, 9, 0, 0)],
  [(0, 4, 0, 0), (12, 9, 0, 0)],
  [(25, 0, 0, 0)],
  [(3, 0, 0, 3), (0, 4, 0, 0), (62, 0, 0, 0), (25, 0, 0, 0)],
  [(3, 0, 0, 3), (0, 4, 0, 0), (62, 0, 0, 0), (0, 3, 0, 0), (3, 0, 0, 10), (55, 0, 0, 0), (14, 10, 1, 0), (3, 0, 0, 18), (0, 1, 0, 0), (60, 0, 0, 0), (17, 0, 0, 0), (62, 0, 0, 0), (9, 12, 5, 0), (3, 0, 0, 0), (11, 13, 0, 0)],
  [(55, 0, 0, 0), (14, 10, 1, 0), (3, 0, 0, 18), (0, 1, 0, 0), (60, 0, 0, 0), (17, 0, 0, 0), (12, 13, 0, 0)],
  [(60, 0, 0, 0), (25, 0, 0, 0)],
  [(0, 6, 0, 0), (25, 0, 0, 0)],
  [(0, 6, 0, 0), (55, 0, 0, 0), (14, 10, 1, 0), (3, 0, 0, 50), (3, 0, 0, 3), (0, 1, 0, 0), (62, 0, 0, 0), (60, 0, 0, 0), (55, 0, 0, 0), (14, 10, 1, 0), (3, 0, 0, 6), (17, 0, 0, 0), (3, 0, 0, 3), (7, 0, 0, 0), (60, 0, 0, 0), (17, 0, 0, 0), (60, 0, 0, 0), (25, 0, 0, 0)],
  [(0, 4, 0, 0), (25, 0, 0, 0)]]
def kX10_lands : List (List zAI) := [[(0, 3, 0, 0), (1, 4, 0, 0), (3, 0, 0, 0), (1, 5, 0, 0), (12, 1, 0, 0)],
  [(0, 5, 0, 0), (55, 0, 0, 0), (14, 10, 1, 0), (3, 0, 0, 0), (17, 0, 0, 0), (9, 10, 3, 0), (55, 0, 0, 0), (14, 10, 1, 0), (3, 0, 0, 42), (0, 5, 0, 0), (60, 0, 0, 0), (17, 0, 0, 0), (0, 2, 0, 0), (9, 9, 1, 0), (55, 0, 0, 0), (13, 10, 14, 0), (0, 5, 0, 0), (67, 0, 0, 0), (3, 0, 0, 1), (63, 0, 0, 0), (10, 9, 1, 0), (55, 0, 0, 0), (13, 10, 16, 0), (0, 5, 0, 0), (67, 0, 0, 0), (3, 0, 0, 1), (63, 0, 0, 0), (10, 9, 1, 0), (55, 0, 0, 0), (0, 5, 0, 0), (0, 1, 0, 0), (0, 4, 0, 0), (58, 140, 74, 0), (1, 6, 0, 0), (55, 0, 0, 0), (14, 10, 1, 0), (3, 0, 0, 10), (0, 5, 0, 0), (60, 0, 0, 0), (17, 0, 0, 0), (3, 0, 0, 2), (9, 2, 0, 0), (55, 0, 0, 0), (14, 10, 1, 0), (3, 0, 0, 10), (0, 5, 0, 0), (60, 0, 0, 0), (17, 0, 0, 0), (3, 0, 0, 5), (9, 3, 1, 0), (12, 2, 0, 0)],
  [(0, 4, 0, 0), (3, 0, 0, 10), (55, 0, 0, 0), (14, 10, 1, 0), (3, 0, 0, 18), (0, 5, 0, 0), (60, 0, 0, 0), (17, 0, 0, 0), (62, 0, 0, 0), (9, 3, 5, 0), (3, 0, 0, 1), (11, 4, 0, 0)],
  [(3, 0, 0, 0), (12, 4, 0, 0)],
  [(1, 7, 0, 0), (55, 0, 0, 0), (29, 0, 0, 0), (13, 10, 16, 0), (0, 7, 0, 0), (10, 5, 0, 0), (3, 0, 0, 1), (0, 5, 0, 0), (66, 0, 0, 0), (11, 6, 0, 0)],
  [(3, 0, 0, 0), (12, 6, 0, 0)],
  [(64, 0, 0, 0), (15, 10, 16, 0), (0, 4, 0, 0), (0, 6, 0, 0), (9, 7, 5, 0), (0, 4, 0, 0), (0, 6, 0, 0), (61, 0, 0, 0), (11, 8, 0, 0)],
  [(3, 0, 0, 0), (12, 8, 0, 0)],
  [(1, 4, 0, 0), (12, 9, 0, 0)],
  [(4, 5, 0, 1), (11, 1, 0, 0)],
  [(0, 4, 0, 0), (25, 0, 0, 0)]]
def kX10_strikes : List (List zAI) := [[(55, 0, 0, 0), (13, 10, 13, 0), (3, 0, 0, 3), (55, 0, 0, 0), (13, 10, 17, 0), (62, 0, 0, 0), (61, 0, 0, 0), (1, 2, 0, 0), (0, 2, 0, 0), (10, 1, 3, 0), (3, 0, 0, 0), (11, 2, 0, 0)],
  [(0, 2, 0, 0), (12, 2, 0, 0)],
  [(1, 2, 0, 0), (55, 0, 0, 0), (13, 10, 18, 0), (10, 3, 0, 0), (0, 1, 0, 0), (0, 2, 0, 0), (9, 3, 5, 0), (55, 0, 0, 0), (3, 0, 0, 0), (54, 10, 18, 0), (11, 4, 0, 0)],
  [(55, 0, 0, 0), (13, 10, 18, 0), (10, 4, 0, 0), (3, 0, 0, 2), (0, 1, 0, 0), (62, 0, 0, 0), (0, 2, 0, 0), (9, 4, 5, 0), (55, 0, 0, 0), (29, 0, 0, 0), (13, 10, 17, 0), (3, 0, 0, 1), (60, 0, 0, 0), (15, 10, 17, 0), (12, 4, 0, 0)],
  [(24, 0, 0, 0)]]
def kX10_falls : List (List zAI) := [[(55, 0, 0, 0), (55, 0, 0, 0), (14, 10, 1, 0), (3, 0, 0, 9), (17, 0, 0, 0), (15, 10, 16, 0), (55, 0, 0, 0), (0, 2, 0, 0), (55, 0, 0, 0), (3, 0, 0, 227), (3, 0, 0, 1), (58, 128, 58, 0), (0, 1, 0, 0), (62, 0, 0, 0), (60, 0, 0, 0), (3, 0, 0, 4), (7, 0, 0, 0), (15, 10, 19, 0), (55, 0, 0, 0), (55, 0, 0, 0), (13, 10, 14, 0), (58, 137, 42, 0), (3, 0, 0, 10), (6, 0, 0, 0), (1, 3, 0, 0), (55, 0, 0, 0), (0, 1, 0, 0), (55, 0, 0, 0), (13, 10, 19, 0), (3, 0, 0, 9), (0, 3, 0, 0), (58, 129, 90, 0), (3, 0, 0, 5), (0, 1, 0, 0), (62, 0, 0, 0), (55, 0, 0, 0), (13, 10, 11, 0), (60, 0, 0, 0), (0, 3, 0, 0), (60, 0, 0, 0), (55, 0, 0, 0), (13, 10, 15, 0), (60, 0, 0, 0), (1, 4, 0, 0), (55, 0, 0, 0), (0, 1, 0, 0), (55, 0, 0, 0), (13, 10, 19, 0), (0, 4, 0, 0), (58, 141, 74, 0), (1, 5, 0, 0), (55, 0, 0, 0), (0, 5, 0, 0), (58, 142, 42, 0), (0, 4, 0, 0), (3, 0, 0, 20), (9, 1, 4, 0), (0, 5, 0, 0), (25, 0, 0, 0)],
  [(55, 0, 0, 0), (0, 1, 0, 0), (55, 0, 0, 0), (13, 10, 19, 0), (3, 0, 0, 1), (60, 0, 0, 0), (3, 0, 0, 4), (7, 0, 0, 0), (0, 4, 0, 0), (3, 0, 0, 2), (6, 0, 0, 0), (58, 141, 74, 0), (1, 6, 0, 0), (55, 0, 0, 0), (0, 6, 0, 0), (58, 142, 42, 0), (0, 5, 0, 0), (0, 6, 0, 0), (9, 2, 5, 0), (0, 5, 0, 0), (11, 3, 0, 0)],
  [(0, 6, 0, 0), (12, 3, 0, 0)],
  [(25, 0, 0, 0)]]
def kX10_fallsNow : List (List zAI) := [[(55, 0, 0, 0), (55, 0, 0, 0), (3, 0, 0, 222), (3, 0, 0, 20), (58, 128, 58, 0), (15, 10, 13, 0), (55, 0, 0, 0), (55, 0, 0, 0), (14, 10, 1, 0), (3, 0, 0, 7), (17, 0, 0, 0), (15, 10, 17, 0), (55, 0, 0, 0), (55, 0, 0, 0), (14, 10, 1, 0), (3, 0, 0, 8), (17, 0, 0, 0), (10, 1, 1, 0), (3, 0, 0, 1), (11, 2, 0, 0)],
  [(3, 0, 0, 0), (12, 2, 0, 0)],
  [(54, 10, 18, 0), (55, 0, 0, 0), (0, 1, 0, 0), (0, 2, 0, 0), (58, 143, 58, 0), (25, 0, 0, 0)]]
def kX10_drop : List (List zAI) := [[(0, 1, 0, 0), (23, 113, 1, 0), (10, 1, 0, 0), (0, 2, 0, 0), (23, 112, 1, 0), (10, 2, 1, 0), (12, 1, 0, 0)],
  [(3, 0, 0, (-1)), (25, 0, 0, 0)],
  [(55, 0, 0, 0), (14, 10, 1, 0), (3, 0, 0, 8), (17, 0, 0, 0), (3, 0, 0, 1), (9, 3, 0, 0), (55, 0, 0, 0), (14, 10, 1, 0), (3, 0, 0, 6), (17, 0, 0, 0), (3, 0, 0, 9999), (9, 4, 1, 0), (12, 3, 0, 0)],
  [(3, 0, 0, (-3)), (25, 0, 0, 0)],
  [(55, 0, 0, 0), (0, 1, 0, 0), (0, 2, 0, 0), (58, 144, 58, 0), (1, 3, 0, 0), (55, 0, 0, 0), (14, 10, 1, 0), (3, 0, 0, 9), (55, 0, 0, 0), (13, 10, 16, 0), (18, 0, 0, 0), (55, 0, 0, 0), (14, 10, 1, 0), (3, 0, 0, 7), (55, 0, 0, 0), (13, 10, 17, 0), (18, 0, 0, 0), (55, 0, 0, 0), (14, 10, 1, 0), (3, 0, 0, 8), (55, 0, 0, 0), (13, 10, 18, 0), (10, 5, 0, 0), (3, 0, 0, 0), (11, 6, 0, 0)],
  [(3, 0, 0, 1), (12, 6, 0, 0)],
  [(18, 0, 0, 0), (55, 0, 0, 0), (14, 10, 1, 0), (3, 0, 0, 6), (30, 0, 0, 0), (17, 0, 0, 0), (3, 0, 0, 1), (60, 0, 0, 0), (18, 0, 0, 0), (0, 3, 0, 0), (25, 0, 0, 0)]]
def kX10_fall : List (List zAI) := [[(0, 1, 0, 0), (23, 113, 1, 0), (10, 1, 0, 0), (0, 2, 0, 0), (23, 112, 1, 0), (10, 1, 0, 0), (0, 3, 0, 0), (3, 0, 0, 0), (3, 0, 0, 4), (23, 110, 3, 0), (10, 2, 1, 0), (12, 1, 0, 0)],
  [(3, 0, 0, (-1)), (25, 0, 0, 0)],
  [(55, 0, 0, 0), (0, 1, 0, 0), (0, 2, 0, 0), (58, 144, 58, 0), (1, 4, 0, 0), (0, 3, 0, 0), (10, 3, 1, 0), (0, 4, 0, 0), (11, 8, 0, 0)],
  [(0, 3, 0, 0), (3, 0, 0, 1), (9, 4, 1, 0), (55, 0, 0, 0), (13, 10, 19, 0), (11, 8, 0, 0)],
  [(0, 3, 0, 0), (3, 0, 0, 2), (9, 6, 1, 0), (55, 0, 0, 0), (13, 10, 18, 0), (10, 5, 0, 0), (3, 0, 0, 1), (11, 8, 0, 0)],
  [(3, 0, 0, 0), (11, 8, 0, 0)],
  [(0, 3, 0, 0), (3, 0, 0, 3), (9, 7, 1, 0), (55, 0, 0, 0), (13, 10, 17, 0), (11, 8, 0, 0)],
  [(55, 0, 0, 0), (13, 10, 16, 0), (12, 8, 0, 0)],
  [(25, 0, 0, 0)]]
def kX10_highest : List (List zAI) := [[(0, 1, 0, 0), (23, 112, 1, 0), (10, 1, 1, 0), (3, 0, 0, (-1)), (25, 0, 0, 0)],
  [(3, 0, 0, (-5)), (1, 2, 0, 0), (3, 0, 0, 1), (1, 3, 0, 0), (3, 0, 0, 0), (1, 4, 0, 0), (12, 2, 0, 0)],
  [(0, 4, 0, 0), (3, 0, 0, 20), (9, 5, 4, 0), (0, 3, 0, 0), (10, 5, 0, 0), (55, 0, 0, 0), (0, 4, 0, 0), (0, 1, 0, 0), (58, 144, 58, 0), (31, 0, 0, 0), (55, 0, 0, 0), (13, 10, 18, 0), (1, 3, 0, 0), (0, 3, 0, 0), (10, 3, 0, 0), (0, 4, 0, 0), (11, 4, 0, 0)],
  [(0, 2, 0, 0), (12, 4, 0, 0)],
  [(1, 2, 0, 0), (4, 4, 0, 1), (11, 2, 0, 0)],
  [(0, 2, 0, 0), (25, 0, 0, 0)]]
def kX10_best : List (List zAI) := [[(0, 1, 0, 0), (23, 113, 1, 0), (10, 1, 0, 0), (0, 2, 0, 0), (3, 0, 0, 0), (3, 0, 0, 1), (23, 110, 3, 0), (10, 2, 1, 0), (12, 1, 0, 0)],
  [(3, 0, 0, (-1)), (25, 0, 0, 0)],
  [(3, 0, 0, 0), (1, 3, 0, 0), (3, 0, 0, 100000), (1, 4, 0, 0), (3, 0, 0, 0), (1, 5, 0, 0), (12, 3, 0, 0)],
  [(0, 5, 0, 0), (3, 0, 0, 4), (9, 8, 3, 0), (55, 0, 0, 0), (0, 1, 0, 0), (0, 5, 0, 0), (58, 144, 58, 0), (1, 6, 0, 0), (0, 6, 0, 0), (0, 4, 0, 0), (9, 4, 3, 0), (0, 5, 0, 0), (11, 5, 0, 0)],
  [(0, 3, 0, 0), (12, 5, 0, 0)],
  [(1, 3, 0, 0), (0, 6, 0, 0), (0, 4, 0, 0), (9, 6, 3, 0), (0, 6, 0, 0), (11, 7, 0, 0)],
  [(0, 4, 0, 0), (12, 7, 0, 0)],
  [(1, 4, 0, 0), (4, 5, 0, 1), (11, 3, 0, 0)],
  [(0, 2, 0, 0), (10, 9, 1, 0), (0, 3, 0, 0), (11, 10, 0, 0)],
  [(0, 4, 0, 0), (12, 10, 0, 0)],
  [(25, 0, 0, 0)]]
def kX10_lighter : List (List zAI) := [[(0, 1, 0, 0), (23, 113, 1, 0), (10, 1, 0, 0), (0, 2, 0, 0), (23, 112, 1, 0), (10, 1, 0, 0), (0, 3, 0, 0), (3, 0, 0, 0), (3, 0, 0, 1), (23, 110, 3, 0), (10, 2, 1, 0), (12, 1, 0, 0)],
  [(3, 0, 0, (-1)), (25, 0, 0, 0)],
  [(3, 0, 0, (-5)), (1, 4, 0, 0), (3, 0, 0, 100000), (1, 5, 0, 0), (3, 0, 0, 0), (1, 6, 0, 0), (12, 3, 0, 0)],
  [(0, 6, 0, 0), (3, 0, 0, 1), (55, 0, 0, 0), (14, 10, 1, 0), (3, 0, 0, 0), (17, 0, 0, 0), (66, 0, 0, 0), (9, 9, 3, 0), (55, 0, 0, 0), (0, 6, 0, 0), (58, 137, 42, 0), (1, 7, 0, 0), (0, 7, 0, 0), (0, 5, 0, 0), (9, 8, 3, 0), (55, 0, 0, 0), (0, 6, 0, 0), (15, 10, 14, 0), (55, 0, 0, 0), (0, 1, 0, 0), (0, 2, 0, 0), (58, 144, 58, 0), (31, 0, 0, 0), (55, 0, 0, 0), (3, 0, 0, 0), (15, 10, 14, 0), (55, 0, 0, 0), (13, 10, 18, 0), (10, 4, 0, 0), (0, 6, 0, 0), (11, 5, 0, 0)],
  [(0, 4, 0, 0), (12, 5, 0, 0)],
  [(1, 4, 0, 0), (55, 0, 0, 0), (13, 10, 18, 0), (10, 6, 0, 0), (0, 7, 0, 0), (11, 7, 0, 0)],
  [(0, 5, 0, 0), (12, 7, 0, 0)],
  [(1, 5, 0, 0), (12, 8, 0, 0)],
  [(4, 6, 0, 1), (11, 3, 0, 0)],
  [(0, 3, 0, 0), (10, 10, 0, 0), (0, 4, 0, 0), (3, 0, 0, (-5)), (9, 11, 1, 0), (12, 10, 0, 0)],
  [(0, 4, 0, 0), (11, 12, 0, 0)],
  [(0, 5, 0, 0), (12, 12, 0, 0)],
  [(25, 0, 0, 0)]]
def kX10_shift : List (List zAI) := [[(0, 1, 0, 0), (23, 113, 1, 0), (10, 1, 0, 0), (0, 2, 0, 0), (23, 112, 1, 0), (10, 2, 1, 0), (12, 1, 0, 0)],
  [(3, 0, 0, (-1)), (25, 0, 0, 0)],
  [(55, 0, 0, 0), (0, 1, 0, 0), (0, 2, 0, 0), (58, 144, 58, 0), (1, 3, 0, 0), (3, 0, 0, (-5)), (1, 4, 0, 0), (3, 0, 0, 0), (1, 5, 0, 0), (12, 3, 0, 0)],
  [(0, 5, 0, 0), (55, 0, 0, 0), (14, 10, 1, 0), (3, 0, 0, 0), (17, 0, 0, 0), (9, 12, 3, 0), (55, 0, 0, 0), (14, 10, 1, 0), (3, 0, 0, 42), (0, 5, 0, 0), (60, 0, 0, 0), (17, 0, 0, 0), (1, 6, 0, 0), (3, 0, 0, 0), (1, 7, 0, 0), (12, 4, 0, 0)],
  [(0, 7, 0, 0), (3, 0, 0, 4), (9, 11, 3, 0), (55, 0, 0, 0), (14, 10, 1, 0), (3, 0, 0, 42), (0, 5, 0, 0), (60, 0, 0, 0), (0, 7, 0, 0), (18, 0, 0, 0), (0, 7, 0, 0), (0, 6, 0, 0), (9, 5, 1, 0), (3, 0, 0, 100000), (11, 6, 0, 0)],
  [(55, 0, 0, 0), (0, 1, 0, 0), (0, 2, 0, 0), (58, 144, 58, 0), (12, 6, 0, 0)],
  [(1, 8, 0, 0), (0, 8, 0, 0), (0, 3, 0, 0), (9, 7, 3, 0), (3, 0, 0, 10), (0, 5, 0, 0), (62, 0, 0, 0), (0, 7, 0, 0), (60, 0, 0, 0), (11, 8, 0, 0)],
  [(0, 4, 0, 0), (12, 8, 0, 0)],
  [(1, 4, 0, 0), (0, 8, 0, 0), (0, 3, 0, 0), (9, 9, 3, 0), (0, 8, 0, 0), (11, 10, 0, 0)],
  [(0, 3, 0, 0), (12, 10, 0, 0)],
  [(1, 3, 0, 0), (4, 7, 0, 1), (11, 4, 0, 0)],
  [(55, 0, 0, 0), (14, 10, 1, 0), (3, 0, 0, 42), (0, 5, 0, 0), (60, 0, 0, 0), (0, 6, 0, 0), (18, 0, 0, 0), (4, 5, 0, 1), (11, 3, 0, 0)],
  [(0, 4, 0, 0), (25, 0, 0, 0)]]
def kX10_tries : List (List zAI) := [[(0, 1, 0, 0), (3, 0, 0, 1), (3, 0, 0, 4), (23, 110, 3, 0), (10, 1, 0, 0), (0, 2, 0, 0), (3, 0, 0, 0), (3, 0, 0, 99), (23, 110, 3, 0), (10, 2, 1, 0), (12, 1, 0, 0)],
  [(3, 0, 0, (-2)), (25, 0, 0, 0)],
  [(3, 0, 0, 0), (1, 3, 0, 0), (12, 3, 0, 0)],
  [(0, 3, 0, 0), (3, 0, 0, 5), (9, 4, 3, 0), (55, 0, 0, 0), (14, 10, 20, 0), (0, 3, 0, 0), (3, 0, 0, 0), (18, 0, 0, 0), (4, 3, 0, 1), (11, 3, 0, 0)],
  [(3, 0, 0, 0), (1, 3, 0, 0), (12, 5, 0, 0)],
  [(55, 0, 0, 0), (14, 10, 20, 0), (0, 1, 0, 0), (17, 0, 0, 0), (0, 2, 0, 0), (9, 8, 3, 0), (3, 0, 0, 4), (1, 4, 0, 0), (12, 6, 0, 0)],
  [(0, 4, 0, 0), (10, 7, 5, 0), (55, 0, 0, 0), (14, 10, 20, 0), (0, 4, 0, 0), (55, 0, 0, 0), (14, 10, 20, 0), (0, 4, 0, 0), (17, 0, 0, 0), (3, 0, 0, 1), (60, 0, 0, 0), (55, 0, 0, 0), (14, 10, 20, 0), (0, 4, 0, 0), (3, 0, 0, 1), (61, 0, 0, 0), (17, 0, 0, 0), (60, 0, 0, 0), (18, 0, 0, 0), (4, 4, 0, (-1)), (11, 6, 0, 0)],
  [(4, 3, 0, 1), (11, 5, 0, 0)],
  [(0, 3, 0, 0), (25, 0, 0, 0)]]
def kX10_isSet : List (List zAI) := [[(0, 1, 0, 0), (10, 1, 2, 0), (0, 1, 0, 0), (55, 0, 0, 0), (14, 10, 1, 0), (3, 0, 0, 0), (17, 0, 0, 0), (67, 0, 0, 0), (10, 1, 1, 0), (3, 0, 0, 1), (11, 2, 0, 0)],
  [(3, 0, 0, 0), (12, 2, 0, 0)],
  [(26, 0, 0, 0)]]
def kX10_failed : List (List zAI) := [[(0, 1, 0, 0), (23, 112, 1, 0), (10, 1, 1, 0), (3, 0, 0, (-1)), (25, 0, 0, 0)],
  [(55, 0, 0, 0), (0, 2, 0, 0), (58, 152, 42, 0), (10, 2, 1, 0), (3, 0, 0, (-2)), (25, 0, 0, 0)],
  [(3, 0, 0, 0), (1, 3, 0, 0), (3, 0, 0, 0), (1, 4, 0, 0), (12, 3, 0, 0)],
  [(0, 4, 0, 0), (3, 0, 0, 20), (9, 6, 4, 0), (55, 0, 0, 0), (0, 4, 0, 0), (0, 1, 0, 0), (58, 144, 58, 0), (31, 0, 0, 0), (0, 3, 0, 0), (55, 0, 0, 0), (13, 10, 16, 0), (0, 2, 0, 0), (9, 4, 1, 0), (3, 0, 0, 1), (0, 4, 0, 0), (66, 0, 0, 0), (11, 5, 0, 0)],
  [(3, 0, 0, 0), (12, 5, 0, 0)],
  [(64, 0, 0, 0), (1, 3, 0, 0), (4, 4, 0, 1), (11, 3, 0, 0)],
  [(0, 3, 0, 0), (25, 0, 0, 0)]]
def kX10_see : List (List zAI) := [[(0, 1, 0, 0), (3, 0, 0, (-1)), (9, 1, 1, 0), (55, 0, 0, 0), (14, 10, 1, 0), (3, 0, 0, 2), (3, 0, 0, 0), (18, 0, 0, 0), (3, 0, 0, 0), (25, 0, 0, 0)],
  [(0, 1, 0, 0), (23, 113, 1, 0), (10, 2, 0, 0), (0, 2, 0, 0), (23, 112, 1, 0), (10, 3, 1, 0), (12, 2, 0, 0)],
  [(3, 0, 0, (-1)), (25, 0, 0, 0)],
  [(55, 0, 0, 0), (14, 10, 1, 0), (3, 0, 0, 2), (17, 0, 0, 0), (3, 0, 0, 8), (9, 4, 1, 0), (3, 0, 0, (-4)), (25, 0, 0, 0)],
  [(55, 0, 0, 0), (14, 10, 1, 0), (3, 0, 0, 74), (55, 0, 0, 0), (14, 10, 1, 0), (3, 0, 0, 2), (17, 0, 0, 0), (60, 0, 0, 0), (0, 1, 0, 0), (18, 0, 0, 0), (55, 0, 0, 0), (14, 10, 1, 0), (3, 0, 0, 82), (55, 0, 0, 0), (14, 10, 1, 0), (3, 0, 0, 2), (17, 0, 0, 0), (60, 0, 0, 0), (0, 2, 0, 0), (18, 0, 0, 0), (55, 0, 0, 0), (14, 10, 1, 0), (3, 0, 0, 90), (55, 0, 0, 0), (14, 10, 1, 0), (3, 0, 0, 2), (17, 0, 0, 0), (60, 0, 0, 0), (0, 3, 0, 0), (10, 5, 0, 0), (3, 0, 0, 1), (11, 6, 0, 0)],
  [(3, 0, 0, 0), (12, 6, 0, 0)],
  [(18, 0, 0, 0), (55, 0, 0, 0), (14, 10, 1, 0), (3, 0, 0, 2), (30, 0, 0, 0), (17, 0, 0, 0), (3, 0, 0, 1), (60, 0, 0, 0), (18, 0, 0, 0), (55, 0, 0, 0), (14, 10, 1, 0), (3, 0, 0, 2), (17, 0, 0, 0), (25, 0, 0, 0)]]
def kX10_isAsSeen : List (List zAI) := [[(3, 0, 0, 0), (1, 2, 0, 0), (12, 1, 0, 0)],
  [(0, 2, 0, 0), (55, 0, 0, 0), (14, 10, 1, 0), (3, 0, 0, 2), (17, 0, 0, 0), (9, 5, 3, 0), (55, 0, 0, 0), (0, 1, 0, 0), (15, 10, 13, 0), (55, 0, 0, 0), (3, 0, 0, 0), (15, 10, 17, 0), (55, 0, 0, 0), (3, 0, 0, 1), (54, 10, 18, 0), (55, 0, 0, 0), (55, 0, 0, 0), (14, 10, 1, 0), (3, 0, 0, 74), (0, 2, 0, 0), (60, 0, 0, 0), (17, 0, 0, 0), (55, 0, 0, 0), (14, 10, 1, 0), (3, 0, 0, 82), (0, 2, 0, 0), (60, 0, 0, 0), (17, 0, 0, 0), (58, 143, 58, 0), (31, 0, 0, 0), (55, 0, 0, 0), (13, 10, 18, 0), (55, 0, 0, 0), (14, 10, 1, 0), (3, 0, 0, 90), (0, 2, 0, 0), (60, 0, 0, 0), (17, 0, 0, 0), (3, 0, 0, 1), (9, 2, 1, 0), (3, 0, 0, 1), (11, 3, 0, 0)],
  [(3, 0, 0, 0), (12, 3, 0, 0)],
  [(9, 4, 0, 0), (3, 0, 0, 0), (26, 0, 0, 0)],
  [(4, 2, 0, 1), (11, 1, 0, 0)],
  [(3, 0, 0, 1), (26, 0, 0, 0)]]
def kX10_strong : List (List zAI) := [[(0, 1, 0, 0), (3, 0, 0, 0), (3, 0, 0, 1), (23, 110, 3, 0), (10, 1, 1, 0), (3, 0, 0, (-1)), (25, 0, 0, 0)],
  [(3, 0, 0, (-5)), (1, 2, 0, 0), (3, 0, 0, (-5)), (1, 3, 0, 0), (3, 0, 0, 0), (1, 4, 0, 0), (12, 2, 0, 0)],
  [(0, 4, 0, 0), (3, 0, 0, 100), (9, 6, 3, 0), (55, 0, 0, 0), (0, 4, 0, 0), (58, 155, 42, 0), (10, 5, 0, 0), (0, 2, 0, 0), (3, 0, 0, (-5)), (9, 3, 1, 0), (0, 4, 0, 0), (11, 4, 0, 0)],
  [(0, 2, 0, 0), (12, 4, 0, 0)],
  [(1, 2, 0, 0), (0, 4, 0, 0), (1, 3, 0, 0), (12, 5, 0, 0)],
  [(4, 4, 0, 1), (11, 2, 0, 0)],
  [(0, 1, 0, 0), (10, 7, 1, 0), (0, 2, 0, 0), (11, 8, 0, 0)],
  [(0, 3, 0, 0), (12, 8, 0, 0)],
  [(25, 0, 0, 0)]]
def kX10_lowest : List (List zAI) := [[(56, 0, 0, 0), (2, 5, 0, 0), (56, 2, 0, 0), (2, 7, 0, 0), (12, 1, 0, 0)],
  [(56, 7, 0, 0), (32, 0, 0, 0), (37, 0, 0, 0), (10, 2, 0, 0), (56, 5, 0, 0), (56, 7, 0, 0), (35, 0, 0, 0), (2, 9, 0, 0), (56, 7, 0, 0), (2, 5, 0, 0), (56, 9, 0, 0), (2, 7, 0, 0), (11, 1, 0, 0)],
  [(0, 4, 0, 0), (10, 3, 1, 0), (56, 0, 0, 0), (11, 4, 0, 0)],
  [(56, 2, 0, 0), (12, 4, 0, 0)],
  [(56, 5, 0, 0), (36, 0, 0, 0), (27, 0, 0, 0)]]
def kX10_odds : List (List zAI) := [[(0, 1, 0, 0), (23, 113, 1, 0), (10, 1, 0, 0), (0, 2, 0, 0), (3, 0, 0, 0), (3, 0, 0, 1), (23, 110, 3, 0), (10, 2, 1, 0), (12, 1, 0, 0)],
  [(47, 0, 0, 0), (27, 0, 0, 0)],
  [(32, 0, 0, 0), (2, 3, 0, 0), (3, 0, 0, 0), (1, 5, 0, 0), (12, 3, 0, 0)],
  [(0, 5, 0, 0), (3, 0, 0, 40), (9, 6, 3, 0), (55, 0, 0, 0), (0, 5, 0, 0), (3, 0, 0, 10), (7, 0, 0, 0), (15, 10, 15, 0), (55, 0, 0, 0), (0, 1, 0, 0), (0, 5, 0, 0), (3, 0, 0, 10), (6, 0, 0, 0), (58, 144, 58, 0), (31, 0, 0, 0), (56, 3, 0, 0), (55, 0, 0, 0), (13, 10, 18, 0), (10, 4, 0, 0), (32, 0, 0, 1), (11, 5, 0, 0)],
  [(32, 0, 0, 0), (12, 5, 0, 0)],
  [(34, 0, 0, 0), (2, 3, 0, 0), (4, 5, 0, 1), (11, 3, 0, 0)],
  [(55, 0, 0, 0), (3, 0, 0, 0), (15, 10, 15, 0), (56, 3, 0, 0), (32, 0, 0, 40), (0, 2, 0, 0), (23, 157, 3, 0), (27, 0, 0, 0)]]
def kX10_mean : List (List zAI) := [[(0, 1, 0, 0), (23, 113, 1, 0), (10, 1, 0, 0), (0, 2, 0, 0), (3, 0, 0, 0), (3, 0, 0, 1), (23, 110, 3, 0), (10, 2, 1, 0), (12, 1, 0, 0)],
  [(47, 0, 0, 0), (27, 0, 0, 0)],
  [(32, 0, 0, 0), (2, 3, 0, 0), (3, 0, 0, 0), (1, 5, 0, 0), (12, 3, 0, 0)],
  [(0, 5, 0, 0), (3, 0, 0, 4), (9, 4, 3, 0), (56, 3, 0, 0), (55, 0, 0, 0), (0, 1, 0, 0), (0, 5, 0, 0), (58, 144, 58, 0), (33, 0, 0, 0), (34, 0, 0, 0), (2, 3, 0, 0), (4, 5, 0, 1), (11, 3, 0, 0)],
  [(56, 3, 0, 0), (32, 0, 0, 4), (0, 2, 0, 0), (23, 157, 3, 0), (27, 0, 0, 0)]]
def kX10_book : List (List zAI) := [[(0, 1, 0, 0), (3, 0, 0, (-1)), (9, 1, 1, 0), (55, 0, 0, 0), (14, 10, 1, 0), (3, 0, 0, 3), (3, 0, 0, 0), (18, 0, 0, 0), (3, 0, 0, 0), (25, 0, 0, 0)],
  [(0, 1, 0, 0), (23, 113, 1, 0), (10, 2, 0, 0), (0, 2, 0, 0), (23, 112, 1, 0), (10, 3, 1, 0), (12, 2, 0, 0)],
  [(3, 0, 0, (-1)), (25, 0, 0, 0)],
  [(0, 3, 0, 0), (3, 0, 0, 0), (3, 0, 0, 9999), (23, 110, 3, 0), (10, 4, 1, 0), (3, 0, 0, (-2)), (25, 0, 0, 0)],
  [(55, 0, 0, 0), (14, 10, 1, 0), (3, 0, 0, 3), (17, 0, 0, 0), (3, 0, 0, 8), (9, 5, 1, 0), (3, 0, 0, (-4)), (25, 0, 0, 0)],
  [(55, 0, 0, 0), (14, 10, 1, 0), (3, 0, 0, 98), (55, 0, 0, 0), (14, 10, 1, 0), (3, 0, 0, 3), (17, 0, 0, 0), (60, 0, 0, 0), (0, 1, 0, 0), (18, 0, 0, 0), (55, 0, 0, 0), (14, 10, 1, 0), (3, 0, 0, 106), (55, 0, 0, 0), (14, 10, 1, 0), (3, 0, 0, 3), (17, 0, 0, 0), (60, 0, 0, 0), (0, 2, 0, 0), (18, 0, 0, 0), (55, 0, 0, 0), (14, 10, 1, 0), (3, 0, 0, 114), (55, 0, 0, 0), (14, 10, 1, 0), (3, 0, 0, 3), (17, 0, 0, 0), (60, 0, 0, 0), (0, 3, 0, 0), (18, 0, 0, 0), (55, 0, 0, 0), (14, 10, 1, 0), (3, 0, 0, 3), (30, 0, 0, 0), (17, 0, 0, 0), (3, 0, 0, 1), (60, 0, 0, 0), (18, 0, 0, 0), (55, 0, 0, 0), (14, 10, 1, 0), (3, 0, 0, 3), (17, 0, 0, 0), (25, 0, 0, 0)]]
def kX10_looked : List (List zAI) := [[(3, 0, 0, 0), (1, 1, 0, 0), (12, 1, 0, 0)],
  [(0, 1, 0, 0), (55, 0, 0, 0), (14, 10, 1, 0), (3, 0, 0, 3), (17, 0, 0, 0), (9, 3, 3, 0), (55, 0, 0, 0), (55, 0, 0, 0), (14, 10, 1, 0), (3, 0, 0, 98), (0, 1, 0, 0), (60, 0, 0, 0), (17, 0, 0, 0), (55, 0, 0, 0), (14, 10, 1, 0), (3, 0, 0, 106), (0, 1, 0, 0), (60, 0, 0, 0), (17, 0, 0, 0), (58, 144, 58, 0), (55, 0, 0, 0), (14, 10, 1, 0), (3, 0, 0, 114), (0, 1, 0, 0), (60, 0, 0, 0), (17, 0, 0, 0), (9, 2, 0, 0), (0, 1, 0, 0), (25, 0, 0, 0)],
  [(4, 1, 0, 1), (11, 1, 0, 0)],
  [(3, 0, 0, (-5)), (25, 0, 0, 0)]]
def kX10_ranBody : List (List zAI) := [[(55, 0, 0, 0), (13, 10, 22, 0), (3, 0, 0, 20), (9, 1, 3, 0), (55, 0, 0, 0), (14, 10, 21, 0), (55, 0, 0, 0), (13, 10, 22, 0), (0, 1, 0, 0), (18, 0, 0, 0), (12, 1, 0, 0)],
  [(55, 0, 0, 0), (29, 0, 0, 0), (13, 10, 22, 0), (3, 0, 0, 1), (60, 0, 0, 0), (15, 10, 22, 0), (24, 0, 0, 0)]]
def kX10_isUnder : List (List zAI) := [[(0, 1, 0, 0), (10, 1, 0, 0), (0, 1, 0, 0), (0, 0, 0, 0), (9, 1, 0, 0), (0, 1, 0, 0), (10, 2, 5, 0), (0, 1, 0, 0), (3, 0, 0, 4), (9, 2, 3, 0), (0, 0, 0, 0), (0, 1, 0, 0), (3, 0, 0, 3), (60, 0, 0, 0), (9, 2, 1, 0), (12, 1, 0, 0)],
  [(3, 0, 0, 1), (11, 3, 0, 0)],
  [(3, 0, 0, 0), (12, 3, 0, 0)],
  [(26, 0, 0, 0)]]
def kX10_plainGives : List (List zAI) := [[(55, 0, 0, 0), (3, 0, 0, 1), (58, 162, 42, 0), (0, 1, 0, 0), (55, 0, 0, 0), (13, 10, 24, 0), (60, 0, 0, 0), (25, 0, 0, 0)]]
def kX10_givesActs : List (List zAI) := [[(55, 0, 0, 0), (13, 10, 23, 0), (3, 0, 0, 1), (23, 163, 2, 0), (10, 1, 0, 0), (55, 0, 0, 0), (3, 0, 0, 11), (58, 162, 42, 0), (55, 0, 0, 0), (0, 1, 0, 0), (3, 0, 0, 3), (62, 0, 0, 0), (58, 164, 42, 0), (25, 0, 0, 0)],
  [(55, 0, 0, 0), (13, 10, 23, 0), (3, 0, 0, 5), (9, 2, 1, 0), (55, 0, 0, 0), (3, 0, 0, 51), (58, 162, 42, 0), (55, 0, 0, 0), (0, 1, 0, 0), (58, 164, 42, 0), (55, 0, 0, 0), (13, 10, 24, 0), (65, 0, 0, 0), (25, 0, 0, 0)],
  [(55, 0, 0, 0), (0, 1, 0, 0), (58, 164, 42, 0), (25, 0, 0, 0)]]
def kX10_plainTakes : List (List zAI) := [[(55, 0, 0, 0), (3, 0, 0, 2), (58, 162, 42, 0), (55, 0, 0, 0), (0, 1, 0, 0), (58, 165, 42, 0), (55, 0, 0, 0), (13, 10, 25, 0), (61, 0, 0, 0), (25, 0, 0, 0)]]
def kX10_takesActs : List (List zAI) := [[(55, 0, 0, 0), (13, 10, 23, 0), (3, 0, 0, 2), (23, 163, 2, 0), (10, 1, 0, 0), (55, 0, 0, 0), (3, 0, 0, 21), (58, 162, 42, 0), (55, 0, 0, 0), (0, 1, 0, 0), (58, 166, 42, 0), (8, 0, 0, 0), (25, 0, 0, 0)],
  [(55, 0, 0, 0), (13, 10, 23, 0), (3, 0, 0, 6), (9, 2, 1, 0), (55, 0, 0, 0), (3, 0, 0, 61), (58, 162, 42, 0), (55, 0, 0, 0), (0, 1, 0, 0), (58, 166, 42, 0), (55, 0, 0, 0), (13, 10, 25, 0), (60, 0, 0, 0), (25, 0, 0, 0)],
  [(55, 0, 0, 0), (0, 1, 0, 0), (58, 166, 42, 0), (25, 0, 0, 0)]]
def kX10_plainTells : List (List zAI) := [[(55, 0, 0, 0), (3, 0, 0, 3), (58, 162, 42, 0), (55, 0, 0, 0), (0, 1, 0, 0), (58, 167, 42, 0), (3, 0, 0, 2), (62, 0, 0, 0), (25, 0, 0, 0)]]
def kX10_tellsActs : List (List zAI) := [[(55, 0, 0, 0), (13, 10, 23, 0), (3, 0, 0, 3), (23, 163, 2, 0), (10, 1, 0, 0), (55, 0, 0, 0), (3, 0, 0, 31), (58, 162, 42, 0), (55, 0, 0, 0), (0, 1, 0, 0), (58, 168, 42, 0), (3, 0, 0, 7), (65, 0, 0, 0), (25, 0, 0, 0)],
  [(55, 0, 0, 0), (13, 10, 23, 0), (3, 0, 0, 4), (9, 2, 1, 0), (55, 0, 0, 0), (3, 0, 0, 41), (58, 162, 42, 0), (55, 0, 0, 0), (0, 1, 0, 0), (3, 0, 0, 1), (61, 0, 0, 0), (58, 168, 42, 0), (1, 2, 0, 0), (0, 2, 0, 0), (55, 0, 0, 0), (3, 0, 0, 2), (58, 165, 42, 0), (60, 0, 0, 0), (25, 0, 0, 0)],
  [(55, 0, 0, 0), (0, 1, 0, 0), (58, 168, 42, 0), (25, 0, 0, 0)]]
def kX10_act : List (List zAI) := [[(55, 0, 0, 0), (3, 0, 0, 0), (15, 10, 22, 0), (55, 0, 0, 0), (0, 1, 0, 0), (58, 111, 42, 0), (10, 1, 0, 0), (0, 2, 0, 0), (3, 0, 0, 0), (3, 0, 0, 2), (23, 110, 3, 0), (10, 2, 1, 0), (12, 1, 0, 0)],
  [(3, 0, 0, 0), (25, 0, 0, 0)],
  [(55, 0, 0, 0), (55, 0, 0, 0), (14, 10, 1, 0), (3, 0, 0, 10), (0, 1, 0, 0), (60, 0, 0, 0), (17, 0, 0, 0), (15, 10, 23, 0), (55, 0, 0, 0), (0, 1, 0, 0), (15, 10, 24, 0), (55, 0, 0, 0), (55, 0, 0, 0), (14, 10, 1, 0), (3, 0, 0, 18), (0, 1, 0, 0), (60, 0, 0, 0), (17, 0, 0, 0), (15, 10, 25, 0), (0, 2, 0, 0), (10, 3, 1, 0), (55, 0, 0, 0), (0, 3, 0, 0), (58, 165, 42, 0), (11, 5, 0, 0)],
  [(0, 2, 0, 0), (3, 0, 0, 1), (9, 4, 1, 0), (55, 0, 0, 0), (0, 3, 0, 0), (58, 167, 42, 0), (11, 5, 0, 0)],
  [(55, 0, 0, 0), (0, 3, 0, 0), (58, 169, 42, 0), (12, 5, 0, 0)],
  [(25, 0, 0, 0)]]
def kX10_trace : List (List zAI) := [[(0, 1, 0, 0), (3, 0, 0, 0), (55, 0, 0, 0), (13, 10, 22, 0), (3, 0, 0, 20), (9, 1, 3, 0), (55, 0, 0, 0), (13, 10, 22, 0), (11, 2, 0, 0)],
  [(3, 0, 0, 20), (12, 2, 0, 0)],
  [(3, 0, 0, 1), (61, 0, 0, 0), (23, 110, 3, 0), (10, 3, 0, 0), (55, 0, 0, 0), (14, 10, 21, 0), (0, 1, 0, 0), (17, 0, 0, 0), (11, 4, 0, 0)],
  [(3, 0, 0, (-1)), (12, 4, 0, 0)],
  [(25, 0, 0, 0)]]
def kX10_as : List (List zAI) := [[(55, 0, 0, 0), (0, 1, 0, 0), (58, 111, 42, 0), (10, 1, 0, 0), (0, 2, 0, 0), (3, 0, 0, 0), (3, 0, 0, 6), (23, 110, 3, 0), (10, 2, 1, 0), (12, 1, 0, 0)],
  [(3, 0, 0, (-1)), (25, 0, 0, 0)],
  [(55, 0, 0, 0), (14, 10, 1, 0), (3, 0, 0, 10), (0, 1, 0, 0), (60, 0, 0, 0), (17, 0, 0, 0), (0, 2, 0, 0), (23, 163, 2, 0), (10, 3, 0, 0), (55, 0, 0, 0), (14, 10, 1, 0), (3, 0, 0, 18), (0, 1, 0, 0), (60, 0, 0, 0), (17, 0, 0, 0), (11, 4, 0, 0)],
  [(3, 0, 0, (-6)), (12, 4, 0, 0)],
  [(25, 0, 0, 0)]]
def kX10_image : List (List zAI) := [[(3, 0, 0, 0), (1, 1, 0, 0), (12, 1, 0, 0)],
  [(0, 1, 0, 0), (3, 0, 0, 937), (9, 2, 3, 0), (55, 0, 0, 0), (14, 10, 2, 0), (0, 1, 0, 0), (55, 0, 0, 0), (14, 10, 1, 0), (0, 1, 0, 0), (17, 0, 0, 0), (18, 0, 0, 0), (4, 1, 0, 1), (11, 1, 0, 0)],
  [(55, 0, 0, 0), (3, 0, 0, 1), (54, 10, 3, 0), (55, 0, 0, 0), (14, 10, 1, 0), (3, 0, 0, 0), (17, 0, 0, 0), (25, 0, 0, 0)]]
def kX10_undo : List (List zAI) := [[(55, 0, 0, 0), (13, 10, 3, 0), (10, 1, 1, 0), (3, 0, 0, (-3)), (25, 0, 0, 0)],
  [(3, 0, 0, 0), (1, 1, 0, 0), (12, 2, 0, 0)],
  [(0, 1, 0, 0), (3, 0, 0, 937), (9, 3, 3, 0), (55, 0, 0, 0), (14, 10, 1, 0), (0, 1, 0, 0), (55, 0, 0, 0), (14, 10, 2, 0), (0, 1, 0, 0), (17, 0, 0, 0), (18, 0, 0, 0), (4, 1, 0, 1), (11, 2, 0, 0)],
  [(55, 0, 0, 0), (14, 10, 1, 0), (3, 0, 0, 0), (17, 0, 0, 0), (25, 0, 0, 0)]]
def kX10_count : List (List zAI) := [[(0, 1, 0, 0), (3, 0, 0, 5), (9, 1, 1, 0), (55, 0, 0, 0), (13, 10, 22, 0), (11, 3, 0, 0)],
  [(0, 1, 0, 0), (3, 0, 0, 0), (3, 0, 0, 4), (23, 110, 3, 0), (10, 2, 0, 0), (55, 0, 0, 0), (14, 10, 1, 0), (0, 1, 0, 0), (17, 0, 0, 0), (11, 3, 0, 0)],
  [(3, 0, 0, (-1)), (12, 3, 0, 0)],
  [(25, 0, 0, 0)]]
/-- the blocks of a method -/
def zbmL : List (List (List zAI)) := [[], kX0_clear, kX0_take, kX0_begin, kX0_gives, kX0_takes, kX0_tells, kX0_takesAtTop, kX0_tellsAtTop, [], kX1_copyFrom, [], kX2_renew, kX2_land, kX2_copyFrom, [], kX3_happen, kX3_force, kX3_meet, kX3_meetNew, kX3_landAll, kX3_goThrough, kX3_takenBy, kX3_crumpled, kX3_hung, kX3_standing, [], kX4_isUnder, kX4_has, kX4_isBroken, kX4_allBits, kX4_add, kX4_mark, kX4_weightWithout, kX4_copyFrom, [], kX5_read, kX5_next, kX5_pass, kX5_passAll, kX5_readClause, kX5_readWord, kX5_readDigit, kX5_readNumber, kX5_readAny, kX5_readOne, kX5_readTest, kX5_readOneOf, [], kX6_clear, kX6_copyFrom, kX6_addStep, kX6_addClause, kX6_last, kX6_setTest, kX6_sum, kX6_holds, kX6_passes, [], kX7_add, kX7_copyFrom, [], kX8_put, kX8_copyFrom, [], kX9_feed, kX9_school, kX9_layer, kX9_of, kX9_side, kX9_broken, kX9_row, kX9_egg, kX9_told, kX9_drop, kX9_fall, kX9_highest, kX9_best, kX9_lighter, kX9_shift, kX9_tries, kX9_failed, kX9_see, kX9_strong, kX9_odds, kX9_mean, kX9_book, kX9_looked, kX9_act, kX9_trace, kX9_as, kX9_image, kX9_undo, kX9_count, kX9_isFloor, kX9_isSide, kX9_isKind, kX9_holding, kX9_bear, kX9_price, kX9_prices, kX9_letFall, kX9_staysWhole, kX9_forceOf, kX9_forceWithShifted, kX9_floorsTold, kX9_findFits, kX9_write, kX9_inLowestTerms, [], kX10_in, kX10_isLayer, kX10_isSide, kX10_isFloor, kX10_feed, kX10_here, kX10_must, kX10_spells, kX10_figures, kX10_among, kX10_emits, kX10_factor, kX10_every, kX10_some, kX10_much, kX10_tellsHere, kX10_clauseHere, kX10_school, kX10_tellsOf, kX10_looks, kX10_priceOf, kX10_layer, kX10_of, kX10_side, kX10_broken, kX10_row, kX10_egg, kX10_weightBut, kX10_prices, kX10_told, kX10_takesOf, kX10_lands, kX10_strikes, kX10_falls, kX10_fallsNow, kX10_drop, kX10_fall, kX10_highest, kX10_best, kX10_lighter, kX10_shift, kX10_tries, kX10_isSet, kX10_failed, kX10_see, kX10_isAsSeen, kX10_strong, kX10_lowest, kX10_odds, kX10_mean, kX10_book, kX10_looked, kX10_ranBody, kX10_isUnder, kX10_plainGives, kX10_givesActs, kX10_plainTakes, kX10_takesActs, kX10_plainTells, kX10_tellsActs, kX10_act, kX10_trace, kX10_as, kX10_image, kX10_undo, kX10_count]
/-- leaders of the blocks -/
def zpcL : List (List Nat) := [[],
  [0],
  [0],
  [0, 26],
  [0, 40, 60, 83],
  [0, 40, 53, 70],
  [0, 36, 51, 71],
  [0],
  [0],
  [],
  [0],
  [],
  [0],
  [0, 8, 34, 51],
  [0],
  [],
  [0, 141, 142, 172, 173],
  [0],
  [0],
  [0],
  [0, 31],
  [0, 5, 45, 46, 81, 87],
  [0, 56, 62, 70, 76, 90, 95, 96, 112, 137],
  [0, 12, 13],
  [0, 14, 15],
  [0, 44],
  [],
  [0, 4, 27, 39],
  [0, 22, 23],
  [0, 16, 17],
  [0],
  [0, 16, 19],
  [0, 16, 26],
  [0, 4, 35, 41],
  [0],
  [],
  [0, 38, 56, 69, 84, 89, 95],
  [0, 42, 43],
  [0, 10],
  [0, 2, 24, 30],
  [0, 13, 17, 24, 34, 38, 39, 61, 63],
  [0, 48, 61, 62, 63, 76, 77, 78, 91, 92, 93, 106, 107, 108],
  [0, 17, 19],
  [0, 11, 24, 30],
  [0, 2, 18, 20, 45, 60, 73, 84, 90],
  [0, 22, 31, 33, 72, 73, 74, 86],
  [0, 15, 21, 30, 34, 41],
  [0, 7, 36, 42],
  [],
  [0],
  [0],
  [0, 36],
  [0, 59],
  [0, 5, 40, 46],
  [0],
  [0, 7, 59, 73],
  [0, 5, 58, 59, 64, 77, 97, 104, 110, 121, 122],
  [0, 19, 21, 55, 56, 57, 77, 81, 96, 97],
  [],
  [0, 16, 18],
  [0],
  [],
  [0, 16, 18],
  [0],
  [],
  [0, 10, 13, 40, 42],
  [0, 24, 27, 62],
  [0, 15, 17, 50, 53],
  [0, 18, 60, 67, 74, 81, 88, 95, 107, 108, 109, 115],
  [0, 21, 23],
  [0, 16, 48, 49],
  [0, 27, 29, 39, 42, 57],
  [0, 26, 28],
  [0, 48, 56, 61, 71, 82, 99, 100, 101, 113, 118, 129],
  [0, 14, 16, 42, 45],
  [0, 14, 16, 60, 68, 76, 93, 94, 95, 106, 114],
  [0, 9, 11, 37, 40, 41, 47],
  [0, 16, 18, 31, 60, 66, 74, 76],
  [0, 23, 25, 48, 81, 101, 107, 116, 118],
  [0, 14, 16, 30, 86, 92],
  [0, 20, 23, 25, 41, 47],
  [0, 9, 29, 34, 68, 74],
  [0, 17, 18],
  [0, 9, 11, 17, 34, 43, 55, 61],
  [0, 16, 20, 25, 54, 60],
  [0, 16, 20, 25, 47],
  [0, 18, 19, 37, 40],
  [0, 10, 51, 57],
  [0, 23, 64, 73, 82, 91],
  [0, 21, 23],
  [0, 21, 23, 57, 59],
  [0],
  [0, 10],
  [0, 40, 51, 59, 70, 81, 92, 100],
  [0, 14, 15],
  [0, 13, 14],
  [0, 14, 15],
  [0, 30, 36],
  [0],
  [0],
  [0, 4, 32],
  [0],
  [0],
  [0],
  [0],
  [0, 7, 41],
  [0, 2, 24, 34, 79, 127, 128, 135, 136, 144, 150],
  [0, 12, 26, 28, 45, 47],
  [0, 2, 30, 34, 35, 41, 50, 52],
  [],
  [0, 14, 15],
  [0],
  [0],
  [0],
  [0, 13, 27],
  [0, 26, 27],
  [0, 16, 20, 21, 40, 41],
  [0, 2, 25],
  [0, 22, 26, 27, 34, 68, 97],
  [0, 2, 34, 40],
  [0, 56],
  [0, 8, 25, 38, 39, 68, 69, 91, 101, 112, 129, 130, 144, 150, 164, 168, 169],
  [0, 4, 43],
  [0, 4, 43],
  [0],
  [0, 29],
  [0, 48, 60, 72, 83, 95, 100],
  [0, 13, 104, 146, 164, 172],
  [0, 14, 27],
  [0, 88, 162, 166, 183, 187, 198, 199, 206, 236, 237, 241, 292, 296, 318, 322, 323, 327, 364, 365, 396, 397, 401, 407],
  [0],
  [0, 18, 20, 51, 54, 68, 152, 180],
  [0, 10, 29, 43, 69, 70],
  [0, 15, 17],
  [0, 10, 46, 59],
  [0, 17, 19, 32, 49],
  [0, 16, 23],
  [0, 4, 28, 37, 45],
  [0, 4, 28],
  [0, 48, 56, 66, 75, 83, 93, 99, 104, 112],
  [0, 37, 39, 80, 93, 95, 96, 107, 120, 122, 123, 128, 152, 161, 163, 166, 191],
  [0, 6, 94, 116, 117, 136, 137, 156, 157, 159, 165],
  [0, 20, 21, 42, 66],
  [0, 99, 136, 138],
  [0, 39, 40],
  [0, 14, 16, 40, 43, 89, 90],
  [0, 23, 25, 42, 54, 70, 74, 86, 90],
  [0, 9, 17, 50, 51, 58],
  [0, 16, 18, 27, 54, 55, 68, 70, 78, 86, 88],
  [0, 23, 25, 36, 94, 96, 110, 112, 114, 120, 131, 136, 138],
  [0, 14, 16, 30, 56, 86, 92, 111, 113, 126, 127, 134, 152],
  [0, 19, 22, 24, 42, 44, 57, 94, 100],
  [0, 19, 20],
  [0, 9, 20, 25, 56, 57, 65],
  [0, 14, 28, 30, 44, 95, 96],
  [0, 2, 71, 72, 77, 83],
  [0, 11, 20, 47, 48, 52, 58, 66, 67],
  [0, 6, 31, 40, 41],
  [0, 16, 20, 25, 64, 65, 73],
  [0, 16, 20, 25, 48],
  [0, 14, 28, 30, 44, 58],
  [0, 2, 48, 54],
  [0, 19],
  [0, 25, 29, 30],
  [0],
  [0, 25, 50],
  [0],
  [0, 24, 50],
  [0],
  [0, 26, 56],
  [0, 22, 24, 67, 80, 85],
  [0, 18, 20, 37, 38],
  [0, 18, 20, 48, 50],
  [0, 2, 27],
  [0, 10, 12, 37],
  [0, 12, 30, 31]]
/-- name, code, locals, answer -/
def zmT : List (MethodName × (ByteArray × (Nat × Option FieldType))) := [(yX0_init, cX0_init, 1, none),
  (yX0_clear, cX0_clear, 1, none),
  (yX0_take, cX0_take, 3, none),
  (yX0_begin, cX0_begin, 2, none),
  (yX0_gives, cX0_gives, 2, some .int),
  (yX0_takes, cX0_takes, 2, some .int),
  (yX0_tells, cX0_tells, 2, some .int),
  (yX0_takesAtTop, cX0_takesAtTop, 2, some .int),
  (yX0_tellsAtTop, cX0_tellsAtTop, 2, some .int),
  (yX1_init, cX1_init, 1, none),
  (yX1_copyFrom, cX1_copyFrom, 2, none),
  (yX2_init, cX2_init, 1, none),
  (yX2_renew, cX2_renew, 1, none),
  (yX2_land, cX2_land, 4, none),
  (yX2_copyFrom, cX2_copyFrom, 2, none),
  (yX3_init, cX3_init, 1, none),
  (yX3_happen, cX3_happen, 9, none),
  (yX3_force, cX3_force, 1, some .int),
  (yX3_meet, cX3_meet, 3, none),
  (yX3_meetNew, cX3_meetNew, 2, none),
  (yX3_landAll, cX3_landAll, 2, none),
  (yX3_goThrough, cX3_goThrough, 6, some .int),
  (yX3_takenBy, cX3_takenBy, 4, some .int),
  (yX3_crumpled, cX3_crumpled, 2, some .int),
  (yX3_hung, cX3_hung, 2, some .int),
  (yX3_standing, cX3_standing, 5, some .int),
  (yX4_init, cX4_init, 1, none),
  (yX4_isUnder, cX4_isUnder, 4, some .boolean),
  (yX4_has, cX4_has, 2, some .boolean),
  (yX4_isBroken, cX4_isBroken, 2, some .boolean),
  (yX4_allBits, cX4_allBits, 1, some .int),
  (yX4_add, cX4_add, 7, some .int),
  (yX4_mark, cX4_mark, 3, none),
  (yX4_weightWithout, cX4_weightWithout, 4, some .int),
  (yX4_copyFrom, cX4_copyFrom, 2, none),
  (yX5_init, cX5_init, 1, none),
  (yX5_read, cX5_read, 3, some .int),
  (yX5_next, cX5_next, 1, some .int),
  (yX5_pass, cX5_pass, 2, some .boolean),
  (yX5_passAll, cX5_passAll, 3, some .boolean),
  (yX5_readClause, cX5_readClause, 4, some .boolean),
  (yX5_readWord, cX5_readWord, 1, some .int),
  (yX5_readDigit, cX5_readDigit, 2, some .int),
  (yX5_readNumber, cX5_readNumber, 3, some .int),
  (yX5_readAny, cX5_readAny, 4, some .boolean),
  (yX5_readOne, cX5_readOne, 3, some .boolean),
  (yX5_readTest, cX5_readTest, 4, some .boolean),
  (yX5_readOneOf, cX5_readOneOf, 4, some .int),
  (yX6_init, cX6_init, 1, none),
  (yX6_clear, cX6_clear, 1, none),
  (yX6_copyFrom, cX6_copyFrom, 2, none),
  (yX6_addStep, cX6_addStep, 2, none),
  (yX6_addClause, cX6_addClause, 3, none),
  (yX6_last, cX6_last, 5, some .int),
  (yX6_setTest, cX6_setTest, 6, none),
  (yX6_sum, cX6_sum, 5, some .int),
  (yX6_holds, cX6_holds, 7, some .boolean),
  (yX6_passes, cX6_passes, 5, some .boolean),
  (yX7_init, cX7_init, 1, none),
  (yX7_add, cX7_add, 4, some .boolean),
  (yX7_copyFrom, cX7_copyFrom, 2, none),
  (yX8_init, cX8_init, 1, none),
  (yX8_put, cX8_put, 2, some .boolean),
  (yX8_copyFrom, cX8_copyFrom, 2, none),
  (yX9_init, cX9_init, 2, none),
  (yX9_feed, cX9_feed, 2, some .int),
  (yX9_school, cX9_school, 3, some .int),
  (yX9_layer, cX9_layer, 6, some .int),
  (yX9_of, cX9_of, 4, some .int),
  (yX9_side, cX9_side, 4, some .int),
  (yX9_broken, cX9_broken, 4, some .int),
  (yX9_row, cX9_row, 7, some .int),
  (yX9_egg, cX9_egg, 2, some .int),
  (yX9_told, cX9_told, 2, some .int),
  (yX9_drop, cX9_drop, 3, some .int),
  (yX9_fall, cX9_fall, 4, some .int),
  (yX9_highest, cX9_highest, 3, some .int),
  (yX9_best, cX9_best, 7, some .int),
  (yX9_lighter, cX9_lighter, 9, some .int),
  (yX9_shift, cX9_shift, 7, some .int),
  (yX9_tries, cX9_tries, 4, some .int),
  (yX9_failed, cX9_failed, 5, some .int),
  (yX9_see, cX9_see, 4, some .int),
  (yX9_strong, cX9_strong, 4, some .int),
  (yX9_odds, cX9_odds, 5, some .long),
  (yX9_mean, cX9_mean, 5, some .long),
  (yX9_book, cX9_book, 5, some .int),
  (yX9_looked, cX9_looked, 3, some .int),
  (yX9_act, cX9_act, 4, some .int),
  (yX9_trace, cX9_trace, 2, some .int),
  (yX9_as, cX9_as, 3, some .int),
  (yX9_image, cX9_image, 1, some .int),
  (yX9_undo, cX9_undo, 1, some .int),
  (yX9_count, cX9_count, 2, some .int),
  (yX9_isFloor, cX9_isFloor, 1, some .boolean),
  (yX9_isSide, cX9_isSide, 1, some .boolean),
  (yX9_isKind, cX9_isKind, 1, some .boolean),
  (yX9_holding, cX9_holding, 2, some (.object "EggDrop$School")),
  (yX9_bear, cX9_bear, 1, some .int),
  (yX9_price, cX9_price, 4, some .int),
  (yX9_prices, cX9_prices, 3, some .int),
  (yX9_letFall, cX9_letFall, 5, none),
  (yX9_staysWhole, cX9_staysWhole, 5, some .boolean),
  (yX9_forceOf, cX9_forceOf, 3, some .int),
  (yX9_forceWithShifted, cX9_forceWithShifted, 7, some .int),
  (yX9_floorsTold, cX9_floorsTold, 5, some .int),
  (yX9_findFits, cX9_findFits, 4, none),
  (yX9_write, cX9_write, 4, some .int),
  (yX9_inLowestTerms, cX9_inLowestTerms, 4, some .long),
  (yX10_init, cX10_init, 1, none),
  (yX10_in, cX10_in, 3, some .boolean),
  (yX10_isLayer, cX10_isLayer, 2, some .boolean),
  (yX10_isSide, cX10_isSide, 1, some .boolean),
  (yX10_isFloor, cX10_isFloor, 1, some .boolean),
  (yX10_feed, cX10_feed, 2, some .int),
  (yX10_here, cX10_here, 1, some .int),
  (yX10_must, cX10_must, 2, none),
  (yX10_spells, cX10_spells, 3, none),
  (yX10_figures, cX10_figures, 3, some .int),
  (yX10_among, cX10_among, 3, some .int),
  (yX10_emits, cX10_emits, 2, none),
  (yX10_factor, cX10_factor, 5, none),
  (yX10_every, cX10_every, 1, none),
  (yX10_some, cX10_some, 1, none),
  (yX10_much, cX10_much, 4, none),
  (yX10_tellsHere, cX10_tellsHere, 4, none),
  (yX10_clauseHere, cX10_clauseHere, 1, none),
  (yX10_school, cX10_school, 2, some .int),
  (yX10_tellsOf, cX10_tellsOf, 3, some .int),
  (yX10_looks, cX10_looks, 13, none),
  (yX10_priceOf, cX10_priceOf, 2, some .int),
  (yX10_layer, cX10_layer, 8, some .int),
  (yX10_of, cX10_of, 3, some .int),
  (yX10_side, cX10_side, 4, some .int),
  (yX10_broken, cX10_broken, 4, some .int),
  (yX10_row, cX10_row, 5, some .int),
  (yX10_egg, cX10_egg, 2, some .int),
  (yX10_weightBut, cX10_weightBut, 4, some .int),
  (yX10_prices, cX10_prices, 3, some .int),
  (yX10_told, cX10_told, 2, some .int),
  (yX10_takesOf, cX10_takesOf, 7, some .int),
  (yX10_lands, cX10_lands, 8, some .int),
  (yX10_strikes, cX10_strikes, 3, none),
  (yX10_falls, cX10_falls, 7, some .int),
  (yX10_fallsNow, cX10_fallsNow, 3, some .int),
  (yX10_drop, cX10_drop, 4, some .int),
  (yX10_fall, cX10_fall, 5, some .int),
  (yX10_highest, cX10_highest, 5, some .int),
  (yX10_best, cX10_best, 7, some .int),
  (yX10_lighter, cX10_lighter, 8, some .int),
  (yX10_shift, cX10_shift, 9, some .int),
  (yX10_tries, cX10_tries, 5, some .int),
  (yX10_isSet, cX10_isSet, 2, some .boolean),
  (yX10_failed, cX10_failed, 5, some .int),
  (yX10_see, cX10_see, 4, some .int),
  (yX10_isAsSeen, cX10_isAsSeen, 3, some .boolean),
  (yX10_strong, cX10_strong, 5, some .int),
  (yX10_lowest, cX10_lowest, 11, some .long),
  (yX10_odds, cX10_odds, 6, some .long),
  (yX10_mean, cX10_mean, 6, some .long),
  (yX10_book, cX10_book, 4, some .int),
  (yX10_looked, cX10_looked, 2, some .int),
  (yX10_ranBody, cX10_ranBody, 2, none),
  (yX10_isUnder, cX10_isUnder, 2, some .boolean),
  (yX10_plainGives, cX10_plainGives, 2, some .int),
  (yX10_givesActs, cX10_givesActs, 2, some .int),
  (yX10_plainTakes, cX10_plainTakes, 2, some .int),
  (yX10_takesActs, cX10_takesActs, 2, some .int),
  (yX10_plainTells, cX10_plainTells, 2, some .int),
  (yX10_tellsActs, cX10_tellsActs, 3, some .int),
  (yX10_act, cX10_act, 4, some .int),
  (yX10_trace, cX10_trace, 2, some .int),
  (yX10_as, cX10_as, 3, some .int),
  (yX10_image, cX10_image, 2, some .int),
  (yX10_undo, cX10_undo, 2, some .int),
  (yX10_count, cX10_count, 2, some .int)]
/-- class, parameters, static, kind of the answer -/
def zmU : List (Nat × (Nat × (Bool × Nat))) := [(0, 0, false, 0), (0, 0, false, 0), (0, 2, false, 0), (0, 1, false, 0), (0, 1, false, 1), (0, 1, false, 1), (0, 1, false, 1), (0, 1, false, 1), (0, 1, false, 1), (1, 0, false, 0), (1, 1, false, 0), (2, 0, false, 0), (2, 0, false, 0), (2, 2, false, 0), (2, 1, false, 0), (3, 0, false, 0), (3, 6, false, 0), (3, 0, false, 1), (3, 2, false, 0), (3, 1, false, 0), (3, 1, false, 0), (3, 2, false, 1), (3, 2, false, 1), (3, 2, true, 1), (3, 2, true, 1), (3, 3, false, 1), (4, 0, false, 0), (4, 2, true, 2), (4, 1, false, 2), (4, 1, false, 2), (4, 0, false, 1), (4, 5, false, 1), (4, 2, false, 0), (4, 1, false, 1), (4, 1, false, 0), (5, 0, false, 0), (5, 1, false, 1), (5, 0, false, 1), (5, 1, false, 2), (5, 1, false, 2), (5, 0, false, 2), (5, 0, false, 1), (5, 0, false, 1), (5, 0, false, 1), (5, 1, false, 2), (5, 1, false, 2), (5, 0, false, 2), (5, 1, false, 1), (6, 0, false, 0), (6, 0, false, 0), (6, 1, false, 0), (6, 1, false, 0), (6, 2, false, 0), (6, 2, false, 1), (6, 5, false, 0), (6, 1, false, 1), (6, 2, false, 2), (6, 1, false, 2), (7, 0, false, 0), (7, 3, false, 2), (7, 1, false, 0), (8, 0, false, 0), (8, 1, false, 2), (8, 1, false, 0), (9, 0, false, 0), (9, 1, false, 1), (9, 0, false, 1), (9, 5, false, 1), (9, 2, false, 1), (9, 2, false, 1), (9, 2, false, 1), (9, 3, false, 1), (9, 0, false, 1), (9, 1, false, 1), (9, 2, false, 1), (9, 3, false, 1), (9, 1, false, 1), (9, 2, false, 1), (9, 3, false, 1), (9, 2, false, 1), (9, 2, false, 1), (9, 2, false, 1), (9, 3, false, 1), (9, 1, false, 1), (9, 2, false, 3), (9, 2, false, 3), (9, 3, false, 1), (9, 0, false, 1), (9, 3, false, 1), (9, 1, false, 1), (9, 2, false, 1), (9, 0, false, 1), (9, 0, false, 1), (9, 1, false, 1), (9, 1, true, 2), (9, 1, true, 2), (9, 1, true, 2), (9, 0, false, 4), (9, 0, false, 1), (9, 1, false, 1), (9, 0, false, 1), (9, 4, false, 0), (9, 4, false, 2), (9, 2, false, 1), (9, 4, false, 1), (9, 2, true, 1), (9, 0, false, 0), (9, 4, true, 1), (9, 3, true, 3), (10, 0, false, 0), (10, 3, true, 2), (10, 1, false, 2), (10, 1, true, 2), (10, 1, true, 2), (10, 1, false, 1), (10, 0, false, 1), (10, 1, false, 0), (10, 1, false, 0), (10, 0, false, 1), (10, 1, false, 1), (10, 1, false, 0), (10, 0, false, 0), (10, 0, false, 0), (10, 0, false, 0), (10, 2, false, 0), (10, 2, false, 0), (10, 0, false, 0), (10, 0, false, 1), (10, 2, false, 1), (10, 4, false, 0), (10, 1, false, 1), (10, 5, false, 1), (10, 2, false, 1), (10, 2, false, 1), (10, 2, false, 1), (10, 3, false, 1), (10, 0, false, 1), (10, 1, false, 1), (10, 0, false, 1), (10, 1, false, 1), (10, 3, false, 1), (10, 3, false, 1), (10, 1, false, 0), (10, 2, false, 1), (10, 2, false, 1), (10, 2, false, 1), (10, 3, false, 1), (10, 1, false, 1), (10, 2, false, 1), (10, 3, false, 1), (10, 2, false, 1), (10, 2, false, 1), (10, 1, false, 2), (10, 2, false, 1), (10, 3, false, 1), (10, 1, false, 2), (10, 1, false, 1), (10, 3, true, 3), (10, 2, false, 3), (10, 2, false, 3), (10, 3, false, 1), (10, 0, false, 1), (10, 1, false, 0), (10, 2, true, 2), (10, 1, false, 1), (10, 1, false, 1), (10, 1, false, 1), (10, 1, false, 1), (10, 1, false, 1), (10, 1, false, 1), (10, 3, false, 1), (10, 1, false, 1), (10, 2, false, 1), (10, 0, false, 1), (10, 0, false, 1), (10, 1, false, 1)]
/-- field links: class, index, class of the field, slot -/
def zFL : List (Nat × (Nat × (Nat × Nat))) := [(0, 9, 0, 0), (0, 13, 0, 1), (0, 17, 0, 2), (0, 20, 0, 3), (0, 23, 0, 4), (0, 26, 4, 0), (0, 30, 4, 1), (1, 10, 1, 0), (1, 19, 1, 1), (1, 26, 1, 2), (1, 33, 1, 3), (1, 37, 1, 4), (1, 40, 1, 5), (1, 44, 1, 6), (10, 9, 10, 1), (10, 15, 10, 2), (10, 18, 10, 9), (10, 21, 10, 10), (10, 25, 10, 20), (10, 28, 10, 21), (10, 39, 10, 5), (10, 42, 10, 6), (10, 45, 10, 7), (10, 66, 10, 4), (10, 69, 10, 8), (10, 117, 10, 11), (10, 120, 10, 12), (10, 148, 10, 14), (10, 151, 10, 16), (10, 158, 10, 13), (10, 161, 10, 17), (10, 164, 10, 18), (10, 167, 10, 19), (10, 170, 10, 15), (10, 205, 10, 22), (10, 211, 10, 24), (10, 214, 10, 23), (10, 227, 10, 25), (10, 242, 10, 3), (2, 7, 2, 0), (2, 13, 2, 1), (3, 12, 3, 0), (3, 18, 3, 1), (3, 22, 3, 2), (3, 28, 3, 3), (3, 32, 3, 4), (3, 35, 3, 5), (3, 38, 3, 6), (3, 41, 3, 7), (3, 44, 3, 8), (3, 47, 3, 9), (3, 51, 1, 1), (3, 54, 1, 6), (3, 55, 4, 6), (3, 96, 4, 7), (3, 99, 4, 4), (3, 106, 4, 2), (3, 109, 4, 0), (3, 122, 4, 1), (3, 125, 4, 5), (4, 11, 4, 0), (4, 15, 4, 1), (4, 18, 4, 2), (4, 21, 4, 3), (4, 24, 4, 4), (4, 27, 4, 5), (4, 30, 4, 6), (4, 34, 4, 7), (5, 10, 5, 0), (5, 16, 5, 1), (5, 20, 5, 2), (5, 24, 5, 3), (5, 27, 8, 0), (5, 30, 8, 1), (6, 9, 6, 0), (6, 13, 6, 1), (6, 16, 6, 2), (6, 21, 6, 3), (6, 24, 6, 4), (6, 27, 6, 5), (6, 31, 6, 6), (7, 9, 7, 0), (7, 13, 7, 1), (7, 16, 7, 2), (7, 19, 7, 3), (8, 9, 8, 0), (8, 13, 8, 1), (9, 12, 9, 0), (9, 18, 9, 1), (9, 21, 9, 2), (9, 27, 9, 3), (9, 34, 9, 4), (9, 41, 9, 5), (9, 48, 9, 6), (9, 52, 9, 7), (9, 57, 1, 0), (9, 67, 8, 1), (9, 71, 1, 5), (9, 77, 5, 0), (9, 91, 1, 1), (9, 104, 4, 0), (9, 108, 4, 1), (9, 111, 4, 2), (9, 114, 4, 3), (9, 117, 4, 4), (9, 131, 4, 5), (9, 134, 1, 2), (9, 138, 2, 1), (9, 143, 2, 0), (9, 149, 1, 6), (9, 170, 4, 6), (9, 180, 3, 0), (9, 184, 3, 2), (9, 188, 3, 1), (9, 201, 4, 7), (9, 209, 1, 3), (9, 226, 1, 4), (9, 229, 7, 3), (9, 232, 7, 0), (9, 235, 7, 1), (9, 238, 7, 2), (9, 257, 0, 1), (9, 260, 0, 0)]
/-- method links: class, index, kind (0 virtual, 1 static, 3 length, 4 charAt, 5 max, 6 min, 7 arraycopy), method -/
def zML : List (Nat × (Nat × (Nat × Nat))) := [(0, 32, 0, 3), (0, 36, 0, 7), (0, 40, 0, 8), (0, 43, 0, 4), (0, 46, 0, 5), (1, 47, 0, 63), (1, 51, 0, 34), (1, 54, 0, 14), (1, 57, 0, 60), (2, 17, 5, 0), (3, 58, 0, 53), (3, 62, 0, 33), (3, 66, 0, 54), (3, 70, 0, 55), (3, 73, 0, 21), (3, 76, 5, 0), (3, 81, 0, 14), (3, 85, 0, 20), (3, 89, 0, 12), (3, 92, 0, 13), (3, 103, 0, 22), (3, 112, 1, 23), (3, 115, 0, 25), (3, 119, 1, 24), (4, 40, 7, 0), (5, 31, 6, 0), (5, 37, 0, 49), (5, 40, 0, 40), (5, 44, 0, 38), (5, 48, 0, 37), (5, 52, 3, 0), (5, 57, 4, 0), (5, 61, 0, 41), (5, 64, 0, 43), (5, 67, 0, 44), (5, 70, 0, 52), (5, 76, 0, 39), (5, 86, 0, 42), (5, 89, 0, 45), (5, 92, 0, 51), (5, 96, 0, 46), (5, 101, 0, 47), (6, 34, 7, 0), (6, 40, 0, 56), (6, 44, 0, 57), (7, 23, 7, 0), (8, 17, 7, 0), (9, 61, 0, 62), (9, 73, 0, 36), (9, 81, 0, 50), (9, 85, 1, 96), (9, 88, 1, 95), (9, 95, 0, 31), (9, 101, 0, 28), (9, 120, 0, 29), (9, 123, 0, 99), (9, 127, 0, 32), (9, 146, 0, 12), (9, 152, 0, 98), (9, 156, 0, 97), (9, 160, 0, 53), (9, 164, 0, 33), (9, 167, 0, 100), (9, 173, 1, 94), (9, 176, 0, 101), (9, 181, 0, 14), (9, 185, 0, 17), (9, 191, 0, 102), (9, 195, 0, 103), (9, 198, 0, 30), (9, 202, 0, 104), (9, 206, 1, 105), (9, 213, 1, 107), (9, 217, 0, 106), (9, 222, 1, 108), (9, 241, 0, 1), (9, 244, 0, 2), (9, 248, 0, 4), (9, 251, 0, 5), (9, 254, 0, 6), (9, 263, 1, 27), (9, 267, 0, 10), (9, 270, 0, 54), (9, 274, 0, 55), (9, 277, 0, 16), (9, 281, 0, 18), (9, 285, 0, 19), (9, 289, 0, 59), (10, 35, 1, 110), (10, 49, 0, 115), (10, 53, 3, 0), (10, 58, 4, 0), (10, 62, 0, 116), (10, 72, 0, 121), (10, 75, 0, 120), (10, 78, 0, 123), (10, 83, 0, 119), (10, 89, 0, 118), (10, 92, 0, 122), (10, 95, 0, 117), (10, 101, 0, 125), (10, 109, 0, 124), (10, 114, 0, 126), (10, 123, 0, 128), (10, 127, 0, 129), (10, 131, 1, 112), (10, 135, 0, 111), (10, 138, 0, 130), (10, 142, 0, 137), (10, 145, 0, 138), (10, 154, 0, 140), (10, 173, 0, 141), (10, 176, 0, 142), (10, 179, 0, 143), (10, 182, 1, 113), (10, 185, 0, 144), (10, 189, 0, 152), (10, 192, 0, 155), (10, 199, 1, 157), (10, 208, 0, 162), (10, 217, 1, 163), (10, 221, 0, 164), (10, 224, 0, 165), (10, 230, 0, 166), (10, 233, 0, 167), (10, 236, 0, 168), (10, 239, 0, 169)]
/-- switches: cases, default -/
def zSW : List (List (Int32 × Nat) × Nat) := [([(1, 1), (2, 3), (3, 3), (4, 1), (5, 2)], 3),
  ([(2, 1), (3, 3), (4, 3), (5, 1), (6, 2)], 3),
  ([(3, 1), (4, 2), (5, 3), (6, 1)], 3),
  ([(1, 1), (2, 2), (3, 3), (4, 4), (5, 7), (6, 8)], 9),
  ([(98, 1), (112, 10), (116, 4), (119, 7)], 13),
  ([(0, 2), (1, 3), (2, 4), (3, 5), (4, 6), (5, 7), (6, 10)], 11),
  ([(0, 1), (1, 2), (2, 3), (3, 4), (4, 5), (5, 8), (6, 9), (7, 10)], 11),
  ([(0, 3), (1, 4), (2, 5), (3, 8), (4, 9)], 10),
  ([(0, 2), (1, 3), (2, 4)], 5),
  ([(0, 1), (1, 2), (2, 3), (3, 4), (4, 5), (5, 6)], 7),
  ([(98, 1), (112, 4), (116, 2), (119, 3)], 5),
  ([(0, 1), (1, 2), (2, 3), (3, 4), (4, 5), (5, 6), (6, 7), (7, 8)], 9),
  ([(1, 3), (2, 10), (3, 14), (4, 6), (5, 11), (6, 15)], 16)]
/-- String constants: class, index, which -/
def zSL : List (Nat × (Nat × (Nat × Nat))) := [(5, 74, 0, 0), (5, 80, 1, 0), (5, 82, 2, 0), (5, 84, 3, 0), (5, 99, 4, 0), (5, 105, 5, 0), (10, 81, 4, 0), (10, 87, 5, 0), (10, 99, 0, 0), (10, 105, 1, 0), (10, 107, 2, 0), (10, 112, 3, 0)]
end
section
/-! THE ABSTRACT MACHINE: a fixed world of objects (kind, number), their ints and references; one instruction a step. -/
abbrev zAV : Type := Int32 ⊕ (Int64 ⊕ Option (Nat × Nat))
abbrev zi (x : Int32) : zAV := .inl x
abbrev zl (x : Int64) : zAV := .inr (.inl x)
abbrev zn : zAV := .inr (.inr none)
abbrev zr (c i : Nat) : zAV := .inr (.inr (some (c, i)))
abbrev zXL : Type := List (Option zAV)
abbrev zMI : Type := Nat → Nat → Nat → Int32
abbrev zMR : Type := Nat → Nat → Nat → Option (Nat × Nat)
/-- locals, stack, ints, references -/
abbrev zXS : Type := zXL × (List zAV × (zMI × zMR))
abbrev zRS : Type := Option zAV × (zMI × zMR)
/-- what an instruction does: on (at a block, or the next), a call (method, arguments, the rest), an end, a fault -/
abbrev zEV : Type := (Option Nat × zXS) ⊕ ((Nat × (List zAV × zXS)) ⊕ Option zRS)
abbrev zeN (s : zXS) : zEV := .inl (none, s)
abbrev zeJ (b : Nat) (s : zXS) : zEV := .inl (some b, s)
abbrev zeC (m : Nat) (a : List zAV) (s : zXS) : zEV := .inr (.inl (m, (a, s)))
abbrev zeR (v : Option zAV) (I : zMI) (G : zMR) : zEV := .inr (.inr (some (v, (I, G))))
abbrev zeF : zEV := .inr (.inr none)
/-- kinds: 0 an object (of the class of that number), 1 ints, 2 booleans, 3 schools, 4 a text, 5 the table -/
def zsh : Nat → Nat := fun c => if c ≤ 10 then 0 else if c = 43 then 2 else if c = 51 then 2 else if c = 50 then 3 else if c = 60 then 4 else if c = 61 then 5 else 1
def zalL : List Nat := [0, 0, 0, 0, 0, 0, 0, 0, 0, 0, 0, 0, 0, 0, 0, 0, 0, 0, 0, 0, 8, 8, 8, 8, 8, 24, 8, 8, 8, 100, 10, 10, 10, 100, 5, 20, 0, 0, 0, 0, 937, 937, 5, 64, 5, 20, 0, 0, 0, 0, 6, 100]
def zgn : List Nat → Nat → Nat
  | [], _ => 0
  | a :: _, 0 => a
  | _ :: t, k + 1 => zgn t k
/-- the length of an array -/
def zal (c : Nat) : Nat := zgn zalL c
/-- the types of the fields: 0 int, 1 boolean, 2 a reference -/
def zfyL : List (List Nat) := [[2, 0, 0, 0, 0], [2, 2, 2, 2, 2, 0, 0], [0, 1], [2, 0, 0, 2, 0, 0, 0, 0, 0, 1], [2, 2, 2, 2, 2, 2, 0, 0], [2, 2, 0, 0], [2, 2, 2, 2, 2, 0, 0], [2, 2, 2, 0], [2, 0], [2, 2, 1, 2, 2, 2, 2, 2], [0, 2, 2, 1, 0, 0, 0, 1, 0, 2, 2, 0, 0, 0, 0, 0, 0, 0, 1, 0, 2, 2, 0, 0, 0, 0]]
def zgl2 : List (List Nat) → Nat → List Nat
  | [], _ => []
  | a :: _, 0 => a
  | _ :: t, k + 1 => zgl2 t k
def zfy (c k : Nat) : Nat := zgn (zgl2 zfyL c) k
def znf (c : Nat) : Nat := (zgl2 zfyL c).length
/-- the texts and the table -/
def zstL : List (List Int32) := [[98, 101, 97, 114, 32], [116, 117, 114, 110, 32], [119, 105, 110, 100, 32], [112, 114, 105, 99, 101, 32], [102, 115, 107, 116, 121], [60, 61, 62]]
def zgs : List (List Int32) → Nat → List Int32
  | [], _ => []
  | a :: _, 0 => a
  | _ :: t, k + 1 => zgs t k
def zgi : List Int32 → Nat → Int32
  | [], _ => 0
  | a :: _, 0 => a
  | _ :: t, k + 1 => zgi t k
def zst (i : Nat) : List Int32 := zgs zstL i
def ztab (j : Nat) : Int32 := zgi [-1, 0, 0, 0, 1, 2, 3] j
/-- locals -/
def zgl : zXL → Nat → Option zAV
  | [], _ => none
  | v :: _, 0 => v
  | _ :: t, k + 1 => zgl t k
def zlg : Option zAV → Bool
  | some (.inr (.inl _)) => true
  | _ => false
/-- a value of one place into a place -/
def zs1 : zXL → Nat → zAV → Option zXL
  | [], _, _ => none
  | _ :: t, 0, v => some (some v :: t)
  | h :: t, k + 1, v => if (zlg h && k == 0) = true then none else match zs1 t k v with
    | some t' => some (h :: t')
    | none => none
def zs2 : zXL → Nat → zAV → Option zXL
  | _ :: _ :: t, 0, v => some (some v :: none :: t)
  | h :: t, k + 1, v => if (zlg h && k == 0) = true then none else match zs2 t k v with
    | some t' => some (h :: t')
    | none => none
  | _, _, _ => none
def zin (L : zXL) : Nat := L.length
/-- the first n of a stack, as arguments -/
def zpop : Nat → List zAV → List zAV → Option (List zAV × List zAV)
  | 0, a, S => some (a, S)
  | n + 1, a, v :: S => zpop n (v :: a) S
  | _ + 1, _, [] => none
def zshort : List zAV → Bool
  | [] => true
  | [_] => true
  | [_, _] => true
  | [_, _, _] => true
  | [_, _, _, _] => true
  | _ => false
/-- the receiver is of that class -/
def zrcv : Nat → List zAV → Bool
  | c, .inr (.inr (some (c', _))) :: _ => c' == c
  | _, _ => false
/-- stores -/
def zup (I : zMI) (c i k : Nat) (v : Int32) : zMI := fun c' i' k' => if c' = c ∧ i' = i ∧ k' = k then v else I c' i' k'
def zur (G : zMR) (c i k : Nat) (v : Option (Nat × Nat)) : zMR := fun c' i' k' => if c' = c ∧ i' = i ∧ k' = k then v else G c' i' k'
def zcp (I : zMI) (cs js cd jd n : Nat) : zMI := fun c i k => if c = cd ∧ i = jd ∧ k < n then I cs js k else I c i k
def zcj (b a : Nat) (x y : Int32) (s : zXS) : zEV := match b with
  | 0 => if x = y then zeJ a s else zeN s
  | 1 => if ¬ x = y then zeJ a s else zeN s
  | 2 => if x < y then zeJ a s else zeN s
  | 3 => if y ≤ x then zeJ a s else zeN s
  | 4 => if y < x then zeJ a s else zeN s
  | _ => if x ≤ y then zeJ a s else zeN s
def zgsw : List (List (Int32 × Nat) × Nat) → Nat → List (Int32 × Nat) × Nat
  | [], _ => ([], 0)
  | a :: _, 0 => a
  | _ :: t, k + 1 => zgsw t k
def zsw : List (Int32 × Nat) → Nat → Int32 → zXS → zEV
  | [], d, _, s => zeJ d s
  | p :: l, d, x, s => if x = p.1 then zeJ p.2 s else zsw l d x s
def zex2 (i : zAI) (L : zXL) (S : List zAV) (I : zMI) (G : zMR) : zEV := match i, S with
  | (13, c0, k, _), .inr (.inr (some (c, j))) :: S => if c = c0 ∧ c ≤ 10 ∧ k < znf c ∧ zfy c k < 2 then zeN (L, zi (I c j k) :: S, I, G) else zeF
  | (14, c0, k, _), .inr (.inr (some (c, j))) :: S => if c = c0 ∧ c ≤ 10 ∧ k < znf c ∧ zfy c k = 2 then zeN (L, .inr (.inr (G c j k)) :: S, I, G) else zeF
  | (15, c0, k, _), .inl x :: .inr (.inr (some (c, j))) :: S => if c = c0 ∧ c ≤ 10 ∧ k < znf c ∧ zfy c k = 0 then zeN (L, S, zup I c j k x, G) else zeF
  | (54, c0, k, _), .inl x :: .inr (.inr (some (c, j))) :: S => if c = c0 ∧ c ≤ 10 ∧ k < znf c ∧ zfy c k = 1 then (if x = 0 ∨ x = 1 then zeN (L, S, zup I c j k x, G) else zeF) else zeF
  | (16, c0, k, _), .inr (.inr (some (c2, j2))) :: .inr (.inr (some (c, j))) :: S => if c = c0 ∧ c ≤ 10 ∧ k < znf c ∧ zfy c k = 2 then zeN (L, S, I, zur G c j k (some (c2, j2))) else zeF
  | (17, _, _, _), .inl x :: .inr (.inr (some (c, j))) :: S => if zsh c = 1 then (if 0 ≤ x ∧ x.toNatClampNeg < zal c then zeN (L, zi (I c j x.toNatClampNeg) :: S, I, G) else zeF) else if zsh c = 5 then (if 0 ≤ x ∧ x.toNatClampNeg < 7 then zeN (L, zi (ztab x.toNatClampNeg) :: S, I, G) else zeF) else zeF
  | (18, _, _, _), .inl v :: .inl x :: .inr (.inr (some (c, j))) :: S => if zsh c = 1 then (if 0 ≤ x ∧ x.toNatClampNeg < zal c then zeN (L, S, zup I c j x.toNatClampNeg v, G) else zeF) else zeF
  | (19, _, _, _), .inl x :: .inr (.inr (some (c, j))) :: S => if zsh c = 2 then (if 0 ≤ x ∧ x.toNatClampNeg < zal c then zeN (L, zi (I c j x.toNatClampNeg) :: S, I, G) else zeF) else zeF
  | (20, _, _, _), .inl v :: .inl x :: .inr (.inr (some (c, j))) :: S => if zsh c = 2 then (if (0 ≤ x ∧ x.toNatClampNeg < zal c) ∧ (v = 0 ∨ v = 1) then zeN (L, S, zup I c j x.toNatClampNeg v, G) else zeF) else zeF
  | (21, _, _, _), .inr (.inr (some (c, _))) :: S => if zsh c = 1 ∨ zsh c = 2 ∨ zsh c = 3 then zeN (L, zi (nI (zal c)) :: S, I, G) else zeF
  | (22, _, _, _), .inl x :: .inr (.inr (some (c, j))) :: S => if zsh c = 3 then (if 0 ≤ x ∧ x.toNatClampNeg < zal c then zeN (L, .inr (.inr (G c j x.toNatClampNeg)) :: S, I, G) else zeF) else zeF
  | (39, _, _, _), .inr (.inr (some (c, j))) :: S => if zsh c = 4 ∧ zshort S = true ∧ j < 6 then zeN (L, zi (nI (zst j).length) :: S, I, G) else zeF
  | (40, _, _, _), .inl x :: .inr (.inr (some (c, j))) :: S => if zsh c = 4 ∧ zshort S = true ∧ j < 6 then (if 0 ≤ x ∧ x.toNatClampNeg < (zst j).length then zeN (L, zi (zgi (zst j) x.toNatClampNeg) :: S, I, G) else zeF) else zeF
  | (41, a, _, _), S => if a < 6 then zeN (L, zr 60 a :: S, I, G) else zeF
  | (44, _, _, _), .inl n :: .inl dp :: .inr (.inr (some (c, j))) :: .inl sp :: .inr (.inr (some (c0, j0))) :: S => if zsh c = 1 ∧ zsh c0 = 1 ∧ zal c0 = zal c ∧ n = nI (zal c) ∧ sp = 0 ∧ dp = 0 ∧ zshort S = true then zeN (L, S, zcp I c0 j0 c j (zal c), G) else zeF
  | (45, _, _, _), S => zeN (L, zr 61 0 :: S, I, G)
  | _, _ => zeF
def zex1 (i : zAI) (L : zXL) (S : List zAV) (I : zMI) (G : zMR) : zEV := match i, S with
  | (60, _, _, _), .inl y :: .inl x :: S => zeN (L, zi (x + y) :: S, I, G)
  | (61, _, _, _), .inl y :: .inl x :: S => zeN (L, zi (x - y) :: S, I, G)
  | (62, _, _, _), .inl y :: .inl x :: S => zeN (L, zi (x * y) :: S, I, G)
  | (63, _, _, _), .inl y :: .inl x :: S => zeN (L, zi (x &&& y) :: S, I, G)
  | (64, _, _, _), .inl y :: .inl x :: S => zeN (L, zi (x ||| y) :: S, I, G)
  | (65, _, _, _), .inl y :: .inl x :: S => zeN (L, zi (x ^^^ y) :: S, I, G)
  | (66, _, _, _), .inl y :: .inl x :: S => zeN (L, zi (x <<< (y &&& 31)) :: S, I, G)
  | (67, _, _, _), .inl y :: .inl x :: S => zeN (L, zi (x >>> (y &&& 31)) :: S, I, G)
  | (6, _, _, _), .inl y :: .inl x :: S => if ¬ y = 0 then zeN (L, zi (x / y) :: S, I, G) else zeF
  | (7, _, _, _), .inl y :: .inl x :: S => if ¬ y = 0 then zeN (L, zi (x - x / y * y) :: S, I, G) else zeF
  | (8, _, _, _), .inl x :: S => zeN (L, zi (-x) :: S, I, G)
  | (23, m, n, _), S => (match zpop n [] S with | some (a, S') => if zshort S' = true then zeC m a (L, S', I, G) else zeF | none => zeF)
  | (58, m, b, _), S => (match zpop (b / 16) [] S with | some (a, S') => if zshort S' = true ∧ zrcv (b % 16) a = true then zeC m a (L, S', I, G) else zeF | none => zeF)
  | (24, _, _, _), [] => zeR none I G
  | (25, _, _, _), [.inl x] => zeR (some (zi x)) I G
  | (26, _, _, _), [.inl x] => if x = 0 ∨ x = 1 then zeR (some (zi x)) I G else zeF
  | (27, _, _, _), [.inr (.inl x)] => zeR (some (zl x)) I G
  | (28, _, _, _), [.inr (.inr (some p))] => zeR (some (.inr (.inr (some p)))) I G
  | (29, _, _, _), .inl x :: S => zeN (L, zi x :: zi x :: S, I, G)
  | (29, _, _, _), .inr (.inr p) :: S => zeN (L, .inr (.inr p) :: .inr (.inr p) :: S, I, G)
  | (30, _, _, _), .inl x :: .inr (.inr p) :: S => zeN (L, zi x :: .inr (.inr p) :: zi x :: .inr (.inr p) :: S, I, G)
  | (31, _, _, _), .inl _ :: S => zeN (L, S, I, G)
  | (32, _, _, x), S => zeN (L, zl x.toInt64 :: S, I, G)
  | (33, _, _, _), .inl x :: S => zeN (L, zl x.toInt64 :: S, I, G)
  | (34, _, _, _), .inr (.inl y) :: .inr (.inl x) :: S => zeN (L, zl (x + y) :: S, I, G)
  | (35, _, _, _), .inr (.inl y) :: .inr (.inl x) :: S => if ¬ y = 0 then zeN (L, zl (x - x / y * y) :: S, I, G) else zeF
  | (36, _, _, _), .inr (.inl y) :: .inr (.inl x) :: S => if ¬ y = 0 then zeN (L, zl (x / y) :: S, I, G) else zeF
  | (37, _, _, _), .inr (.inl y) :: .inr (.inl x) :: S => zeN (L, zi (lg_cmp x y) :: S, I, G)
  | (38, a, _, _), .inl x :: S => zsw (zgsw zSW a).1 (zgsw zSW a).2 x (L, S, I, G)
  | (42, _, _, _), .inl y :: .inl x :: S => if zshort S = true then zeN (L, zi (if x < y then y else x) :: S, I, G) else zeF
  | (43, _, _, _), .inl y :: .inl x :: S => if zshort S = true then zeN (L, zi (if y < x then y else x) :: S, I, G) else zeF
  | (47, _, _, _), S => zeN (L, zl (-9223372036854775808) :: S, I, G)
  | (56, a, _, _), S => (match zgl L a with | some (.inr (.inl x)) => zeN (L, zl x :: S, I, G) | _ => zeF)
  | (57, a, _, _), .inr (.inr (some p)) :: S => (match zs1 L a (.inr (.inr (some p))) with | some L' => zeN (L', S, I, G) | none => zeF)
  | i, S => zex2 i L S I G
def zex (i : zAI) (L : zXL) (S : List zAV) (I : zMI) (G : zMR) : zEV := match i, S with
  | (0, a, _, _), S => (match zgl L a with | some (.inl x) => zeN (L, zi x :: S, I, G) | _ => zeF)
  | (1, a, _, _), .inl x :: S => (match zs1 L a (zi x) with | some L' => zeN (L', S, I, G) | none => zeF)
  | (2, a, _, _), .inr (.inl x) :: S => (match zs2 L a (zl x) with | some L' => zeN (L', S, I, G) | none => zeF)
  | (3, _, _, x), S => zeN (L, zi x :: S, I, G)
  | (4, a, _, n), S => (match zgl L a with | some (.inl x) => (match zs1 L a (zi (x + n)) with | some L' => zeN (L', S, I, G) | none => zeF) | _ => zeF)
  | (9, a, b, _), .inl y :: .inl x :: S => zcj b a x y (L, S, I, G)
  | (10, a, b, _), .inl x :: S => zcj b a x 0 (L, S, I, G)
  | (11, a, _, _), S => zeJ a (L, S, I, G)
  | (12, a, _, _), S => zeJ a (L, S, I, G)
  | (55, a, _, _), S => (match zgl L a with | some (.inr (.inr (some p))) => zeN (L, .inr (.inr (some p)) :: S, I, G) | _ => zeF)
  | i, S => zex1 i L S I G
/-- blocks -/
def zblk : List (List zAI) → Nat → List zAI
  | [], _ => []
  | b :: _, 0 => b
  | _ :: t, k + 1 => zblk t k
def zbk : List (List (List zAI)) → Nat → List (List zAI)
  | [], _ => []
  | b :: _, 0 => b
  | _ :: t, k + 1 => zbk t k
def zbm (m : Nat) : List (List zAI) := zbk zbmL m
def zgt : List (MethodName × (ByteArray × (Nat × Option FieldType))) → Nat → MethodName × (ByteArray × (Nat × Option FieldType))
  | [], _ => (yX0_clear, (cX0_clear, (1, none)))
  | b :: _, 0 => b
  | _ :: t, k + 1 => zgt t k
def zmt (m : Nat) : MethodName × (ByteArray × (Nat × Option FieldType)) := zgt zmT m
def zarg : List zAV → zXL
  | [] => []
  | .inr (.inl x) :: t => some (.inr (.inl x)) :: none :: zarg t
  | .inl x :: t => some (.inl x) :: zarg t
  | .inr (.inr p) :: t => some (.inr (.inr p)) :: zarg t
def zpad : Nat → zXL → zXL
  | 0, _ => []
  | n + 1, [] => none :: zpad n []
  | n + 1, h :: t => h :: zpad n t
def zent (m : Nat) (a : List zAV) : zXL := zpad (zmt m).2.2.1 (zarg a)
def zfits : zXL → Nat → Bool
  | [], _ => true
  | _ :: _, 0 => false
  | _ :: t, n + 1 => zfits t n
/-- a method's first block, if the arguments have room -/
def zcode (m : Nat) (a : List zAV) : List zAI := match zfits (zarg a) (zmt m).2.2.1 with
  | true => zblk (zbm m) 0
  | false => []
def zpush : Option zAV → List zAV → List zAV
  | none, S => S
  | some v, S => v :: S
def zrun : Nat → Nat → List (List zAI) → List zAI → zXL → List zAV → zMI → zMR → Option zRS
  | 0, _, _, _, _, _, _, _ => none
  | _ + 1, _, _, [], _, _, _, _ => none
  | n + 1, d, B, i :: is, L, S, I, G => match zex i L S I G with
    | .inl (none, (L', (S', (I', G')))) => zrun n d B is L' S' I' G'
    | .inl (some b, (L', (S', (I', G')))) => zrun n d B (zblk B b) L' S' I' G'
    | .inr (.inl (m, (a, (L', (S', (I', G')))))) => (match d with
      | 0 => none
      | d' + 1 => match zrun n d' (zbm m) (zcode m a) (zent m a) [] I' G' with
        | some (v, (I2, G2)) => zrun n d B is L' (zpush v S') I2 G2
        | none => none)
    | .inr (.inr r) => r
theorem zrun_up : ∀ (n d : Nat) (B : List (List zAI)) (is : List zAI) (L : zXL) (S : List zAV) (I : zMI) (G : zMR) (r : zRS), zrun n d B is L S I G = some r → zrun (n + 1) d B is L S I G = some r := by
  intro n
  induction n with
  | zero => intro d B is L S I G r h; cases h
  | succ n ih =>
    intro d B is L S I G r h
    cases is with
    | nil => cases h
    | cons i is =>
      rw [zrun] at h ⊢
      cases he : zex i L S I G with
      | inl j =>
        obtain ⟨o, L', S', I', G'⟩ := j
        rw [he] at h
        cases o with
        | none => exact ih _ _ _ _ _ _ _ _ h
        | some b => exact ih _ _ _ _ _ _ _ _ h
      | inr j =>
        rw [he] at h
        cases j with
        | inr r' => exact h
        | inl q =>
          obtain ⟨m, a, L', S', I', G'⟩ := q
          cases d with
          | zero => cases h
          | succ d =>
            dsimp only at h ⊢
            cases hr : zrun n d (zbm m) (zcode m a) (zent m a) [] I' G' with
            | none => rw [hr] at h; cases h
            | some r' =>
              obtain ⟨v, I2, G2⟩ := r'
              rw [hr] at h
              rw [ih _ _ _ _ _ _ _ _ hr]
              exact ih _ _ _ _ _ _ _ _ h
theorem zrun_le {n n' d : Nat} {B : List (List zAI)} {is : List zAI} {L : zXL} {S : List zAV} {I : zMI} {G : zMR} {r : zRS} (hn : n ≤ n') (h : zrun n d B is L S I G = some r) : zrun n' d B is L S I G = some r := by
  induction hn with
  | refl => exact h
  | step _ ih => exact zrun_up _ _ _ _ _ _ _ _ _ ih
/-- what may be asked of an end -/
abbrev zPQ : Type := Option zAV → zMI → zMR → Prop
/-- it comes to an end, with an answer and a memory of Q -/
def zW (d : Nat) (B : List (List zAI)) (is : List zAI) (L : zXL) (S : List zAV) (I : zMI) (G : zMR) (Q : zPQ) : Prop := ∃ n v I' G', zrun n d B is L S I G = some (v, I', G') ∧ Q v I' G'
def zWm (d m : Nat) (a : List zAV) (I : zMI) (G : zMR) (Q : zPQ) : Prop := zW d (zbm m) (zcode m a) (zent m a) [] I G Q
theorem zW.mono {d : Nat} {B : List (List zAI)} {is : List zAI} {L : zXL} {S : List zAV} {I : zMI} {G : zMR} {Q Q' : zPQ} (h : zW d B is L S I G Q) (hq : ∀ v I G, Q v I G → Q' v I G) : zW d B is L S I G Q' := by
  obtain ⟨n, v, I, G, h1, h2⟩ := h
  exact ⟨n, v, I, G, h1, hq _ _ _ h2⟩
theorem zWm.mono {d m : Nat} {a : List zAV} {I : zMI} {G : zMR} {Q Q' : zPQ} (h : zWm d m a I G Q) (hq : ∀ v I G, Q v I G → Q' v I G) : zWm d m a I G Q' := zW.mono h hq
section
variable {d : Nat} {B : List (List zAI)} {i : zAI} {is : List zAI} {L L' : zXL} {S S' : List zAV} {I I' : zMI} {G G' : zMR} {Q : zPQ}
theorem z_st (h : zex i L S I G = zeN (L', S', I', G')) (k : zW d B is L' S' I' G' Q) : zW d B (i :: is) L S I G Q := by
  obtain ⟨n, v, I1, G1, h1, h2⟩ := k
  refine ⟨n + 1, v, I1, G1, ?_, h2⟩
  rw [zrun, h]
  exact h1
theorem z_jp {b : Nat} (h : zex i L S I G = zeJ b (L', S', I', G')) (k : zW d B (zblk B b) L' S' I' G' Q) : zW d B (i :: is) L S I G Q := by
  obtain ⟨n, v, I1, G1, h1, h2⟩ := k
  refine ⟨n + 1, v, I1, G1, ?_, h2⟩
  rw [zrun, h]
  exact h1
theorem z_rt {v : Option zAV} (h : zex i L S I G = zeR v I' G') (k : Q v I' G') : zW d B (i :: is) L S I G Q := by
  refine ⟨1, v, I', G', ?_, k⟩
  rw [zrun, h]
theorem z_br {c : Prop} {hc : Decidable c} {b : Nat} (h : zex i L S I G = @ite zEV c hc (zeJ b (L', S', I', G')) (zeN (L', S', I', G'))) (k1 : c → zW d B (zblk B b) L' S' I' G' Q) (k2 : ¬ c → zW d B is L' S' I' G' Q) : zW d B (i :: is) L S I G Q := by
  by_cases q : c
  · rw [if_pos q] at h
    exact z_jp h (k1 q)
  · rw [if_neg q] at h
    exact z_st h (k2 q)
/-- an instruction with a test of its own (an index, a divisor) -/
theorem z_ck {c : Prop} {hc : Decidable c} (h : zex i L S I G = @ite zEV c hc (zeN (L', S', I', G')) zeF) (k1 : c) (k2 : zW d B is L' S' I' G' Q) : zW d B (i :: is) L S I G Q := by
  rw [if_pos k1] at h
  exact z_st h k2
theorem z_rz {c : Prop} {hc : Decidable c} {v : Option zAV} (h : zex i L S I G = @ite zEV c hc (zeR v I' G') zeF) (k1 : c) (k2 : Q v I' G') : zW d B (i :: is) L S I G Q := by
  rw [if_pos k1] at h
  exact z_rt h k2
theorem z_cl {m : Nat} {a : List zAV} (h : zex i L S I G = zeC m a (L', S', I', G')) (k : zWm d m a I' G' (fun v I G => zW (d + 1) B is L' (zpush v S') I G Q)) : zW (d + 1) B (i :: is) L S I G Q := by
  obtain ⟨n1, v1, I1, G1, h1, n2, v2, I2, G2, h2, h3⟩ := k
  refine ⟨n1 + n2 + 1, v2, I2, G2, ?_, h3⟩
  rw [zrun, h]
  dsimp only
  rw [zrun_le (Nat.le_add_right n1 n2) h1]
  exact zrun_le (Nat.le_add_left n2 n1) h2
theorem z_sw {l : List (Int32 × Nat)} {df : Nat} {x : Int32} (h : zex i L S I G = zsw l df x (L', S', I', G')) (k1 : ∀ q ∈ l, x = q.1 → zW d B (zblk B q.2) L' S' I' G' Q) (k2 : (∀ q ∈ l, ¬ x = q.1) → zW d B (zblk B df) L' S' I' G' Q) : zW d B (i :: is) L S I G Q := by
  induction l with
  | nil => exact z_jp h (k2 (fun q hq => absurd hq List.not_mem_nil))
  | cons p l ih =>
    rw [zsw] at h
    by_cases hp : x = p.1
    · rw [if_pos hp] at h
      exact z_jp h (k1 p List.mem_cons_self hp)
    · rw [if_neg hp] at h
      exact ih h (fun q hq => k1 q (List.mem_cons_of_mem _ hq)) (fun hq => k2 (fun q hm => (List.mem_cons.mp hm).elim (fun e => e ▸ hp) (hq q)))
end
/-- k plain steps -/
def zgo : Nat → List (List zAI) → List zAI → zXL → List zAV → zMI → zMR → Option (List zAI × zXS)
  | 0, _, is, L, S, I, G => some (is, (L, (S, (I, G))))
  | _ + 1, _, [], _, _, _, _ => none
  | k + 1, B, i :: is, L, S, I, G => match zex i L S I G with
    | .inl (none, (L', (S', (I', G')))) => zgo k B is L' S' I' G'
    | .inl (some b, (L', (S', (I', G')))) => zgo k B (zblk B b) L' S' I' G'
    | .inr _ => none
theorem z_go (k : Nat) {d : Nat} {B : List (List zAI)} {is is' : List zAI} {L L' : zXL} {S S' : List zAV} {I I' : zMI} {G G' : zMR} {Q : zPQ} (h : zgo k B is L S I G = some (is', (L', (S', (I', G'))))) (kk : zW d B is' L' S' I' G' Q) : zW d B is L S I G Q := by
  induction k generalizing is L S I G with
  | zero => cases h; exact kk
  | succ k ih =>
    cases is with
    | nil => cases h
    | cons i is =>
      rw [zgo] at h
      cases he : zex i L S I G with
      | inr j => rw [he] at h; cases h
      | inl j =>
        obtain ⟨o, L1, S1, I1, G1⟩ := j
        rw [he] at h
        cases o with
        | none => exact z_st he (ih h)
        | some b => exact z_jp he (ih h)
end
section
/-! words of the tables, by their places (wip/whole/gen3.py) -/
def zcnL : List String := [RX0, RX1, RX2, RX3, RX4, RX5, RX6, RX7, RX8, RX9, RX10]
def zctL : List u_T := [TX0, TX1, TX2, TX3, TX4, TX5, TX6, TX7, TX8, TX9, TX10]
def zcn (c : Nat) : String := zcnL.getD c RX0
def zct (c : Nat) : u_T := zctL.getD c TX0
def zflW (e : Nat × (Nat × (Nat × Nat))) : Cond := .fieldLink (zcn e.1) e.2.1 (zcn e.2.2.1) (zct e.2.2.1 e.2.2.2).2.1 (zct e.2.2.1 e.2.2.2).2.2.1
def zmlW (e : Nat × (Nat × (Nat × Nat))) : List Cond := match e.2.2.1 with
  | 0 => [.methodLink (zcn e.1) e.2.1 (zmt e.2.2.2).1, .instanceMethod (zmt e.2.2.2).1, .selects (zmt e.2.2.2).1.cls (zmt e.2.2.2).1 (zmt e.2.2.2).1, .initialized (zmt e.2.2.2).1.cls]
  | 1 => [.methodLink (zcn e.1) e.2.1 (zmt e.2.2.2).1, .static (zmt e.2.2.2).1, .initialized (zmt e.2.2.2).1.cls]
  | 3 => [.methodLink (zcn e.1) e.2.1 yJ0_length_8abf5]
  | 4 => [.methodLink (zcn e.1) e.2.1 yJ0_charAt_5068e]
  | 5 => [.methodLink (zcn e.1) e.2.1 Lib.Math.max.name]
  | 6 => [.methodLink (zcn e.1) e.2.1 Lib.Math.min.name]
  | _ => [.methodLink (zcn e.1) e.2.1 arraycopyName]
def zmcW (q : MethodName × (ByteArray × (Nat × Option FieldType))) : List Cond := [.initialized q.1.cls]
def zmkW (q : MethodName × (ByteArray × (Nat × Option FieldType))) : Cond := .code q.1 q.2.1 q.2.2.1 q.2.2.2
def zpk (ps : List Nat) (ws : List Cond) : Bool := decide (ps.map (fun i => lw_tbl[i]?) = ws.map some) && ws.all goodWord
def zpkL : List (List Nat) → List (List Cond) → Bool
  | [], [] => true
  | p :: ps, w :: ws => zpk p w && zpkL ps ws
  | _, _ => false
theorem zpk_in {ps : List Nat} {ws : List Cond} (h : zpk ps ws = true) : ∀ w ∈ ws, w ∈ lw_tbl ∧ goodWord w = true := by
  intro w hw
  rw [zpk, Bool.and_eq_true] at h
  have h1 := of_decide_eq_true h.1
  have h2 : some w ∈ ws.map some := List.mem_map.mpr ⟨w, hw, rfl⟩
  rw [← h1] at h2
  obtain ⟨i, -, hi⟩ := List.mem_map.mp h2
  exact ⟨List.mem_of_getElem? hi, List.all_eq_true.mp h.2 w hw⟩
theorem zpkL_in : ∀ {ps : List (List Nat)} {ws : List (List Cond)}, zpkL ps ws = true → ∀ l ∈ ws, ∀ w ∈ l, w ∈ lw_tbl ∧ goodWord w = true
  | [], [], _, l, hl => absurd hl List.not_mem_nil
  | p :: ps, w :: ws, h, l, hl => by
    rw [zpkL, Bool.and_eq_true] at h
    rcases List.mem_cons.mp hl with e | e
    · rw [e]; exact zpk_in h.1
    · exact zpkL_in h.2 l e
  | [], _ :: _, h, _, _ => by cases h
  | _ :: _, [], h, _, _ => by cases h
def zflP : List Nat := [327, 329, 331, 332, 333, 117, 121, 196, 198, 201, 203, 205, 207, 209, 845, 846, 853, 854, 864, 865, 849, 850, 851, 848, 852, 855, 856, 858, 860, 857, 861, 862, 863, 859, 866, 868, 867, 869, 847, 164, 166, 287, 289, 291, 293, 294, 295, 296, 297, 298, 299, 199, 210, 136, 139, 131, 126, 119, 123, 134, 116, 120, 124, 127, 129, 132, 135, 138, 263, 265, 266, 267, 100, 102, 241, 242, 243, 244, 245, 246, 247, 179, 181, 183, 185, 99, 101, 346, 347, 348, 349, 350, 351, 352, 353, 197, 103, 208, 264, 200, 118, 122, 125, 128, 130, 133, 202, 167, 165, 211, 137, 288, 292, 290, 140, 204, 206, 186, 180, 182, 184, 330, 328]
def zmlP : List (List Nat) := [[772, 774, 26, 71], [780, 782, 27, 71], [789, 791, 28, 71], [784, 769, 770, 71], [793, 777, 778, 71], [815, 816, 817, 64], [820, 821, 822, 65], [825, 648, 649, 66], [826, 827, 828, 67], [659], [618, 592, 593, 69], [619, 596, 597, 65], [620, 544, 545, 69], [621, 548, 549, 69], [622, 624, 18, 70], [640], [647, 648, 649, 66], [651, 653, 21, 70], [735, 580, 581, 66], [655, 656, 657, 66], [626, 628, 19, 70], [630, 631, 70], [633, 635, 20, 70], [637, 638, 70], [824], [388], [391, 392, 393, 69], [395, 397, 0, 68], [460, 462, 4, 68], [403, 405, 2, 68], [412], [422], [399, 401, 1, 68], [467, 469, 5, 68], [475, 477, 7, 68], [497, 498, 499, 69], [408, 410, 3, 68], [471, 473, 6, 68], [479, 481, 8, 68], [493, 494, 495, 69], [483, 485, 9, 68], [488, 490, 10, 68], [505], [551, 553, 13, 69], [555, 557, 14, 69], [830], [819], [376, 377, 378, 64], [384, 385, 386, 68], [501, 502, 503, 69], [513, 514, 62], [516, 517, 62], [519, 520, 521, 65], [527, 528, 529, 65], [531, 532, 533, 65], [535, 537, 11, 62], [567, 568, 569, 65], [579, 580, 581, 66], [587, 589, 15, 62], [539, 541, 12, 62], [591, 592, 593, 69], [595, 596, 597, 65], [599, 601, 16, 62], [607, 608, 62], [610, 612, 17, 62], [660, 648, 649, 66], [661, 662, 663, 70], [673, 675, 22, 62], [681, 683, 23, 62], [689, 690, 691, 65], [697, 699, 24, 62], [705, 706, 62], [716, 717, 62], [727, 729, 25, 62], [741, 742, 62], [760, 761, 762, 71], [764, 765, 766, 71], [768, 769, 770, 71], [776, 777, 778, 71], [785, 786, 787, 71], [802, 803, 65], [811, 812, 813, 63], [543, 544, 545, 69], [547, 548, 549, 69], [614, 615, 616, 70], [643, 644, 645, 70], [731, 732, 733, 70], [719, 720, 721, 67], [927, 928, 72], [938, 940, 30, 72], [951], [952], [953, 955, 33, 72], [975, 977, 38, 72], [979, 981, 39, 72], [967, 969, 36, 72], [984, 986, 40, 72], [957, 959, 34, 72], [971, 973, 37, 72], [947, 949, 32, 72], [943, 945, 31, 72], [963, 965, 35, 72], [934, 936, 29, 72], [1013, 1015, 44, 72], [1009, 1011, 43, 72], [994, 995, 72], [1001, 1003, 41, 72], [1005, 1007, 42, 72], [1037, 1039, 45, 72], [1041, 1043, 46, 72], [1064, 1066, 50, 72], [1060, 1062, 49, 72], [1068, 1070, 51, 72], [1056, 1058, 48, 72], [1049, 1050, 72], [1052, 1054, 47, 72], [1101, 1103, 52, 72], [1113, 1115, 53, 72], [1123, 1124, 72], [1150, 1152, 55, 72], [1147, 1148, 72], [1154, 1156, 56, 72], [1143, 1145, 54, 72], [1162, 1164, 58, 72], [1158, 1160, 57, 72], [1170, 1172, 60, 72], [1166, 1168, 59, 72]]
def zmcP : List (List Nat) := [[71], [71], [71], [71], [71], [71], [71], [71], [71], [63], [63], [66], [66], [66], [66], [70], [70], [70], [70], [70], [70], [70], [70], [70], [70], [70], [65], [65], [65], [65], [65], [65], [65], [65], [65], [68], [68], [68], [68], [68], [68], [68], [68], [68], [68], [68], [68], [68], [69], [69], [69], [69], [69], [69], [69], [69], [69], [69], [67], [67], [67], [64], [64], [64], [62], [62], [62], [62], [62], [62], [62], [62], [62], [62], [62], [62], [62], [62], [62], [62], [62], [62], [62], [62], [62], [62], [62], [62], [62], [62], [62], [62], [62], [62], [62], [62], [62], [62], [62], [62], [62], [62], [62], [62], [62], [62], [62], [62], [62], [72], [72], [72], [72], [72], [72], [72], [72], [72], [72], [72], [72], [72], [72], [72], [72], [72], [72], [72], [72], [72], [72], [72], [72], [72], [72], [72], [72], [72], [72], [72], [72], [72], [72], [72], [72], [72], [72], [72], [72], [72], [72], [72], [72], [72], [72], [72], [72], [72], [72], [72], [72], [72], [72], [72], [72], [72], [72], [72], [72], [72], [72], [72], [72], [72], [72], [72]]
theorem zt_1 : ∀ w ∈ tables_1_1, w ∈ lw_tbl := fun w h => List.mem_append_right _ (List.mem_append_left _ h)
theorem zt_2 : ∀ w ∈ tables_1_2, w ∈ lw_tbl := fun w h => List.mem_append_right _ (List.mem_append_right _ (List.mem_append_left _ h))
theorem zt_3 : ∀ w ∈ tables_1_3, w ∈ lw_tbl := fun w h => List.mem_append_right _ (List.mem_append_right _ (List.mem_append_right _ (List.mem_append_left _ h)))
theorem zt_4 : ∀ w ∈ tables_1_4, w ∈ lw_tbl := fun w h => List.mem_append_right _ (List.mem_append_right _ (List.mem_append_right _ (List.mem_append_right _ (List.mem_append_left _ h))))
theorem zt_5 : ∀ w ∈ tables_1_5, w ∈ lw_tbl := fun w h => List.mem_append_right _ (List.mem_append_right _ (List.mem_append_right _ (List.mem_append_right _ (List.mem_append_right _ h))))
set_option maxRecDepth 100000 in
theorem zmk_0 : zmkW (yX0_init, cX0_init, 1, none) ∈ lw_tbl := zt_2 _ (List.mem_of_getElem? (i := 24) rfl)
set_option maxRecDepth 100000 in
theorem zmk_1 : zmkW (yX0_clear, cX0_clear, 1, none) ∈ lw_tbl := zt_3 _ (List.mem_of_getElem? (i := 222) rfl)
set_option maxRecDepth 100000 in
theorem zmk_2 : zmkW (yX0_take, cX0_take, 3, none) ∈ lw_tbl := zt_3 _ (List.mem_of_getElem? (i := 226) rfl)
set_option maxRecDepth 100000 in
theorem zmk_3 : zmkW (yX0_begin, cX0_begin, 2, none) ∈ lw_tbl := zt_3 _ (List.mem_of_getElem? (i := 234) rfl)
set_option maxRecDepth 100000 in
theorem zmk_4 : zmkW (yX0_gives, cX0_gives, 2, some .int) ∈ lw_tbl := zt_3 _ (List.mem_of_getElem? (i := 230) rfl)
set_option maxRecDepth 100000 in
theorem zmk_5 : zmkW (yX0_takes, cX0_takes, 2, some .int) ∈ lw_tbl := zt_3 _ (List.mem_of_getElem? (i := 238) rfl)
set_option maxRecDepth 100000 in
theorem zmk_6 : zmkW (yX0_tells, cX0_tells, 2, some .int) ∈ lw_tbl := zt_4 _ (List.mem_of_getElem? (i := 7) rfl)
set_option maxRecDepth 100000 in
theorem zmk_7 : zmkW (yX0_takesAtTop, cX0_takesAtTop, 2, some .int) ∈ lw_tbl := zt_4 _ (List.mem_of_getElem? (i := 2) rfl)
set_option maxRecDepth 100000 in
theorem zmk_8 : zmkW (yX0_tellsAtTop, cX0_tellsAtTop, 2, some .int) ∈ lw_tbl := zt_4 _ (List.mem_of_getElem? (i := 11) rfl)
set_option maxRecDepth 100000 in
theorem zmk_9 : zmkW (yX1_init, cX1_init, 1, none) ∈ lw_tbl := zt_1 _ (List.mem_of_getElem? (i := 30) rfl)
set_option maxRecDepth 100000 in
theorem zmk_10 : zmkW (yX1_copyFrom, cX1_copyFrom, 2, none) ∈ lw_tbl := zt_4 _ (List.mem_of_getElem? (i := 33) rfl)
set_option maxRecDepth 100000 in
theorem zmk_11 : zmkW (yX2_init, cX2_init, 1, none) ∈ lw_tbl := zt_1 _ (List.mem_of_getElem? (i := 101) rfl)
set_option maxRecDepth 100000 in
theorem zmk_12 : zmkW (yX2_renew, cX2_renew, 1, none) ∈ lw_tbl := zt_3 _ (List.mem_of_getElem? (i := 41) rfl)
set_option maxRecDepth 100000 in
theorem zmk_13 : zmkW (yX2_land, cX2_land, 4, none) ∈ lw_tbl := zt_3 _ (List.mem_of_getElem? (i := 117) rfl)
set_option maxRecDepth 100000 in
theorem zmk_14 : zmkW (yX2_copyFrom, cX2_copyFrom, 2, none) ∈ lw_tbl := zt_3 _ (List.mem_of_getElem? (i := 109) rfl)
set_option maxRecDepth 100000 in
theorem zmk_15 : zmkW (yX3_init, cX3_init, 1, none) ∈ lw_tbl := zt_1 _ (List.mem_of_getElem? (i := 220) rfl)
set_option maxRecDepth 100000 in
theorem zmk_16 : zmkW (yX3_happen, cX3_happen, 9, none) ∈ lw_tbl := zt_3 _ (List.mem_of_getElem? (i := 76) rfl)
set_option maxRecDepth 100000 in
theorem zmk_17 : zmkW (yX3_force, cX3_force, 1, some .int) ∈ lw_tbl := zt_3 _ (List.mem_of_getElem? (i := 123) rfl)
set_option maxRecDepth 100000 in
theorem zmk_18 : zmkW (yX3_meet, cX3_meet, 3, none) ∈ lw_tbl := zt_3 _ (List.mem_of_getElem? (i := 105) rfl)
set_option maxRecDepth 100000 in
theorem zmk_19 : zmkW (yX3_meetNew, cX3_meetNew, 2, none) ∈ lw_tbl := zt_3 _ (List.mem_of_getElem? (i := 193) rfl)
set_option maxRecDepth 100000 in
theorem zmk_20 : zmkW (yX3_landAll, cX3_landAll, 2, none) ∈ lw_tbl := zt_3 _ (List.mem_of_getElem? (i := 113) rfl)
set_option maxRecDepth 100000 in
theorem zmk_21 : zmkW (yX3_goThrough, cX3_goThrough, 6, some .int) ∈ lw_tbl := zt_3 _ (List.mem_of_getElem? (i := 84) rfl)
set_option maxRecDepth 100000 in
theorem zmk_22 : zmkW (yX3_takenBy, cX3_takenBy, 4, some .int) ∈ lw_tbl := zt_3 _ (List.mem_of_getElem? (i := 88) rfl)
set_option maxRecDepth 100000 in
theorem zmk_23 : zmkW (yX3_crumpled, cX3_crumpled, 2, some .int) ∈ lw_tbl := zt_3 _ (List.mem_of_getElem? (i := 91) rfl)
set_option maxRecDepth 100000 in
theorem zmk_24 : zmkW (yX3_hung, cX3_hung, 2, some .int) ∈ lw_tbl := zt_3 _ (List.mem_of_getElem? (i := 98) rfl)
set_option maxRecDepth 100000 in
theorem zmk_25 : zmkW (yX3_standing, cX3_standing, 5, some .int) ∈ lw_tbl := zt_3 _ (List.mem_of_getElem? (i := 95) rfl)
set_option maxRecDepth 100000 in
theorem zmk_26 : zmkW (yX4_init, cX4_init, 1, none) ∈ lw_tbl := zt_1 _ (List.mem_of_getElem? (i := 53) rfl)
set_option maxRecDepth 100000 in
theorem zmk_27 : zmkW (yX4_isUnder, cX4_isUnder, 4, some .boolean) ∈ lw_tbl := zt_4 _ (List.mem_of_getElem? (i := 23) rfl)
set_option maxRecDepth 100000 in
theorem zmk_28 : zmkW (yX4_has, cX4_has, 2, some .boolean) ∈ lw_tbl := zt_2 _ (List.mem_of_getElem? (i := 229) rfl)
set_option maxRecDepth 100000 in
theorem zmk_29 : zmkW (yX4_isBroken, cX4_isBroken, 2, some .boolean) ∈ lw_tbl := zt_2 _ (List.mem_of_getElem? (i := 233) rfl)
set_option maxRecDepth 100000 in
theorem zmk_30 : zmkW (yX4_allBits, cX4_allBits, 1, some .int) ∈ lw_tbl := zt_3 _ (List.mem_of_getElem? (i := 151) rfl)
set_option maxRecDepth 100000 in
theorem zmk_31 : zmkW (yX4_add, cX4_add, 7, some .int) ∈ lw_tbl := zt_2 _ (List.mem_of_getElem? (i := 221) rfl)
set_option maxRecDepth 100000 in
theorem zmk_32 : zmkW (yX4_mark, cX4_mark, 3, none) ∈ lw_tbl := zt_3 _ (List.mem_of_getElem? (i := 29) rfl)
set_option maxRecDepth 100000 in
theorem zmk_33 : zmkW (yX4_weightWithout, cX4_weightWithout, 4, some .int) ∈ lw_tbl := zt_3 _ (List.mem_of_getElem? (i := 57) rfl)
set_option maxRecDepth 100000 in
theorem zmk_34 : zmkW (yX4_copyFrom, cX4_copyFrom, 2, none) ∈ lw_tbl := zt_4 _ (List.mem_of_getElem? (i := 42) rfl)
set_option maxRecDepth 100000 in
theorem zmk_35 : zmkW (yX5_init, cX5_init, 1, none) ∈ lw_tbl := zt_1 _ (List.mem_of_getElem? (i := 172) rfl)
set_option maxRecDepth 100000 in
theorem zmk_36 : zmkW (yX5_read, cX5_read, 3, some .int) ∈ lw_tbl := zt_2 _ (List.mem_of_getElem? (i := 86) rfl)
set_option maxRecDepth 100000 in
theorem zmk_37 : zmkW (yX5_next, cX5_next, 1, some .int) ∈ lw_tbl := zt_2 _ (List.mem_of_getElem? (i := 105) rfl)
set_option maxRecDepth 100000 in
theorem zmk_38 : zmkW (yX5_pass, cX5_pass, 2, some .boolean) ∈ lw_tbl := zt_2 _ (List.mem_of_getElem? (i := 162) rfl)
set_option maxRecDepth 100000 in
theorem zmk_39 : zmkW (yX5_passAll, cX5_passAll, 3, some .boolean) ∈ lw_tbl := zt_2 _ (List.mem_of_getElem? (i := 110) rfl)
set_option maxRecDepth 100000 in
theorem zmk_40 : zmkW (yX5_readClause, cX5_readClause, 4, some .boolean) ∈ lw_tbl := zt_2 _ (List.mem_of_getElem? (i := 97) rfl)
set_option maxRecDepth 100000 in
theorem zmk_41 : zmkW (yX5_readWord, cX5_readWord, 1, some .int) ∈ lw_tbl := zt_2 _ (List.mem_of_getElem? (i := 101) rfl)
set_option maxRecDepth 100000 in
theorem zmk_42 : zmkW (yX5_readDigit, cX5_readDigit, 2, some .int) ∈ lw_tbl := zt_2 _ (List.mem_of_getElem? (i := 173) rfl)
set_option maxRecDepth 100000 in
theorem zmk_43 : zmkW (yX5_readNumber, cX5_readNumber, 3, some .int) ∈ lw_tbl := zt_2 _ (List.mem_of_getElem? (i := 169) rfl)
set_option maxRecDepth 100000 in
theorem zmk_44 : zmkW (yX5_readAny, cX5_readAny, 4, some .boolean) ∈ lw_tbl := zt_2 _ (List.mem_of_getElem? (i := 177) rfl)
set_option maxRecDepth 100000 in
theorem zmk_45 : zmkW (yX5_readOne, cX5_readOne, 3, some .boolean) ∈ lw_tbl := zt_2 _ (List.mem_of_getElem? (i := 181) rfl)
set_option maxRecDepth 100000 in
theorem zmk_46 : zmkW (yX5_readTest, cX5_readTest, 4, some .boolean) ∈ lw_tbl := zt_2 _ (List.mem_of_getElem? (i := 185) rfl)
set_option maxRecDepth 100000 in
theorem zmk_47 : zmkW (yX5_readOneOf, cX5_readOneOf, 4, some .int) ∈ lw_tbl := zt_2 _ (List.mem_of_getElem? (i := 190) rfl)
set_option maxRecDepth 100000 in
theorem zmk_48 : zmkW (yX6_init, cX6_init, 1, none) ∈ lw_tbl := zt_1 _ (List.mem_of_getElem? (i := 178) rfl)
set_option maxRecDepth 100000 in
theorem zmk_49 : zmkW (yX6_clear, cX6_clear, 1, none) ∈ lw_tbl := zt_2 _ (List.mem_of_getElem? (i := 93) rfl)
set_option maxRecDepth 100000 in
theorem zmk_50 : zmkW (yX6_copyFrom, cX6_copyFrom, 2, none) ∈ lw_tbl := zt_2 _ (List.mem_of_getElem? (i := 203) rfl)
set_option maxRecDepth 100000 in
theorem zmk_51 : zmkW (yX6_addStep, cX6_addStep, 2, none) ∈ lw_tbl := zt_2 _ (List.mem_of_getElem? (i := 195) rfl)
set_option maxRecDepth 100000 in
theorem zmk_52 : zmkW (yX6_addClause, cX6_addClause, 3, none) ∈ lw_tbl := zt_2 _ (List.mem_of_getElem? (i := 199) rfl)
set_option maxRecDepth 100000 in
theorem zmk_53 : zmkW (yX6_last, cX6_last, 5, some .int) ∈ lw_tbl := zt_3 _ (List.mem_of_getElem? (i := 53) rfl)
set_option maxRecDepth 100000 in
theorem zmk_54 : zmkW (yX6_setTest, cX6_setTest, 6, none) ∈ lw_tbl := zt_3 _ (List.mem_of_getElem? (i := 5) rfl)
set_option maxRecDepth 100000 in
theorem zmk_55 : zmkW (yX6_sum, cX6_sum, 5, some .int) ∈ lw_tbl := zt_3 _ (List.mem_of_getElem? (i := 9) rfl)
set_option maxRecDepth 100000 in
theorem zmk_56 : zmkW (yX6_holds, cX6_holds, 7, some .boolean) ∈ lw_tbl := zt_3 _ (List.mem_of_getElem? (i := 13) rfl)
set_option maxRecDepth 100000 in
theorem zmk_57 : zmkW (yX6_passes, cX6_passes, 5, some .boolean) ∈ lw_tbl := zt_3 _ (List.mem_of_getElem? (i := 17) rfl)
set_option maxRecDepth 100000 in
theorem zmk_58 : zmkW (yX7_init, cX7_init, 1, none) ∈ lw_tbl := zt_1 _ (List.mem_of_getElem? (i := 116) rfl)
set_option maxRecDepth 100000 in
theorem zmk_59 : zmkW (yX7_add, cX7_add, 4, some .boolean) ∈ lw_tbl := zt_3 _ (List.mem_of_getElem? (i := 181) rfl)
set_option maxRecDepth 100000 in
theorem zmk_60 : zmkW (yX7_copyFrom, cX7_copyFrom, 2, none) ∈ lw_tbl := zt_4 _ (List.mem_of_getElem? (i := 48) rfl)
set_option maxRecDepth 100000 in
theorem zmk_61 : zmkW (yX8_init, cX8_init, 1, none) ∈ lw_tbl := zt_1 _ (List.mem_of_getElem? (i := 36) rfl)
set_option maxRecDepth 100000 in
theorem zmk_62 : zmkW (yX8_put, cX8_put, 2, some .boolean) ∈ lw_tbl := zt_2 _ (List.mem_of_getElem? (i := 78) rfl)
set_option maxRecDepth 100000 in
theorem zmk_63 : zmkW (yX8_copyFrom, cX8_copyFrom, 2, none) ∈ lw_tbl := zt_4 _ (List.mem_of_getElem? (i := 37) rfl)
set_option maxRecDepth 100000 in
theorem zmk_64 : zmkW (yX9_init, cX9_init, 2, none) ∈ lw_tbl := zt_1 _ (List.mem_of_getElem? (i := 22) rfl)
set_option maxRecDepth 100000 in
theorem zmk_65 : zmkW (yX9_feed, cX9_feed, 2, some .int) ∈ lw_tbl := zt_2 _ (List.mem_of_getElem? (i := 74) rfl)
set_option maxRecDepth 100000 in
theorem zmk_66 : zmkW (yX9_school, cX9_school, 3, some .int) ∈ lw_tbl := zt_2 _ (List.mem_of_getElem? (i := 82) rfl)
set_option maxRecDepth 100000 in
theorem zmk_67 : zmkW (yX9_layer, cX9_layer, 6, some .int) ∈ lw_tbl := zt_2 _ (List.mem_of_getElem? (i := 211) rfl)
set_option maxRecDepth 100000 in
theorem zmk_68 : zmkW (yX9_of, cX9_of, 4, some .int) ∈ lw_tbl := zt_2 _ (List.mem_of_getElem? (i := 225) rfl)
set_option maxRecDepth 100000 in
theorem zmk_69 : zmkW (yX9_side, cX9_side, 4, some .int) ∈ lw_tbl := zt_3 _ (List.mem_of_getElem? (i := 21) rfl)
set_option maxRecDepth 100000 in
theorem zmk_70 : zmkW (yX9_broken, cX9_broken, 4, some .int) ∈ lw_tbl := zt_3 _ (List.mem_of_getElem? (i := 25) rfl)
set_option maxRecDepth 100000 in
theorem zmk_71 : zmkW (yX9_row, cX9_row, 7, some .int) ∈ lw_tbl := zt_3 _ (List.mem_of_getElem? (i := 33) rfl)
set_option maxRecDepth 100000 in
theorem zmk_72 : zmkW (yX9_egg, cX9_egg, 2, some .int) ∈ lw_tbl := zt_3 _ (List.mem_of_getElem? (i := 37) rfl)
set_option maxRecDepth 100000 in
theorem zmk_73 : zmkW (yX9_told, cX9_told, 2, some .int) ∈ lw_tbl := zt_3 _ (List.mem_of_getElem? (i := 45) rfl)
set_option maxRecDepth 100000 in
theorem zmk_74 : zmkW (yX9_drop, cX9_drop, 3, some .int) ∈ lw_tbl := zt_3 _ (List.mem_of_getElem? (i := 65) rfl)
set_option maxRecDepth 100000 in
theorem zmk_75 : zmkW (yX9_fall, cX9_fall, 4, some .int) ∈ lw_tbl := zt_3 _ (List.mem_of_getElem? (i := 127) rfl)
set_option maxRecDepth 100000 in
theorem zmk_76 : zmkW (yX9_highest, cX9_highest, 3, some .int) ∈ lw_tbl := zt_3 _ (List.mem_of_getElem? (i := 131) rfl)
set_option maxRecDepth 100000 in
theorem zmk_77 : zmkW (yX9_best, cX9_best, 7, some .int) ∈ lw_tbl := zt_3 _ (List.mem_of_getElem? (i := 139) rfl)
set_option maxRecDepth 100000 in
theorem zmk_78 : zmkW (yX9_lighter, cX9_lighter, 9, some .int) ∈ lw_tbl := zt_3 _ (List.mem_of_getElem? (i := 147) rfl)
set_option maxRecDepth 100000 in
theorem zmk_79 : zmkW (yX9_shift, cX9_shift, 7, some .int) ∈ lw_tbl := zt_3 _ (List.mem_of_getElem? (i := 155) rfl)
set_option maxRecDepth 100000 in
theorem zmk_80 : zmkW (yX9_tries, cX9_tries, 4, some .int) ∈ lw_tbl := zt_3 _ (List.mem_of_getElem? (i := 163) rfl)
set_option maxRecDepth 100000 in
theorem zmk_81 : zmkW (yX9_failed, cX9_failed, 5, some .int) ∈ lw_tbl := zt_3 _ (List.mem_of_getElem? (i := 170) rfl)
set_option maxRecDepth 100000 in
theorem zmk_82 : zmkW (yX9_see, cX9_see, 4, some .int) ∈ lw_tbl := zt_3 _ (List.mem_of_getElem? (i := 174) rfl)
set_option maxRecDepth 100000 in
theorem zmk_83 : zmkW (yX9_strong, cX9_strong, 4, some .int) ∈ lw_tbl := zt_3 _ (List.mem_of_getElem? (i := 185) rfl)
set_option maxRecDepth 100000 in
theorem zmk_84 : zmkW (yX9_odds, cX9_odds, 5, some .long) ∈ lw_tbl := zt_3 _ (List.mem_of_getElem? (i := 198) rfl)
set_option maxRecDepth 100000 in
theorem zmk_85 : zmkW (yX9_mean, cX9_mean, 5, some .long) ∈ lw_tbl := zt_3 _ (List.mem_of_getElem? (i := 206) rfl)
set_option maxRecDepth 100000 in
theorem zmk_86 : zmkW (yX9_book, cX9_book, 5, some .int) ∈ lw_tbl := zt_3 _ (List.mem_of_getElem? (i := 210) rfl)
set_option maxRecDepth 100000 in
theorem zmk_87 : zmkW (yX9_looked, cX9_looked, 3, some .int) ∈ lw_tbl := zt_3 _ (List.mem_of_getElem? (i := 214) rfl)
set_option maxRecDepth 100000 in
theorem zmk_88 : zmkW (yX9_act, cX9_act, 4, some .int) ∈ lw_tbl := zt_3 _ (List.mem_of_getElem? (i := 218) rfl)
set_option maxRecDepth 100000 in
theorem zmk_89 : zmkW (yX9_trace, cX9_trace, 2, some .int) ∈ lw_tbl := zt_4 _ (List.mem_of_getElem? (i := 16) rfl)
set_option maxRecDepth 100000 in
theorem zmk_90 : zmkW (yX9_as, cX9_as, 3, some .int) ∈ lw_tbl := zt_4 _ (List.mem_of_getElem? (i := 20) rfl)
set_option maxRecDepth 100000 in
theorem zmk_91 : zmkW (yX9_image, cX9_image, 1, some .int) ∈ lw_tbl := zt_4 _ (List.mem_of_getElem? (i := 29) rfl)
set_option maxRecDepth 100000 in
theorem zmk_92 : zmkW (yX9_undo, cX9_undo, 1, some .int) ∈ lw_tbl := zt_4 _ (List.mem_of_getElem? (i := 53) rfl)
set_option maxRecDepth 100000 in
theorem zmk_93 : zmkW (yX9_count, cX9_count, 2, some .int) ∈ lw_tbl := zt_4 _ (List.mem_of_getElem? (i := 57) rfl)
set_option maxRecDepth 100000 in
theorem zmk_94 : zmkW (yX9_isFloor, cX9_isFloor, 1, some .boolean) ∈ lw_tbl := zt_3 _ (List.mem_of_getElem? (i := 68) rfl)
set_option maxRecDepth 100000 in
theorem zmk_95 : zmkW (yX9_isSide, cX9_isSide, 1, some .boolean) ∈ lw_tbl := zt_2 _ (List.mem_of_getElem? (i := 217) rfl)
set_option maxRecDepth 100000 in
theorem zmk_96 : zmkW (yX9_isKind, cX9_isKind, 1, some .boolean) ∈ lw_tbl := zt_2 _ (List.mem_of_getElem? (i := 214) rfl)
set_option maxRecDepth 100000 in
theorem zmk_97 : zmkW (yX9_holding, cX9_holding, 2, some (.object "EggDrop$School")) ∈ lw_tbl := zt_3 _ (List.mem_of_getElem? (i := 1) rfl)
set_option maxRecDepth 100000 in
theorem zmk_98 : zmkW (yX9_bear, cX9_bear, 1, some .int) ∈ lw_tbl := zt_3 _ (List.mem_of_getElem? (i := 49) rfl)
set_option maxRecDepth 100000 in
theorem zmk_99 : zmkW (yX9_price, cX9_price, 4, some .int) ∈ lw_tbl := zt_2 _ (List.mem_of_getElem? (i := 237) rfl)
set_option maxRecDepth 100000 in
theorem zmk_100 : zmkW (yX9_prices, cX9_prices, 3, some .int) ∈ lw_tbl := zt_3 _ (List.mem_of_getElem? (i := 61) rfl)
set_option maxRecDepth 100000 in
theorem zmk_101 : zmkW (yX9_letFall, cX9_letFall, 5, none) ∈ lw_tbl := zt_3 _ (List.mem_of_getElem? (i := 72) rfl)
set_option maxRecDepth 100000 in
theorem zmk_102 : zmkW (yX9_staysWhole, cX9_staysWhole, 5, some .boolean) ∈ lw_tbl := zt_3 _ (List.mem_of_getElem? (i := 135) rfl)
set_option maxRecDepth 100000 in
theorem zmk_103 : zmkW (yX9_forceOf, cX9_forceOf, 3, some .int) ∈ lw_tbl := zt_3 _ (List.mem_of_getElem? (i := 143) rfl)
set_option maxRecDepth 100000 in
theorem zmk_104 : zmkW (yX9_forceWithShifted, cX9_forceWithShifted, 7, some .int) ∈ lw_tbl := zt_3 _ (List.mem_of_getElem? (i := 159) rfl)
set_option maxRecDepth 100000 in
theorem zmk_105 : zmkW (yX9_floorsTold, cX9_floorsTold, 5, some .int) ∈ lw_tbl := zt_3 _ (List.mem_of_getElem? (i := 166) rfl)
set_option maxRecDepth 100000 in
theorem zmk_106 : zmkW (yX9_findFits, cX9_findFits, 4, none) ∈ lw_tbl := zt_3 _ (List.mem_of_getElem? (i := 189) rfl)
set_option maxRecDepth 100000 in
theorem zmk_107 : zmkW (yX9_write, cX9_write, 4, some .int) ∈ lw_tbl := zt_3 _ (List.mem_of_getElem? (i := 177) rfl)
set_option maxRecDepth 100000 in
theorem zmk_108 : zmkW (yX9_inLowestTerms, cX9_inLowestTerms, 4, some .long) ∈ lw_tbl := zt_3 _ (List.mem_of_getElem? (i := 202) rfl)
set_option maxRecDepth 100000 in
theorem zmk_109 : zmkW (yX10_init, cX10_init, 1, none) ∈ lw_tbl := zt_4 _ (List.mem_of_getElem? (i := 62) rfl)
set_option maxRecDepth 100000 in
theorem zmk_110 : zmkW (yX10_in, cX10_in, 3, some .boolean) ∈ lw_tbl := zt_4 _ (List.mem_of_getElem? (i := 148) rfl)
set_option maxRecDepth 100000 in
theorem zmk_111 : zmkW (yX10_isLayer, cX10_isLayer, 2, some .boolean) ∈ lw_tbl := zt_4 _ (List.mem_of_getElem? (i := 223) rfl)
set_option maxRecDepth 100000 in
theorem zmk_112 : zmkW (yX10_isSide, cX10_isSide, 1, some .boolean) ∈ lw_tbl := zt_4 _ (List.mem_of_getElem? (i := 215) rfl)
set_option maxRecDepth 100000 in
theorem zmk_113 : zmkW (yX10_isFloor, cX10_isFloor, 1, some .boolean) ∈ lw_tbl := zt_5 _ (List.mem_of_getElem? (i := 30) rfl)
set_option maxRecDepth 100000 in
theorem zmk_114 : zmkW (yX10_feed, cX10_feed, 2, some .int) ∈ lw_tbl := zt_4 _ (List.mem_of_getElem? (i := 145) rfl)
set_option maxRecDepth 100000 in
theorem zmk_115 : zmkW (yX10_here, cX10_here, 1, some .int) ∈ lw_tbl := zt_4 _ (List.mem_of_getElem? (i := 160) rfl)
set_option maxRecDepth 100000 in
theorem zmk_116 : zmkW (yX10_must, cX10_must, 2, none) ∈ lw_tbl := zt_4 _ (List.mem_of_getElem? (i := 175) rfl)
set_option maxRecDepth 100000 in
theorem zmk_117 : zmkW (yX10_spells, cX10_spells, 3, none) ∈ lw_tbl := zt_4 _ (List.mem_of_getElem? (i := 169) rfl)
set_option maxRecDepth 100000 in
theorem zmk_118 : zmkW (yX10_figures, cX10_figures, 3, some .int) ∈ lw_tbl := zt_4 _ (List.mem_of_getElem? (i := 179) rfl)
set_option maxRecDepth 100000 in
theorem zmk_119 : zmkW (yX10_among, cX10_among, 3, some .int) ∈ lw_tbl := zt_4 _ (List.mem_of_getElem? (i := 206) rfl)
set_option maxRecDepth 100000 in
theorem zmk_120 : zmkW (yX10_emits, cX10_emits, 2, none) ∈ lw_tbl := zt_4 _ (List.mem_of_getElem? (i := 201) rfl)
set_option maxRecDepth 100000 in
theorem zmk_121 : zmkW (yX10_factor, cX10_factor, 5, none) ∈ lw_tbl := zt_4 _ (List.mem_of_getElem? (i := 197) rfl)
set_option maxRecDepth 100000 in
theorem zmk_122 : zmkW (yX10_every, cX10_every, 1, none) ∈ lw_tbl := zt_4 _ (List.mem_of_getElem? (i := 193) rfl)
set_option maxRecDepth 100000 in
theorem zmk_123 : zmkW (yX10_some, cX10_some, 1, none) ∈ lw_tbl := zt_4 _ (List.mem_of_getElem? (i := 189) rfl)
set_option maxRecDepth 100000 in
theorem zmk_124 : zmkW (yX10_much, cX10_much, 4, none) ∈ lw_tbl := zt_4 _ (List.mem_of_getElem? (i := 185) rfl)
set_option maxRecDepth 100000 in
theorem zmk_125 : zmkW (yX10_tellsHere, cX10_tellsHere, 4, none) ∈ lw_tbl := zt_4 _ (List.mem_of_getElem? (i := 165) rfl)
set_option maxRecDepth 100000 in
theorem zmk_126 : zmkW (yX10_clauseHere, cX10_clauseHere, 1, none) ∈ lw_tbl := zt_4 _ (List.mem_of_getElem? (i := 156) rfl)
set_option maxRecDepth 100000 in
theorem zmk_127 : zmkW (yX10_school, cX10_school, 2, some .int) ∈ lw_tbl := zt_4 _ (List.mem_of_getElem? (i := 152) rfl)
set_option maxRecDepth 100000 in
theorem zmk_128 : zmkW (yX10_tellsOf, cX10_tellsOf, 3, some .int) ∈ lw_tbl := zt_4 _ (List.mem_of_getElem? (i := 235) rfl)
set_option maxRecDepth 100000 in
theorem zmk_129 : zmkW (yX10_looks, cX10_looks, 13, none) ∈ lw_tbl := zt_4 _ (List.mem_of_getElem? (i := 231) rfl)
set_option maxRecDepth 100000 in
theorem zmk_130 : zmkW (yX10_priceOf, cX10_priceOf, 2, some .int) ∈ lw_tbl := zt_4 _ (List.mem_of_getElem? (i := 227) rfl)
set_option maxRecDepth 100000 in
theorem zmk_131 : zmkW (yX10_layer, cX10_layer, 8, some .int) ∈ lw_tbl := zt_4 _ (List.mem_of_getElem? (i := 212) rfl)
set_option maxRecDepth 100000 in
theorem zmk_132 : zmkW (yX10_of, cX10_of, 3, some .int) ∈ lw_tbl := zt_4 _ (List.mem_of_getElem? (i := 219) rfl)
set_option maxRecDepth 100000 in
theorem zmk_133 : zmkW (yX10_side, cX10_side, 4, some .int) ∈ lw_tbl := zt_4 _ (List.mem_of_getElem? (i := 239) rfl)
set_option maxRecDepth 100000 in
theorem zmk_134 : zmkW (yX10_broken, cX10_broken, 4, some .int) ∈ lw_tbl := zt_5 _ (List.mem_of_getElem? (i := 3) rfl)
set_option maxRecDepth 100000 in
theorem zmk_135 : zmkW (yX10_row, cX10_row, 5, some .int) ∈ lw_tbl := zt_5 _ (List.mem_of_getElem? (i := 7) rfl)
set_option maxRecDepth 100000 in
theorem zmk_136 : zmkW (yX10_egg, cX10_egg, 2, some .int) ∈ lw_tbl := zt_5 _ (List.mem_of_getElem? (i := 11) rfl)
set_option maxRecDepth 100000 in
theorem zmk_137 : zmkW (yX10_weightBut, cX10_weightBut, 4, some .int) ∈ lw_tbl := zt_5 _ (List.mem_of_getElem? (i := 19) rfl)
set_option maxRecDepth 100000 in
theorem zmk_138 : zmkW (yX10_prices, cX10_prices, 3, some .int) ∈ lw_tbl := zt_5 _ (List.mem_of_getElem? (i := 23) rfl)
set_option maxRecDepth 100000 in
theorem zmk_139 : zmkW (yX10_told, cX10_told, 2, some .int) ∈ lw_tbl := zt_5 _ (List.mem_of_getElem? (i := 15) rfl)
set_option maxRecDepth 100000 in
theorem zmk_140 : zmkW (yX10_takesOf, cX10_takesOf, 7, some .int) ∈ lw_tbl := zt_5 _ (List.mem_of_getElem? (i := 46) rfl)
set_option maxRecDepth 100000 in
theorem zmk_141 : zmkW (yX10_lands, cX10_lands, 8, some .int) ∈ lw_tbl := zt_5 _ (List.mem_of_getElem? (i := 42) rfl)
set_option maxRecDepth 100000 in
theorem zmk_142 : zmkW (yX10_strikes, cX10_strikes, 3, none) ∈ lw_tbl := zt_5 _ (List.mem_of_getElem? (i := 50) rfl)
set_option maxRecDepth 100000 in
theorem zmk_143 : zmkW (yX10_falls, cX10_falls, 7, some .int) ∈ lw_tbl := zt_5 _ (List.mem_of_getElem? (i := 38) rfl)
set_option maxRecDepth 100000 in
theorem zmk_144 : zmkW (yX10_fallsNow, cX10_fallsNow, 3, some .int) ∈ lw_tbl := zt_5 _ (List.mem_of_getElem? (i := 34) rfl)
set_option maxRecDepth 100000 in
theorem zmk_145 : zmkW (yX10_drop, cX10_drop, 4, some .int) ∈ lw_tbl := zt_5 _ (List.mem_of_getElem? (i := 27) rfl)
set_option maxRecDepth 100000 in
theorem zmk_146 : zmkW (yX10_fall, cX10_fall, 5, some .int) ∈ lw_tbl := zt_5 _ (List.mem_of_getElem? (i := 54) rfl)
set_option maxRecDepth 100000 in
theorem zmk_147 : zmkW (yX10_highest, cX10_highest, 5, some .int) ∈ lw_tbl := zt_5 _ (List.mem_of_getElem? (i := 58) rfl)
set_option maxRecDepth 100000 in
theorem zmk_148 : zmkW (yX10_best, cX10_best, 7, some .int) ∈ lw_tbl := zt_5 _ (List.mem_of_getElem? (i := 62) rfl)
set_option maxRecDepth 100000 in
theorem zmk_149 : zmkW (yX10_lighter, cX10_lighter, 8, some .int) ∈ lw_tbl := zt_5 _ (List.mem_of_getElem? (i := 67) rfl)
set_option maxRecDepth 100000 in
theorem zmk_150 : zmkW (yX10_shift, cX10_shift, 9, some .int) ∈ lw_tbl := zt_5 _ (List.mem_of_getElem? (i := 71) rfl)
set_option maxRecDepth 100000 in
theorem zmk_151 : zmkW (yX10_tries, cX10_tries, 5, some .int) ∈ lw_tbl := zt_5 _ (List.mem_of_getElem? (i := 75) rfl)
set_option maxRecDepth 100000 in
theorem zmk_152 : zmkW (yX10_isSet, cX10_isSet, 2, some .boolean) ∈ lw_tbl := zt_5 _ (List.mem_of_getElem? (i := 83) rfl)
set_option maxRecDepth 100000 in
theorem zmk_153 : zmkW (yX10_failed, cX10_failed, 5, some .int) ∈ lw_tbl := zt_5 _ (List.mem_of_getElem? (i := 79) rfl)
set_option maxRecDepth 100000 in
theorem zmk_154 : zmkW (yX10_see, cX10_see, 4, some .int) ∈ lw_tbl := zt_5 _ (List.mem_of_getElem? (i := 87) rfl)
set_option maxRecDepth 100000 in
theorem zmk_155 : zmkW (yX10_isAsSeen, cX10_isAsSeen, 3, some .boolean) ∈ lw_tbl := zt_5 _ (List.mem_of_getElem? (i := 95) rfl)
set_option maxRecDepth 100000 in
theorem zmk_156 : zmkW (yX10_strong, cX10_strong, 5, some .int) ∈ lw_tbl := zt_5 _ (List.mem_of_getElem? (i := 91) rfl)
set_option maxRecDepth 100000 in
theorem zmk_157 : zmkW (yX10_lowest, cX10_lowest, 11, some .long) ∈ lw_tbl := zt_5 _ (List.mem_of_getElem? (i := 104) rfl)
set_option maxRecDepth 100000 in
theorem zmk_158 : zmkW (yX10_odds, cX10_odds, 6, some .long) ∈ lw_tbl := zt_5 _ (List.mem_of_getElem? (i := 99) rfl)
set_option maxRecDepth 100000 in
theorem zmk_159 : zmkW (yX10_mean, cX10_mean, 6, some .long) ∈ lw_tbl := zt_5 _ (List.mem_of_getElem? (i := 108) rfl)
set_option maxRecDepth 100000 in
theorem zmk_160 : zmkW (yX10_book, cX10_book, 4, some .int) ∈ lw_tbl := zt_5 _ (List.mem_of_getElem? (i := 113) rfl)
set_option maxRecDepth 100000 in
theorem zmk_161 : zmkW (yX10_looked, cX10_looked, 2, some .int) ∈ lw_tbl := zt_5 _ (List.mem_of_getElem? (i := 117) rfl)
set_option maxRecDepth 100000 in
theorem zmk_162 : zmkW (yX10_ranBody, cX10_ranBody, 2, none) ∈ lw_tbl := zt_5 _ (List.mem_of_getElem? (i := 132) rfl)
set_option maxRecDepth 100000 in
theorem zmk_163 : zmkW (yX10_isUnder, cX10_isUnder, 2, some .boolean) ∈ lw_tbl := zt_5 _ (List.mem_of_getElem? (i := 128) rfl)
set_option maxRecDepth 100000 in
theorem zmk_164 : zmkW (yX10_plainGives, cX10_plainGives, 2, some .int) ∈ lw_tbl := zt_5 _ (List.mem_of_getElem? (i := 136) rfl)
set_option maxRecDepth 100000 in
theorem zmk_165 : zmkW (yX10_givesActs, cX10_givesActs, 2, some .int) ∈ lw_tbl := zt_5 _ (List.mem_of_getElem? (i := 125) rfl)
set_option maxRecDepth 100000 in
theorem zmk_166 : zmkW (yX10_plainTakes, cX10_plainTakes, 2, some .int) ∈ lw_tbl := zt_5 _ (List.mem_of_getElem? (i := 144) rfl)
set_option maxRecDepth 100000 in
theorem zmk_167 : zmkW (yX10_takesActs, cX10_takesActs, 2, some .int) ∈ lw_tbl := zt_5 _ (List.mem_of_getElem? (i := 140) rfl)
set_option maxRecDepth 100000 in
theorem zmk_168 : zmkW (yX10_plainTells, cX10_plainTells, 2, some .int) ∈ lw_tbl := zt_5 _ (List.mem_of_getElem? (i := 152) rfl)
set_option maxRecDepth 100000 in
theorem zmk_169 : zmkW (yX10_tellsActs, cX10_tellsActs, 3, some .int) ∈ lw_tbl := zt_5 _ (List.mem_of_getElem? (i := 148) rfl)
set_option maxRecDepth 100000 in
theorem zmk_170 : zmkW (yX10_act, cX10_act, 4, some .int) ∈ lw_tbl := zt_5 _ (List.mem_of_getElem? (i := 121) rfl)
set_option maxRecDepth 100000 in
theorem zmk_171 : zmkW (yX10_trace, cX10_trace, 2, some .int) ∈ lw_tbl := zt_5 _ (List.mem_of_getElem? (i := 156) rfl)
set_option maxRecDepth 100000 in
theorem zmk_172 : zmkW (yX10_as, cX10_as, 3, some .int) ∈ lw_tbl := zt_5 _ (List.mem_of_getElem? (i := 160) rfl)
set_option maxRecDepth 100000 in
theorem zmk_173 : zmkW (yX10_image, cX10_image, 2, some .int) ∈ lw_tbl := zt_5 _ (List.mem_of_getElem? (i := 164) rfl)
set_option maxRecDepth 100000 in
theorem zmk_174 : zmkW (yX10_undo, cX10_undo, 2, some .int) ∈ lw_tbl := zt_5 _ (List.mem_of_getElem? (i := 168) rfl)
set_option maxRecDepth 100000 in
theorem zmk_175 : zmkW (yX10_count, cX10_count, 2, some .int) ∈ lw_tbl := zt_5 _ (List.mem_of_getElem? (i := 172) rfl)
theorem zmk_r0 : ∀ q ∈ [((yX0_init, cX0_init, 1, none) : MethodName × (ByteArray × (Nat × Option FieldType))), ((yX0_clear, cX0_clear, 1, none) : MethodName × (ByteArray × (Nat × Option FieldType))), ((yX0_take, cX0_take, 3, none) : MethodName × (ByteArray × (Nat × Option FieldType))), ((yX0_begin, cX0_begin, 2, none) : MethodName × (ByteArray × (Nat × Option FieldType))), ((yX0_gives, cX0_gives, 2, some .int) : MethodName × (ByteArray × (Nat × Option FieldType))), ((yX0_takes, cX0_takes, 2, some .int) : MethodName × (ByteArray × (Nat × Option FieldType))), ((yX0_tells, cX0_tells, 2, some .int) : MethodName × (ByteArray × (Nat × Option FieldType))), ((yX0_takesAtTop, cX0_takesAtTop, 2, some .int) : MethodName × (ByteArray × (Nat × Option FieldType))), ((yX0_tellsAtTop, cX0_tellsAtTop, 2, some .int) : MethodName × (ByteArray × (Nat × Option FieldType))), ((yX1_init, cX1_init, 1, none) : MethodName × (ByteArray × (Nat × Option FieldType))), ((yX1_copyFrom, cX1_copyFrom, 2, none) : MethodName × (ByteArray × (Nat × Option FieldType))), ((yX2_init, cX2_init, 1, none) : MethodName × (ByteArray × (Nat × Option FieldType))), ((yX2_renew, cX2_renew, 1, none) : MethodName × (ByteArray × (Nat × Option FieldType))), ((yX2_land, cX2_land, 4, none) : MethodName × (ByteArray × (Nat × Option FieldType))), ((yX2_copyFrom, cX2_copyFrom, 2, none) : MethodName × (ByteArray × (Nat × Option FieldType))), ((yX3_init, cX3_init, 1, none) : MethodName × (ByteArray × (Nat × Option FieldType)))], zmkW q ∈ lw_tbl := List.forall_mem_cons.mpr ⟨zmk_0, List.forall_mem_cons.mpr ⟨zmk_1, List.forall_mem_cons.mpr ⟨zmk_2, List.forall_mem_cons.mpr ⟨zmk_3, List.forall_mem_cons.mpr ⟨zmk_4, List.forall_mem_cons.mpr ⟨zmk_5, List.forall_mem_cons.mpr ⟨zmk_6, List.forall_mem_cons.mpr ⟨zmk_7, List.forall_mem_cons.mpr ⟨zmk_8, List.forall_mem_cons.mpr ⟨zmk_9, List.forall_mem_cons.mpr ⟨zmk_10, List.forall_mem_cons.mpr ⟨zmk_11, List.forall_mem_cons.mpr ⟨zmk_12, List.forall_mem_cons.mpr ⟨zmk_13, List.forall_mem_cons.mpr ⟨zmk_14, List.forall_mem_cons.mpr ⟨zmk_15, fun _ h => absurd h List.not_mem_nil⟩⟩⟩⟩⟩⟩⟩⟩⟩⟩⟩⟩⟩⟩⟩⟩
theorem zmk_r1 : ∀ q ∈ [((yX3_happen, cX3_happen, 9, none) : MethodName × (ByteArray × (Nat × Option FieldType))), ((yX3_force, cX3_force, 1, some .int) : MethodName × (ByteArray × (Nat × Option FieldType))), ((yX3_meet, cX3_meet, 3, none) : MethodName × (ByteArray × (Nat × Option FieldType))), ((yX3_meetNew, cX3_meetNew, 2, none) : MethodName × (ByteArray × (Nat × Option FieldType))), ((yX3_landAll, cX3_landAll, 2, none) : MethodName × (ByteArray × (Nat × Option FieldType))), ((yX3_goThrough, cX3_goThrough, 6, some .int) : MethodName × (ByteArray × (Nat × Option FieldType))), ((yX3_takenBy, cX3_takenBy, 4, some .int) : MethodName × (ByteArray × (Nat × Option FieldType))), ((yX3_crumpled, cX3_crumpled, 2, some .int) : MethodName × (ByteArray × (Nat × Option FieldType))), ((yX3_hung, cX3_hung, 2, some .int) : MethodName × (ByteArray × (Nat × Option FieldType))), ((yX3_standing, cX3_standing, 5, some .int) : MethodName × (ByteArray × (Nat × Option FieldType))), ((yX4_init, cX4_init, 1, none) : MethodName × (ByteArray × (Nat × Option FieldType))), ((yX4_isUnder, cX4_isUnder, 4, some .boolean) : MethodName × (ByteArray × (Nat × Option FieldType))), ((yX4_has, cX4_has, 2, some .boolean) : MethodName × (ByteArray × (Nat × Option FieldType))), ((yX4_isBroken, cX4_isBroken, 2, some .boolean) : MethodName × (ByteArray × (Nat × Option FieldType))), ((yX4_allBits, cX4_allBits, 1, some .int) : MethodName × (ByteArray × (Nat × Option FieldType))), ((yX4_add, cX4_add, 7, some .int) : MethodName × (ByteArray × (Nat × Option FieldType)))], zmkW q ∈ lw_tbl := List.forall_mem_cons.mpr ⟨zmk_16, List.forall_mem_cons.mpr ⟨zmk_17, List.forall_mem_cons.mpr ⟨zmk_18, List.forall_mem_cons.mpr ⟨zmk_19, List.forall_mem_cons.mpr ⟨zmk_20, List.forall_mem_cons.mpr ⟨zmk_21, List.forall_mem_cons.mpr ⟨zmk_22, List.forall_mem_cons.mpr ⟨zmk_23, List.forall_mem_cons.mpr ⟨zmk_24, List.forall_mem_cons.mpr ⟨zmk_25, List.forall_mem_cons.mpr ⟨zmk_26, List.forall_mem_cons.mpr ⟨zmk_27, List.forall_mem_cons.mpr ⟨zmk_28, List.forall_mem_cons.mpr ⟨zmk_29, List.forall_mem_cons.mpr ⟨zmk_30, List.forall_mem_cons.mpr ⟨zmk_31, fun _ h => absurd h List.not_mem_nil⟩⟩⟩⟩⟩⟩⟩⟩⟩⟩⟩⟩⟩⟩⟩⟩
theorem zmk_r2 : ∀ q ∈ [((yX4_mark, cX4_mark, 3, none) : MethodName × (ByteArray × (Nat × Option FieldType))), ((yX4_weightWithout, cX4_weightWithout, 4, some .int) : MethodName × (ByteArray × (Nat × Option FieldType))), ((yX4_copyFrom, cX4_copyFrom, 2, none) : MethodName × (ByteArray × (Nat × Option FieldType))), ((yX5_init, cX5_init, 1, none) : MethodName × (ByteArray × (Nat × Option FieldType))), ((yX5_read, cX5_read, 3, some .int) : MethodName × (ByteArray × (Nat × Option FieldType))), ((yX5_next, cX5_next, 1, some .int) : MethodName × (ByteArray × (Nat × Option FieldType))), ((yX5_pass, cX5_pass, 2, some .boolean) : MethodName × (ByteArray × (Nat × Option FieldType))), ((yX5_passAll, cX5_passAll, 3, some .boolean) : MethodName × (ByteArray × (Nat × Option FieldType))), ((yX5_readClause, cX5_readClause, 4, some .boolean) : MethodName × (ByteArray × (Nat × Option FieldType))), ((yX5_readWord, cX5_readWord, 1, some .int) : MethodName × (ByteArray × (Nat × Option FieldType))), ((yX5_readDigit, cX5_readDigit, 2, some .int) : MethodName × (ByteArray × (Nat × Option FieldType))), ((yX5_readNumber, cX5_readNumber, 3, some .int) : MethodName × (ByteArray × (Nat × Option FieldType))), ((yX5_readAny, cX5_readAny, 4, some .boolean) : MethodName × (ByteArray × (Nat × Option FieldType))), ((yX5_readOne, cX5_readOne, 3, some .boolean) : MethodName × (ByteArray × (Nat × Option FieldType))), ((yX5_readTest, cX5_readTest, 4, some .boolean) : MethodName × (ByteArray × (Nat × Option FieldType))), ((yX5_readOneOf, cX5_readOneOf, 4, some .int) : MethodName × (ByteArray × (Nat × Option FieldType)))], zmkW q ∈ lw_tbl := List.forall_mem_cons.mpr ⟨zmk_32, List.forall_mem_cons.mpr ⟨zmk_33, List.forall_mem_cons.mpr ⟨zmk_34, List.forall_mem_cons.mpr ⟨zmk_35, List.forall_mem_cons.mpr ⟨zmk_36, List.forall_mem_cons.mpr ⟨zmk_37, List.forall_mem_cons.mpr ⟨zmk_38, List.forall_mem_cons.mpr ⟨zmk_39, List.forall_mem_cons.mpr ⟨zmk_40, List.forall_mem_cons.mpr ⟨zmk_41, List.forall_mem_cons.mpr ⟨zmk_42, List.forall_mem_cons.mpr ⟨zmk_43, List.forall_mem_cons.mpr ⟨zmk_44, List.forall_mem_cons.mpr ⟨zmk_45, List.forall_mem_cons.mpr ⟨zmk_46, List.forall_mem_cons.mpr ⟨zmk_47, fun _ h => absurd h List.not_mem_nil⟩⟩⟩⟩⟩⟩⟩⟩⟩⟩⟩⟩⟩⟩⟩⟩
theorem zmk_r3 : ∀ q ∈ [((yX6_init, cX6_init, 1, none) : MethodName × (ByteArray × (Nat × Option FieldType))), ((yX6_clear, cX6_clear, 1, none) : MethodName × (ByteArray × (Nat × Option FieldType))), ((yX6_copyFrom, cX6_copyFrom, 2, none) : MethodName × (ByteArray × (Nat × Option FieldType))), ((yX6_addStep, cX6_addStep, 2, none) : MethodName × (ByteArray × (Nat × Option FieldType))), ((yX6_addClause, cX6_addClause, 3, none) : MethodName × (ByteArray × (Nat × Option FieldType))), ((yX6_last, cX6_last, 5, some .int) : MethodName × (ByteArray × (Nat × Option FieldType))), ((yX6_setTest, cX6_setTest, 6, none) : MethodName × (ByteArray × (Nat × Option FieldType))), ((yX6_sum, cX6_sum, 5, some .int) : MethodName × (ByteArray × (Nat × Option FieldType))), ((yX6_holds, cX6_holds, 7, some .boolean) : MethodName × (ByteArray × (Nat × Option FieldType))), ((yX6_passes, cX6_passes, 5, some .boolean) : MethodName × (ByteArray × (Nat × Option FieldType))), ((yX7_init, cX7_init, 1, none) : MethodName × (ByteArray × (Nat × Option FieldType))), ((yX7_add, cX7_add, 4, some .boolean) : MethodName × (ByteArray × (Nat × Option FieldType))), ((yX7_copyFrom, cX7_copyFrom, 2, none) : MethodName × (ByteArray × (Nat × Option FieldType))), ((yX8_init, cX8_init, 1, none) : MethodName × (ByteArray × (Nat × Option FieldType))), ((yX8_put, cX8_put, 2, some .boolean) : MethodName × (ByteArray × (Nat × Option FieldType))), ((yX8_copyFrom, cX8_copyFrom, 2, none) : MethodName × (ByteArray × (Nat × Option FieldType)))], zmkW q ∈ lw_tbl := List.forall_mem_cons.mpr ⟨zmk_48, List.forall_mem_cons.mpr ⟨zmk_49, List.forall_mem_cons.mpr ⟨zmk_50, List.forall_mem_cons.mpr ⟨zmk_51, List.forall_mem_cons.mpr ⟨zmk_52, List.forall_mem_cons.mpr ⟨zmk_53, List.forall_mem_cons.mpr ⟨zmk_54, List.forall_mem_cons.mpr ⟨zmk_55, List.forall_mem_cons.mpr ⟨zmk_56, List.forall_mem_cons.mpr ⟨zmk_57, List.forall_mem_cons.mpr ⟨zmk_58, List.forall_mem_cons.mpr ⟨zmk_59, List.forall_mem_cons.mpr ⟨zmk_60, List.forall_mem_cons.mpr ⟨zmk_61, List.forall_mem_cons.mpr ⟨zmk_62, List.forall_mem_cons.mpr ⟨zmk_63, fun _ h => absurd h List.not_mem_nil⟩⟩⟩⟩⟩⟩⟩⟩⟩⟩⟩⟩⟩⟩⟩⟩
theorem zmk_r4 : ∀ q ∈ [((yX9_init, cX9_init, 2, none) : MethodName × (ByteArray × (Nat × Option FieldType))), ((yX9_feed, cX9_feed, 2, some .int) : MethodName × (ByteArray × (Nat × Option FieldType))), ((yX9_school, cX9_school, 3, some .int) : MethodName × (ByteArray × (Nat × Option FieldType))), ((yX9_layer, cX9_layer, 6, some .int) : MethodName × (ByteArray × (Nat × Option FieldType))), ((yX9_of, cX9_of, 4, some .int) : MethodName × (ByteArray × (Nat × Option FieldType))), ((yX9_side, cX9_side, 4, some .int) : MethodName × (ByteArray × (Nat × Option FieldType))), ((yX9_broken, cX9_broken, 4, some .int) : MethodName × (ByteArray × (Nat × Option FieldType))), ((yX9_row, cX9_row, 7, some .int) : MethodName × (ByteArray × (Nat × Option FieldType))), ((yX9_egg, cX9_egg, 2, some .int) : MethodName × (ByteArray × (Nat × Option FieldType))), ((yX9_told, cX9_told, 2, some .int) : MethodName × (ByteArray × (Nat × Option FieldType))), ((yX9_drop, cX9_drop, 3, some .int) : MethodName × (ByteArray × (Nat × Option FieldType))), ((yX9_fall, cX9_fall, 4, some .int) : MethodName × (ByteArray × (Nat × Option FieldType))), ((yX9_highest, cX9_highest, 3, some .int) : MethodName × (ByteArray × (Nat × Option FieldType))), ((yX9_best, cX9_best, 7, some .int) : MethodName × (ByteArray × (Nat × Option FieldType))), ((yX9_lighter, cX9_lighter, 9, some .int) : MethodName × (ByteArray × (Nat × Option FieldType))), ((yX9_shift, cX9_shift, 7, some .int) : MethodName × (ByteArray × (Nat × Option FieldType)))], zmkW q ∈ lw_tbl := List.forall_mem_cons.mpr ⟨zmk_64, List.forall_mem_cons.mpr ⟨zmk_65, List.forall_mem_cons.mpr ⟨zmk_66, List.forall_mem_cons.mpr ⟨zmk_67, List.forall_mem_cons.mpr ⟨zmk_68, List.forall_mem_cons.mpr ⟨zmk_69, List.forall_mem_cons.mpr ⟨zmk_70, List.forall_mem_cons.mpr ⟨zmk_71, List.forall_mem_cons.mpr ⟨zmk_72, List.forall_mem_cons.mpr ⟨zmk_73, List.forall_mem_cons.mpr ⟨zmk_74, List.forall_mem_cons.mpr ⟨zmk_75, List.forall_mem_cons.mpr ⟨zmk_76, List.forall_mem_cons.mpr ⟨zmk_77, List.forall_mem_cons.mpr ⟨zmk_78, List.forall_mem_cons.mpr ⟨zmk_79, fun _ h => absurd h List.not_mem_nil⟩⟩⟩⟩⟩⟩⟩⟩⟩⟩⟩⟩⟩⟩⟩⟩
theorem zmk_r5 : ∀ q ∈ [((yX9_tries, cX9_tries, 4, some .int) : MethodName × (ByteArray × (Nat × Option FieldType))), ((yX9_failed, cX9_failed, 5, some .int) : MethodName × (ByteArray × (Nat × Option FieldType))), ((yX9_see, cX9_see, 4, some .int) : MethodName × (ByteArray × (Nat × Option FieldType))), ((yX9_strong, cX9_strong, 4, some .int) : MethodName × (ByteArray × (Nat × Option FieldType))), ((yX9_odds, cX9_odds, 5, some .long) : MethodName × (ByteArray × (Nat × Option FieldType))), ((yX9_mean, cX9_mean, 5, some .long) : MethodName × (ByteArray × (Nat × Option FieldType))), ((yX9_book, cX9_book, 5, some .int) : MethodName × (ByteArray × (Nat × Option FieldType))), ((yX9_looked, cX9_looked, 3, some .int) : MethodName × (ByteArray × (Nat × Option FieldType))), ((yX9_act, cX9_act, 4, some .int) : MethodName × (ByteArray × (Nat × Option FieldType))), ((yX9_trace, cX9_trace, 2, some .int) : MethodName × (ByteArray × (Nat × Option FieldType))), ((yX9_as, cX9_as, 3, some .int) : MethodName × (ByteArray × (Nat × Option FieldType))), ((yX9_image, cX9_image, 1, some .int) : MethodName × (ByteArray × (Nat × Option FieldType))), ((yX9_undo, cX9_undo, 1, some .int) : MethodName × (ByteArray × (Nat × Option FieldType))), ((yX9_count, cX9_count, 2, some .int) : MethodName × (ByteArray × (Nat × Option FieldType))), ((yX9_isFloor, cX9_isFloor, 1, some .boolean) : MethodName × (ByteArray × (Nat × Option FieldType))), ((yX9_isSide, cX9_isSide, 1, some .boolean) : MethodName × (ByteArray × (Nat × Option FieldType)))], zmkW q ∈ lw_tbl := List.forall_mem_cons.mpr ⟨zmk_80, List.forall_mem_cons.mpr ⟨zmk_81, List.forall_mem_cons.mpr ⟨zmk_82, List.forall_mem_cons.mpr ⟨zmk_83, List.forall_mem_cons.mpr ⟨zmk_84, List.forall_mem_cons.mpr ⟨zmk_85, List.forall_mem_cons.mpr ⟨zmk_86, List.forall_mem_cons.mpr ⟨zmk_87, List.forall_mem_cons.mpr ⟨zmk_88, List.forall_mem_cons.mpr ⟨zmk_89, List.forall_mem_cons.mpr ⟨zmk_90, List.forall_mem_cons.mpr ⟨zmk_91, List.forall_mem_cons.mpr ⟨zmk_92, List.forall_mem_cons.mpr ⟨zmk_93, List.forall_mem_cons.mpr ⟨zmk_94, List.forall_mem_cons.mpr ⟨zmk_95, fun _ h => absurd h List.not_mem_nil⟩⟩⟩⟩⟩⟩⟩⟩⟩⟩⟩⟩⟩⟩⟩⟩
theorem zmk_r6 : ∀ q ∈ [((yX9_isKind, cX9_isKind, 1, some .boolean) : MethodName × (ByteArray × (Nat × Option FieldType))), ((yX9_holding, cX9_holding, 2, some (.object "EggDrop$School")) : MethodName × (ByteArray × (Nat × Option FieldType))), ((yX9_bear, cX9_bear, 1, some .int) : MethodName × (ByteArray × (Nat × Option FieldType))), ((yX9_price, cX9_price, 4, some .int) : MethodName × (ByteArray × (Nat × Option FieldType))), ((yX9_prices, cX9_prices, 3, some .int) : MethodName × (ByteArray × (Nat × Option FieldType))), ((yX9_letFall, cX9_letFall, 5, none) : MethodName × (ByteArray × (Nat × Option FieldType))), ((yX9_staysWhole, cX9_staysWhole, 5, some .boolean) : MethodName × (ByteArray × (Nat × Option FieldType))), ((yX9_forceOf, cX9_forceOf, 3, some .int) : MethodName × (ByteArray × (Nat × Option FieldType))), ((yX9_forceWithShifted, cX9_forceWithShifted, 7, some .int) : MethodName × (ByteArray × (Nat × Option FieldType))), ((yX9_floorsTold, cX9_floorsTold, 5, some .int) : MethodName × (ByteArray × (Nat × Option FieldType))), ((yX9_findFits, cX9_findFits, 4, none) : MethodName × (ByteArray × (Nat × Option FieldType))), ((yX9_write, cX9_write, 4, some .int) : MethodName × (ByteArray × (Nat × Option FieldType))), ((yX9_inLowestTerms, cX9_inLowestTerms, 4, some .long) : MethodName × (ByteArray × (Nat × Option FieldType))), ((yX10_init, cX10_init, 1, none) : MethodName × (ByteArray × (Nat × Option FieldType))), ((yX10_in, cX10_in, 3, some .boolean) : MethodName × (ByteArray × (Nat × Option FieldType))), ((yX10_isLayer, cX10_isLayer, 2, some .boolean) : MethodName × (ByteArray × (Nat × Option FieldType)))], zmkW q ∈ lw_tbl := List.forall_mem_cons.mpr ⟨zmk_96, List.forall_mem_cons.mpr ⟨zmk_97, List.forall_mem_cons.mpr ⟨zmk_98, List.forall_mem_cons.mpr ⟨zmk_99, List.forall_mem_cons.mpr ⟨zmk_100, List.forall_mem_cons.mpr ⟨zmk_101, List.forall_mem_cons.mpr ⟨zmk_102, List.forall_mem_cons.mpr ⟨zmk_103, List.forall_mem_cons.mpr ⟨zmk_104, List.forall_mem_cons.mpr ⟨zmk_105, List.forall_mem_cons.mpr ⟨zmk_106, List.forall_mem_cons.mpr ⟨zmk_107, List.forall_mem_cons.mpr ⟨zmk_108, List.forall_mem_cons.mpr ⟨zmk_109, List.forall_mem_cons.mpr ⟨zmk_110, List.forall_mem_cons.mpr ⟨zmk_111, fun _ h => absurd h List.not_mem_nil⟩⟩⟩⟩⟩⟩⟩⟩⟩⟩⟩⟩⟩⟩⟩⟩
theorem zmk_r7 : ∀ q ∈ [((yX10_isSide, cX10_isSide, 1, some .boolean) : MethodName × (ByteArray × (Nat × Option FieldType))), ((yX10_isFloor, cX10_isFloor, 1, some .boolean) : MethodName × (ByteArray × (Nat × Option FieldType))), ((yX10_feed, cX10_feed, 2, some .int) : MethodName × (ByteArray × (Nat × Option FieldType))), ((yX10_here, cX10_here, 1, some .int) : MethodName × (ByteArray × (Nat × Option FieldType))), ((yX10_must, cX10_must, 2, none) : MethodName × (ByteArray × (Nat × Option FieldType))), ((yX10_spells, cX10_spells, 3, none) : MethodName × (ByteArray × (Nat × Option FieldType))), ((yX10_figures, cX10_figures, 3, some .int) : MethodName × (ByteArray × (Nat × Option FieldType))), ((yX10_among, cX10_among, 3, some .int) : MethodName × (ByteArray × (Nat × Option FieldType))), ((yX10_emits, cX10_emits, 2, none) : MethodName × (ByteArray × (Nat × Option FieldType))), ((yX10_factor, cX10_factor, 5, none) : MethodName × (ByteArray × (Nat × Option FieldType))), ((yX10_every, cX10_every, 1, none) : MethodName × (ByteArray × (Nat × Option FieldType))), ((yX10_some, cX10_some, 1, none) : MethodName × (ByteArray × (Nat × Option FieldType))), ((yX10_much, cX10_much, 4, none) : MethodName × (ByteArray × (Nat × Option FieldType))), ((yX10_tellsHere, cX10_tellsHere, 4, none) : MethodName × (ByteArray × (Nat × Option FieldType))), ((yX10_clauseHere, cX10_clauseHere, 1, none) : MethodName × (ByteArray × (Nat × Option FieldType))), ((yX10_school, cX10_school, 2, some .int) : MethodName × (ByteArray × (Nat × Option FieldType)))], zmkW q ∈ lw_tbl := List.forall_mem_cons.mpr ⟨zmk_112, List.forall_mem_cons.mpr ⟨zmk_113, List.forall_mem_cons.mpr ⟨zmk_114, List.forall_mem_cons.mpr ⟨zmk_115, List.forall_mem_cons.mpr ⟨zmk_116, List.forall_mem_cons.mpr ⟨zmk_117, List.forall_mem_cons.mpr ⟨zmk_118, List.forall_mem_cons.mpr ⟨zmk_119, List.forall_mem_cons.mpr ⟨zmk_120, List.forall_mem_cons.mpr ⟨zmk_121, List.forall_mem_cons.mpr ⟨zmk_122, List.forall_mem_cons.mpr ⟨zmk_123, List.forall_mem_cons.mpr ⟨zmk_124, List.forall_mem_cons.mpr ⟨zmk_125, List.forall_mem_cons.mpr ⟨zmk_126, List.forall_mem_cons.mpr ⟨zmk_127, fun _ h => absurd h List.not_mem_nil⟩⟩⟩⟩⟩⟩⟩⟩⟩⟩⟩⟩⟩⟩⟩⟩
theorem zmk_r8 : ∀ q ∈ [((yX10_tellsOf, cX10_tellsOf, 3, some .int) : MethodName × (ByteArray × (Nat × Option FieldType))), ((yX10_looks, cX10_looks, 13, none) : MethodName × (ByteArray × (Nat × Option FieldType))), ((yX10_priceOf, cX10_priceOf, 2, some .int) : MethodName × (ByteArray × (Nat × Option FieldType))), ((yX10_layer, cX10_layer, 8, some .int) : MethodName × (ByteArray × (Nat × Option FieldType))), ((yX10_of, cX10_of, 3, some .int) : MethodName × (ByteArray × (Nat × Option FieldType))), ((yX10_side, cX10_side, 4, some .int) : MethodName × (ByteArray × (Nat × Option FieldType))), ((yX10_broken, cX10_broken, 4, some .int) : MethodName × (ByteArray × (Nat × Option FieldType))), ((yX10_row, cX10_row, 5, some .int) : MethodName × (ByteArray × (Nat × Option FieldType))), ((yX10_egg, cX10_egg, 2, some .int) : MethodName × (ByteArray × (Nat × Option FieldType))), ((yX10_weightBut, cX10_weightBut, 4, some .int) : MethodName × (ByteArray × (Nat × Option FieldType))), ((yX10_prices, cX10_prices, 3, some .int) : MethodName × (ByteArray × (Nat × Option FieldType))), ((yX10_told, cX10_told, 2, some .int) : MethodName × (ByteArray × (Nat × Option FieldType))), ((yX10_takesOf, cX10_takesOf, 7, some .int) : MethodName × (ByteArray × (Nat × Option FieldType))), ((yX10_lands, cX10_lands, 8, some .int) : MethodName × (ByteArray × (Nat × Option FieldType))), ((yX10_strikes, cX10_strikes, 3, none) : MethodName × (ByteArray × (Nat × Option FieldType))), ((yX10_falls, cX10_falls, 7, some .int) : MethodName × (ByteArray × (Nat × Option FieldType)))], zmkW q ∈ lw_tbl := List.forall_mem_cons.mpr ⟨zmk_128, List.forall_mem_cons.mpr ⟨zmk_129, List.forall_mem_cons.mpr ⟨zmk_130, List.forall_mem_cons.mpr ⟨zmk_131, List.forall_mem_cons.mpr ⟨zmk_132, List.forall_mem_cons.mpr ⟨zmk_133, List.forall_mem_cons.mpr ⟨zmk_134, List.forall_mem_cons.mpr ⟨zmk_135, List.forall_mem_cons.mpr ⟨zmk_136, List.forall_mem_cons.mpr ⟨zmk_137, List.forall_mem_cons.mpr ⟨zmk_138, List.forall_mem_cons.mpr ⟨zmk_139, List.forall_mem_cons.mpr ⟨zmk_140, List.forall_mem_cons.mpr ⟨zmk_141, List.forall_mem_cons.mpr ⟨zmk_142, List.forall_mem_cons.mpr ⟨zmk_143, fun _ h => absurd h List.not_mem_nil⟩⟩⟩⟩⟩⟩⟩⟩⟩⟩⟩⟩⟩⟩⟩⟩
theorem zmk_r9 : ∀ q ∈ [((yX10_fallsNow, cX10_fallsNow, 3, some .int) : MethodName × (ByteArray × (Nat × Option FieldType))), ((yX10_drop, cX10_drop, 4, some .int) : MethodName × (ByteArray × (Nat × Option FieldType))), ((yX10_fall, cX10_fall, 5, some .int) : MethodName × (ByteArray × (Nat × Option FieldType))), ((yX10_highest, cX10_highest, 5, some .int) : MethodName × (ByteArray × (Nat × Option FieldType))), ((yX10_best, cX10_best, 7, some .int) : MethodName × (ByteArray × (Nat × Option FieldType))), ((yX10_lighter, cX10_lighter, 8, some .int) : MethodName × (ByteArray × (Nat × Option FieldType))), ((yX10_shift, cX10_shift, 9, some .int) : MethodName × (ByteArray × (Nat × Option FieldType))), ((yX10_tries, cX10_tries, 5, some .int) : MethodName × (ByteArray × (Nat × Option FieldType))), ((yX10_isSet, cX10_isSet, 2, some .boolean) : MethodName × (ByteArray × (Nat × Option FieldType))), ((yX10_failed, cX10_failed, 5, some .int) : MethodName × (ByteArray × (Nat × Option FieldType))), ((yX10_see, cX10_see, 4, some .int) : MethodName × (ByteArray × (Nat × Option FieldType))), ((yX10_isAsSeen, cX10_isAsSeen, 3, some .boolean) : MethodName × (ByteArray × (Nat × Option FieldType))), ((yX10_strong, cX10_strong, 5, some .int) : MethodName × (ByteArray × (Nat × Option FieldType))), ((yX10_lowest, cX10_lowest, 11, some .long) : MethodName × (ByteArray × (Nat × Option FieldType))), ((yX10_odds, cX10_odds, 6, some .long) : MethodName × (ByteArray × (Nat × Option FieldType))), ((yX10_mean, cX10_mean, 6, some .long) : MethodName × (ByteArray × (Nat × Option FieldType)))], zmkW q ∈ lw_tbl := List.forall_mem_cons.mpr ⟨zmk_144, List.forall_mem_cons.mpr ⟨zmk_145, List.forall_mem_cons.mpr ⟨zmk_146, List.forall_mem_cons.mpr ⟨zmk_147, List.forall_mem_cons.mpr ⟨zmk_148, List.forall_mem_cons.mpr ⟨zmk_149, List.forall_mem_cons.mpr ⟨zmk_150, List.forall_mem_cons.mpr ⟨zmk_151, List.forall_mem_cons.mpr ⟨zmk_152, List.forall_mem_cons.mpr ⟨zmk_153, List.forall_mem_cons.mpr ⟨zmk_154, List.forall_mem_cons.mpr ⟨zmk_155, List.forall_mem_cons.mpr ⟨zmk_156, List.forall_mem_cons.mpr ⟨zmk_157, List.forall_mem_cons.mpr ⟨zmk_158, List.forall_mem_cons.mpr ⟨zmk_159, fun _ h => absurd h List.not_mem_nil⟩⟩⟩⟩⟩⟩⟩⟩⟩⟩⟩⟩⟩⟩⟩⟩
theorem zmk_r10 : ∀ q ∈ [((yX10_book, cX10_book, 4, some .int) : MethodName × (ByteArray × (Nat × Option FieldType))), ((yX10_looked, cX10_looked, 2, some .int) : MethodName × (ByteArray × (Nat × Option FieldType))), ((yX10_ranBody, cX10_ranBody, 2, none) : MethodName × (ByteArray × (Nat × Option FieldType))), ((yX10_isUnder, cX10_isUnder, 2, some .boolean) : MethodName × (ByteArray × (Nat × Option FieldType))), ((yX10_plainGives, cX10_plainGives, 2, some .int) : MethodName × (ByteArray × (Nat × Option FieldType))), ((yX10_givesActs, cX10_givesActs, 2, some .int) : MethodName × (ByteArray × (Nat × Option FieldType))), ((yX10_plainTakes, cX10_plainTakes, 2, some .int) : MethodName × (ByteArray × (Nat × Option FieldType))), ((yX10_takesActs, cX10_takesActs, 2, some .int) : MethodName × (ByteArray × (Nat × Option FieldType))), ((yX10_plainTells, cX10_plainTells, 2, some .int) : MethodName × (ByteArray × (Nat × Option FieldType))), ((yX10_tellsActs, cX10_tellsActs, 3, some .int) : MethodName × (ByteArray × (Nat × Option FieldType))), ((yX10_act, cX10_act, 4, some .int) : MethodName × (ByteArray × (Nat × Option FieldType))), ((yX10_trace, cX10_trace, 2, some .int) : MethodName × (ByteArray × (Nat × Option FieldType))), ((yX10_as, cX10_as, 3, some .int) : MethodName × (ByteArray × (Nat × Option FieldType))), ((yX10_image, cX10_image, 2, some .int) : MethodName × (ByteArray × (Nat × Option FieldType))), ((yX10_undo, cX10_undo, 2, some .int) : MethodName × (ByteArray × (Nat × Option FieldType))), ((yX10_count, cX10_count, 2, some .int) : MethodName × (ByteArray × (Nat × Option FieldType)))], zmkW q ∈ lw_tbl := List.forall_mem_cons.mpr ⟨zmk_160, List.forall_mem_cons.mpr ⟨zmk_161, List.forall_mem_cons.mpr ⟨zmk_162, List.forall_mem_cons.mpr ⟨zmk_163, List.forall_mem_cons.mpr ⟨zmk_164, List.forall_mem_cons.mpr ⟨zmk_165, List.forall_mem_cons.mpr ⟨zmk_166, List.forall_mem_cons.mpr ⟨zmk_167, List.forall_mem_cons.mpr ⟨zmk_168, List.forall_mem_cons.mpr ⟨zmk_169, List.forall_mem_cons.mpr ⟨zmk_170, List.forall_mem_cons.mpr ⟨zmk_171, List.forall_mem_cons.mpr ⟨zmk_172, List.forall_mem_cons.mpr ⟨zmk_173, List.forall_mem_cons.mpr ⟨zmk_174, List.forall_mem_cons.mpr ⟨zmk_175, fun _ h => absurd h List.not_mem_nil⟩⟩⟩⟩⟩⟩⟩⟩⟩⟩⟩⟩⟩⟩⟩⟩
set_option maxRecDepth 100000 in
theorem zmk_ok : ∀ q ∈ zmT, zmkW q ∈ lw_tbl := List.forall_mem_append.mpr ⟨zmk_r0, List.forall_mem_append.mpr ⟨zmk_r1, List.forall_mem_append.mpr ⟨zmk_r2, List.forall_mem_append.mpr ⟨zmk_r3, List.forall_mem_append.mpr ⟨zmk_r4, List.forall_mem_append.mpr ⟨zmk_r5, List.forall_mem_append.mpr ⟨zmk_r6, List.forall_mem_append.mpr ⟨zmk_r7, List.forall_mem_append.mpr ⟨zmk_r8, List.forall_mem_append.mpr ⟨zmk_r9, zmk_r10⟩⟩⟩⟩⟩⟩⟩⟩⟩⟩
def zcwP : List (List Nat) := [[334, 336, 338, 340, 342], [212, 214, 216, 218, 220, 222, 224], [168, 170], [300, 302, 304, 306, 308, 310, 312, 314, 316, 318], [141, 143, 145, 147, 149, 151, 153, 155], [268, 270, 272, 274], [248, 250, 252, 254, 256, 258, 260], [187, 189, 191, 193], [104, 106], [354, 356, 358, 360, 362, 364, 366, 368], [870, 872, 874, 876, 878, 880, 882, 884, 886, 888, 890, 892, 894, 896, 898, 900, 902, 904, 906, 908, 910, 912, 914, 916, 918, 920]]
def zotP : List Nat := [507, 506, 78, 641, 389, 73, 805, 1084, 740, 1121, 1122, 1130, 413, 414, 74, 423, 424]
def zotW : List Cond := [.native arraycopyName, .static arraycopyName, .initialized "java/lang/System", .static Lib.Math.max.name, .static Lib.Math.min.name, .initialized "java/lang/Math", .fieldLink RX4 37 "EggDrop$Layers" "ABOVE" "[I", .constant RX10 188 100000, .constantLong RX9 220 (-9223372036854775808), .constantLong RX10 195 (-9223372036854775808), .constantLong RX10 197 40, .constantLong RX10 203 4,
  .instanceMethod yJ0_length_8abf5, .selects RJ0 yJ0_length_8abf5 yJ0_length_8abf5, .initialized RJ0, .instanceMethod yJ0_charAt_5068e, .selects RJ0 yJ0_charAt_5068e yJ0_charAt_5068e]
set_option maxRecDepth 100000 in
theorem zfl_ok : zpkL (zflP.map (fun i => [i])) (zFL.map (fun e => [zflW e])) = true := by decide +kernel
set_option maxRecDepth 100000 in
theorem zml_ok : zpkL zmlP (zML.map zmlW) = true := by decide +kernel
set_option maxRecDepth 100000 in
theorem zmc_ok : zpkL zmcP (zmT.map zmcW) = true := by decide +kernel
set_option maxRecDepth 100000 in
theorem zcw_ok : zpkL zcwP [wsX00, wsX10, wsX20, wsX30, wsX40, wsX50, wsX60, wsX70, wsX80, wsX90, wsX100] = true := by decide +kernel
set_option maxRecDepth 100000 in
theorem zot_ok : zpk zotP zotW = true := by decide +kernel
/-- the words that every method of ours takes along -/
def zgw : List Cond := lw_tbl.filter goodWord
theorem zgw_of {w : Cond} (h : w ∈ lw_tbl ∧ goodWord w = true) : w ∈ zgw := List.mem_filter.mpr h
theorem zgw_in {w : Cond} (h : w ∈ zgw) : w ∈ lw_tbl ∧ goodWord w = true := List.mem_filter.mp h
theorem zfl_in {e : Nat × (Nat × (Nat × Nat))} (h : e ∈ zFL) : zflW e ∈ zgw := zgw_of (zpkL_in zfl_ok _ (List.mem_map.mpr ⟨e, h, rfl⟩) _ List.mem_cons_self)
theorem zml_in {e : Nat × (Nat × (Nat × Nat))} (h : e ∈ zML) : ∀ w ∈ zmlW e, w ∈ zgw := fun w hw => zgw_of (zpkL_in zml_ok _ (List.mem_map.mpr ⟨e, h, rfl⟩) _ hw)
theorem zmc_in {q : MethodName × (ByteArray × (Nat × Option FieldType))} (h : q ∈ zmT) : ∀ w ∈ zmcW q, w ∈ zgw := fun w hw => zgw_of (zpkL_in zmc_ok _ (List.mem_map.mpr ⟨q, h, rfl⟩) _ hw)
theorem zmk_in {q : MethodName × (ByteArray × (Nat × Option FieldType))} (h : q ∈ zmT) : zmkW q ∈ zgw := zgw_of ⟨zmk_ok q h, rfl⟩
set_option maxRecDepth 100000 in
theorem zmax_in : (.code Lib.Math.max.name Lib.Math.max.code 2 (some .int) : Cond) ∈ zgw := zgw_of ⟨zt_3 _ (List.mem_of_getElem? (i := 101) rfl), rfl⟩
set_option maxRecDepth 100000 in
theorem zmin_in : (.code Lib.Math.min.name Lib.Math.min.code 2 (some .int) : Cond) ∈ zgw := zgw_of ⟨zt_2 _ (List.mem_of_getElem? (i := 89) rfl), rfl⟩
set_option maxRecDepth 100000 in
theorem zc_J9_max_7cf53_in : (.code yJ9_max_7cf53 cJ9_max_7cf53 2 (some .int) : Cond) ∈ zgw := zgw_of ⟨zt_3 _ (List.mem_of_getElem? (i := 101) rfl), rfl⟩
set_option maxRecDepth 100000 in
theorem zc_J9_min_7cf53_in : (.code yJ9_min_7cf53 cJ9_min_7cf53 2 (some .int) : Cond) ∈ zgw := zgw_of ⟨zt_2 _ (List.mem_of_getElem? (i := 89) rfl), rfl⟩
set_option maxRecDepth 100000 in
theorem zc_J0_length_8abf5_in : (.code yJ0_length_8abf5 cJ0_length_8abf5 1 (some .int) : Cond) ∈ zgw := zgw_of ⟨zt_2 _ (List.mem_of_getElem? (i := 114) rfl), rfl⟩
set_option maxRecDepth 100000 in
theorem zc_J0_charAt_5068e_in : (.code yJ0_charAt_5068e cJ0_charAt_5068e 2 (some .char) : Cond) ∈ zgw := zgw_of ⟨zt_2 _ (List.mem_of_getElem? (i := 124) rfl), rfl⟩
set_option maxRecDepth 100000 in
theorem zc_J0_coder_7d493_in : (.code yJ0_coder_7d493 cJ0_coder_7d493 1 (some .byte) : Cond) ∈ zgw := zgw_of ⟨zt_2 _ (List.mem_of_getElem? (i := 118) rfl), rfl⟩
set_option maxRecDepth 100000 in
theorem zc_J0_isLatin1_aae02_in : (.code yJ0_isLatin1_aae02 cJ0_isLatin1_aae02 1 (some .boolean) : Cond) ∈ zgw := zgw_of ⟨zt_2 _ (List.mem_of_getElem? (i := 128) rfl), rfl⟩
set_option maxRecDepth 100000 in
theorem zc_J0_checkIndex_df160_in : (.code yJ0_checkIndex_df160 cJ0_checkIndex_df160 2 none : Cond) ∈ zgw := zgw_of ⟨zt_2 _ (List.mem_of_getElem? (i := 134) rfl), rfl⟩
set_option maxRecDepth 100000 in
theorem zc_J1_charAt_3b067_in : (.code yJ1_charAt_3b067 cJ1_charAt_3b067 2 (some .char) : Cond) ∈ zgw := zgw_of ⟨zt_2 _ (List.mem_of_getElem? (i := 131) rfl), rfl⟩
set_option maxRecDepth 100000 in
theorem zc_J2_getChar_3b067_in : (.code yJ2_getChar_3b067 cJ2_getChar_3b067 2 (some .char) : Cond) ∈ zgw := zgw_of ⟨zt_2 _ (List.mem_of_getElem? (i := 152) rfl), rfl⟩
set_option maxRecDepth 100000 in
theorem zc_J2_length_9d52b_in : (.code yJ2_length_9d52b cJ2_length_9d52b 1 (some .int) : Cond) ∈ zgw := zgw_of ⟨zt_2 _ (List.mem_of_getElem? (i := 148) rfl), rfl⟩
set_option maxRecDepth 100000 in
theorem zc_J2_charAt_3b067_in : (.code yJ2_charAt_3b067 cJ2_charAt_3b067 2 (some .char) : Cond) ∈ zgw := zgw_of ⟨zt_2 _ (List.mem_of_getElem? (i := 142) rfl), rfl⟩
set_option maxRecDepth 100000 in
theorem zc_J2_checkIndex_2214a_in : (.code yJ2_checkIndex_2214a cJ2_checkIndex_2214a 2 none : Cond) ∈ zgw := zgw_of ⟨zt_2 _ (List.mem_of_getElem? (i := 145) rfl), rfl⟩
set_option maxRecDepth 100000 in
theorem zc_J3_checkIndex_8e157_in : (.code yJ3_checkIndex_8e157 cJ3_checkIndex_8e157 3 (some .int) : Cond) ∈ zgw := zgw_of ⟨zt_2 _ (List.mem_of_getElem? (i := 139) rfl), rfl⟩
theorem zot_in : ∀ w ∈ zotW, w ∈ zgw := fun w hw => zgw_of (zpk_in zot_ok w hw)
theorem zcw_in {l : List Cond} (h : l ∈ [wsX00, wsX10, wsX20, wsX30, wsX40, wsX50, wsX60, wsX70, wsX80, wsX90, wsX100]) : ∀ w ∈ l, w ∈ zgw := fun w hw => zgw_of (zpkL_in zcw_ok _ h _ hw)
end
section
/-! THE CODE TABLES ARE THE BYTECODE: checked by program -/
def zcd : ClassFile.Cond → Nat
  | .eq => 0
  | .ne => 1
  | .lt => 2
  | .ge => 3
  | .gt => 4
  | .le => 5
def ztg (pcs : List Nat) (pc : Nat) (off : Int) (a : Nat) : Bool := decide ((pc : Int) + off = (zgn pcs a : Int)) && decide (a < pcs.length)
def zswt (pcs : List Nat) (pc : Nat) : Int → List Int → List (Int32 × Nat) → Bool
  | _, [], [] => true
  | lo, o :: os, q :: qs => decide (q.1 = Int32.ofInt lo) && (ztg pcs pc o q.2 && zswt pcs pc (lo + 1) os qs)
  | _, _, _ => false
def zlks (pcs : List Nat) (pc : Nat) : List (Int × Int) → List (Int32 × Nat) → Bool
  | [], [] => true
  | o :: os, q :: qs => decide (q.1 = Int32.ofInt o.1 ∧ -65536 ≤ o.1 ∧ o.1 ≤ 65536) && (ztg pcs pc o.2 q.2 && zlks pcs pc os qs)
  | _, _ => false
def zgu : List (Nat × (Nat × (Bool × Nat))) → Nat → Nat × (Nat × (Bool × Nat))
  | [], _ => (0, (0, (false, 0)))
  | a :: _, 0 => a
  | _ :: t, k + 1 => zgu t k
/-- class, parameters, static, kind of the answer -/
def zmu (m : Nat) : Nat × (Nat × (Bool × Nat)) := zgu zmU m
def zgp : List (List Nat) → Nat → List Nat
  | [], _ => []
  | a :: _, 0 => a
  | _ :: t, k + 1 => zgp t k
def zmc (own ret : Nat) (pcs : List Nat) (pc : Nat) (ai : zAI) (ins : Instr) (len : Nat) : Bool := match ins with
  | .iload k => decide (ai = (0, k, 0, 0) ∧ len = 2)
  | .iload_n k => decide (ai = (0, k.val, 0, 0) ∧ len = 1)
  | .aload k => decide (ai = (55, k, 0, 0) ∧ len = 2)
  | .aload_n k => decide (ai = (55, k.val, 0, 0) ∧ len = 1)
  | .lload k => decide (ai = (56, k, 0, 0) ∧ len = 2)
  | .lload_n k => decide (ai = (56, k.val, 0, 0) ∧ len = 1)
  | .istore k => decide (ai = (1, k, 0, 0) ∧ len = 2)
  | .istore_n k => decide (ai = (1, k.val, 0, 0) ∧ len = 1)
  | .astore k => decide (ai = (57, k, 0, 0) ∧ len = 2)
  | .astore_n k => decide (ai = (57, k.val, 0, 0) ∧ len = 1)
  | .lstore k => decide (ai = (2, k, 0, 0) ∧ len = 2)
  | .lstore_n k => decide (ai = (2, k.val, 0, 0) ∧ len = 1)
  | .iconst n => decide (ai = (3, 0, 0, Int32.ofInt n) ∧ len = 1)
  | .bipush n => decide (ai = (3, 0, 0, (Int8.ofInt n).toInt32) ∧ len = 2)
  | .sipush n => decide (ai = (3, 0, 0, (Int16.ofInt n).toInt32) ∧ len = 3)
  | .iinc k n => decide (ai = (4, k, 0, Int32.ofInt n) ∧ len = 3)
  | .iadd => decide (ai = (60, 0, 0, 0) ∧ len = 1)
  | .isub => decide (ai = (61, 0, 0, 0) ∧ len = 1)
  | .imul => decide (ai = (62, 0, 0, 0) ∧ len = 1)
  | .iand => decide (ai = (63, 0, 0, 0) ∧ len = 1)
  | .ior => decide (ai = (64, 0, 0, 0) ∧ len = 1)
  | .ixor => decide (ai = (65, 0, 0, 0) ∧ len = 1)
  | .ishl => decide (ai = (66, 0, 0, 0) ∧ len = 1)
  | .ishr => decide (ai = (67, 0, 0, 0) ∧ len = 1)
  | .idiv => decide (ai = (6, 0, 0, 0) ∧ len = 1)
  | .irem => decide (ai = (7, 0, 0, 0) ∧ len = 1)
  | .ineg => decide (ai = (8, 0, 0, 0) ∧ len = 1)
  | .if_icmp cd off => decide (ai = (9, ai.2.1, zcd cd, 0) ∧ len = 3) && ztg pcs pc off ai.2.1
  | .ifCond cd off => decide (ai = (10, ai.2.1, zcd cd, 0) ∧ len = 3) && ztg pcs pc off ai.2.1
  | .goto off => decide (ai = (11, ai.2.1, 0, 0) ∧ len = 3) && ztg pcs pc off ai.2.1
  | .getfield x => decide ((ai = (13, ai.2.1, ai.2.2.1, 0) ∨ ai = (14, ai.2.1, ai.2.2.1, 0)) ∧ len = 3) && decide ((own, x, ai.2.1, ai.2.2.1) ∈ zFL)
  | .putfield x => decide ((ai = (15, ai.2.1, ai.2.2.1, 0) ∨ ai = (54, ai.2.1, ai.2.2.1, 0) ∨ ai = (16, ai.2.1, ai.2.2.1, 0)) ∧ len = 3) && (decide ((own, x, ai.2.1, ai.2.2.1) ∈ zFL) && decide ((zct ai.2.1 ai.2.2.1).2.2.2 = false))
  | .iaload => decide (ai = (17, 0, 0, 0) ∧ len = 1)
  | .iastore => decide (ai = (18, 0, 0, 0) ∧ len = 1)
  | .baload => decide (ai = (19, 0, 0, 0) ∧ len = 1)
  | .bastore => decide (ai = (20, 0, 0, 0) ∧ len = 1)
  | .arraylength => decide (ai = (21, 0, 0, 0) ∧ len = 1)
  | .aaload => decide (ai = (22, 0, 0, 0) ∧ len = 1)
  | .invokevirtual x => decide (len = 3) && (decide (ai = (58, ai.2.1, 16 * ((zmu ai.2.1).2.1 + 1) + (zmu ai.2.1).1, 0) ∧ (own, x, 0, ai.2.1) ∈ zML ∧ ai.2.1 < zmT.length) || decide (ai = (39, 0, 0, 0) ∧ (own, x, 3, 0) ∈ zML) || decide (ai = (40, 0, 0, 0) ∧ (own, x, 4, 0) ∈ zML))
  | .invokestatic x => decide (len = 3) && (decide (ai = (23, ai.2.1, (zmu ai.2.1).2.1, 0) ∧ (own, x, 1, ai.2.1) ∈ zML ∧ ai.2.1 < zmT.length) || decide (ai = (42, 0, 0, 0) ∧ (own, x, 5, 0) ∈ zML) || decide (ai = (43, 0, 0, 0) ∧ (own, x, 6, 0) ∈ zML) || decide (ai = (44, 0, 0, 0) ∧ (own, x, 7, 0) ∈ zML))
  | .return_ => decide (ai = (24, 0, 0, 0) ∧ len = 1 ∧ ret = 0)
  | .ireturn => decide (len = 1 ∧ ((ai = (25, 0, 0, 0) ∧ ret = 1) ∨ (ai = (26, 0, 0, 0) ∧ ret = 2)))
  | .lreturn => decide (ai = (27, 0, 0, 0) ∧ len = 1 ∧ ret = 3)
  | .areturn => decide (ai = (28, 0, 0, 0) ∧ len = 1 ∧ ret = 4)
  | .dup => decide (ai = (29, 0, 0, 0) ∧ len = 1)
  | .dup2 => decide (ai = (30, 0, 0, 0) ∧ len = 1)
  | .pop => decide (ai = (31, 0, 0, 0) ∧ len = 1)
  | .lconst n => decide (ai = (32, 0, 0, Int32.ofNat n.val) ∧ len = 1)
  | .i2l => decide (ai = (33, 0, 0, 0) ∧ len = 1)
  | .ladd => decide (ai = (34, 0, 0, 0) ∧ len = 1)
  | .lrem => decide (ai = (35, 0, 0, 0) ∧ len = 1)
  | .ldiv => decide (ai = (36, 0, 0, 0) ∧ len = 1)
  | .lcmp => decide (ai = (37, 0, 0, 0) ∧ len = 1)
  | .tableswitch df lo hi offs => decide (ai = (38, ai.2.1, ai.2.2.1, 0) ∧ hi = lo + offs.toList.length - 1 ∧ -65536 ≤ lo ∧ hi ≤ 65536) && (ztg pcs pc df (zgsw zSW ai.2.1).2 && zswt pcs pc lo offs.toList (zgsw zSW ai.2.1).1)
  | .lookupswitch df ps => decide (ai = (38, ai.2.1, ai.2.2.1, 0)) && ((ps.toList.zip (ps.toList.drop 1)).all (fun (a, next) => decide (a.1 < next.1)) && (ztg pcs pc df (zgsw zSW ai.2.1).2 && zlks pcs pc ps.toList (zgsw zSW ai.2.1).1))
  | .ldc x => decide (len = 2) && (decide (ai = (41, ai.2.1, 0, 0) ∧ (own, x, ai.2.1, 0) ∈ zSL) || decide (ai = (3, 0, 0, 100000) ∧ own = 10 ∧ x = 188))
  | .ldc2_w x => decide (len = 3 ∧ ((ai = (47, 0, 0, 0) ∧ ((own = 9 ∧ x = 220) ∨ (own = 10 ∧ x = 195))) ∨ (ai = (32, 0, 0, 40) ∧ own = 10 ∧ x = 197) ∨ (ai = (32, 0, 0, 4) ∧ own = 10 ∧ x = 203)))
  | .getstatic x => decide (ai = (45, 0, 0, 0) ∧ len = 3 ∧ own = 4 ∧ x = 37)
  | _ => false
def zck (own ret : Nat) (pcs : List Nat) (cc : ByteArray) : Nat → List zAI → Bool
  | _, [] => true
  | pc, i :: is => if i.1 = 12 then decide (i.2.1 < pcs.length ∧ zgn pcs i.2.1 = pc) else match decode cc pc with
    | .ok (ins, len) => zmc own ret pcs pc i ins len && zck own ret pcs cc (pc + len) is
    | .error _ => false
def zcb (own ret : Nat) (pcs : List Nat) (cc : ByteArray) : List Nat → List (List zAI) → Bool
  | [], [] => true
  | q :: qs, b :: bs => zck own ret pcs cc q b && zcb own ret pcs cc qs bs
  | _, _ => false
def zrk : Nat → Option FieldType → Bool
  | 0, none => true
  | 1, some .int => true
  | 2, some .boolean => true
  | 3, some .long => true
  | 4, some (.object _) => true
  | _, _ => false
def zckm (m : Nat) : Bool := zcb (zmu m).1 (zmu m).2.2.2 (zgp zpcL m) (zmt m).2.1 (zgp zpcL m) (zbm m) && (decide ((parseMethodDescriptor (zmt m).1.desc).map (fun d => d.parameters.length) = some (zmu m).2.1) && (zrk (zmu m).2.2.2 (zmt m).2.2.2 && (decide ((zmt m).1.cls = zcn (zmu m).1 ∧ (zmu m).1 ≤ 10 ∧ (zmt m).2.2.1 ≤ 40) && (decide (zgn (zgp zpcL m) 0 = 0) && plainName (zmt m).1.cls && decide ((zmt m).1.cls ≠ "java/lang/invoke/MethodHandle" ∧ (zmt m).1.cls ≠ "java/lang/invoke/VarHandle")))))
set_option maxRecDepth 100000 in
theorem zkc_0_0 : ∀ m ∈ [0, 1, 2, 3, 4, 5, 6, 7, 8], zckm m = true := by decide +kernel
set_option maxRecDepth 100000 in
theorem zkc_1_0 : ∀ m ∈ [9, 10], zckm m = true := by decide +kernel
set_option maxRecDepth 100000 in
theorem zkc_2_0 : ∀ m ∈ [11, 12, 13, 14], zckm m = true := by decide +kernel
set_option maxRecDepth 100000 in
theorem zkc_3_0 : ∀ m ∈ [15, 16, 17, 18, 19, 20, 21, 22, 23, 24, 25], zckm m = true := by decide +kernel
set_option maxRecDepth 100000 in
theorem zkc_4_0 : ∀ m ∈ [26, 27, 28, 29, 30, 31, 32, 33, 34], zckm m = true := by decide +kernel
set_option maxRecDepth 100000 in
theorem zkc_5_0 : ∀ m ∈ [35, 36, 37, 38, 39, 40, 41, 42, 43, 44, 45, 46, 47], zckm m = true := by decide +kernel
set_option maxRecDepth 100000 in
theorem zkc_6_0 : ∀ m ∈ [48, 49, 50, 51, 52, 53, 54, 55, 56, 57], zckm m = true := by decide +kernel
set_option maxRecDepth 100000 in
theorem zkc_7_0 : ∀ m ∈ [58, 59, 60], zckm m = true := by decide +kernel
set_option maxRecDepth 100000 in
theorem zkc_8_0 : ∀ m ∈ [61, 62, 63], zckm m = true := by decide +kernel
set_option maxRecDepth 100000 in
theorem zkc_9_0 : ∀ m ∈ [64, 65, 66, 67, 68, 69, 70, 71, 72, 73, 74, 75, 76, 77, 78, 79, 80, 81, 82, 83, 84, 85, 86], zckm m = true := by decide +kernel
set_option maxRecDepth 100000 in
theorem zkc_9_23 : ∀ m ∈ [87, 88, 89, 90, 91, 92, 93, 94, 95, 96, 97, 98, 99, 100, 101, 102, 103, 104, 105, 106, 107, 108], zckm m = true := by decide +kernel
set_option maxRecDepth 100000 in
theorem zkc_10_0 : ∀ m ∈ [109, 110, 111, 112, 113, 114, 115, 116, 117, 118, 119, 120, 121, 122, 123, 124, 125, 126, 127, 128, 129, 130, 131], zckm m = true := by decide +kernel
set_option maxRecDepth 100000 in
theorem zkc_10_23 : ∀ m ∈ [132, 133, 134, 135, 136, 137, 138, 139, 140, 141, 142, 143, 144, 145, 146, 147, 148, 149, 150, 151, 152, 153, 154], zckm m = true := by decide +kernel
set_option maxRecDepth 100000 in
theorem zkc_10_46 : ∀ m ∈ [155, 156, 157, 158, 159, 160, 161, 162, 163, 164, 165, 166, 167, 168, 169, 170, 171, 172, 173, 174, 175], zckm m = true := by decide +kernel
end
section
/-! THE WORLD of the abstract machine in the heap: a list of cells, at addresses ad -/
abbrev zAD : Type := Nat → Nat → Nat
def zcv (ad : zAD) : zAV → Value
  | .inl x => .int x
  | .inr (.inl x) => .long x
  | .inr (.inr none) => .null
  | .inr (.inr (some p)) => .ref (ad p.1 p.2)
/-- the objects behind the constructors -/
def zo : List (Nat × Nat) := [(9, 0), (1, 0), (1, 1), (8, 0), (8, 1), (29, 0), (29, 1), (4, 0), (4, 1), (4, 2),
  (20, 0), (20, 1), (20, 2), (21, 0), (21, 1), (21, 2), (22, 0), (22, 1), (22, 2), (23, 0), (23, 1), (23, 2), (24, 0), (24, 1), (24, 2), (25, 0), (25, 1), (25, 2),
  (2, 0), (2, 1), (2, 2), (7, 0), (7, 1), (7, 2), (7, 3), (26, 0), (26, 1), (26, 2), (26, 3), (27, 0), (27, 1), (27, 2), (27, 3), (28, 0), (28, 1), (28, 2), (28, 3),
  (50, 0), (6, 0), (6, 1), (6, 2), (6, 3), (6, 4), (6, 5), (6, 6), (30, 0), (30, 1), (30, 2), (30, 3), (30, 4), (30, 5), (30, 6), (31, 0), (31, 1), (31, 2), (31, 3), (31, 4), (31, 5), (31, 6),
  (32, 0), (32, 1), (32, 2), (32, 3), (32, 4), (32, 5), (32, 6), (33, 0), (33, 1), (33, 2), (33, 3), (33, 4), (33, 5), (33, 6), (34, 0), (34, 1), (34, 2), (34, 3), (34, 4), (34, 5), (34, 6),
  (5, 0), (36, 0), (3, 0), (0, 0), (35, 0), (51, 0), (10, 0), (40, 0), (41, 0), (42, 0), (43, 0), (44, 0), (45, 0)]
set_option maxRecDepth 100000 in
theorem zo_nd : ∀ i, i < 103 → ∀ j, j < 103 → zo[i]? = zo[j]? → i = j := by decide +kernel
theorem zo_len : zo.length = 103 := by decide +kernel
theorem zo_inj {i j : Nat} {r : Nat × Nat} (h1 : zo[i]? = some r) (h2 : zo[j]? = some r) : i = j := by
  have l1 := (List.getElem?_eq_some_iff.mp h1).1
  have l2 := (List.getElem?_eq_some_iff.mp h2).1
  rw [zo_len] at l1 l2
  exact zo_nd i l1 j l2 (h1.trans h2.symm)
theorem zo_61 : ∀ q ∈ zo, q.1 ≠ 60 ∧ q.1 ≠ 61 := by decide +kernel
def zval (ad : zAD) (I : zMI) (G : zMR) (c i k : Nat) : Value := if zfy c k = 2 then zcv ad (.inr (.inr (G c i k))) else .int (I c i k)
def zfs (ad : zAD) (I : zMI) (G : zMR) (c i : Nat) : List Value := (List.range (znf c)).map (fun k => zval ad I G c i k)
def zce (cI cZ cS : ClassId) (ad : zAD) (I : zMI) (G : zMR) (c i : Nat) : va_E := match zsh c with
  | 0 => .inr (c, zfs ad I G c i)
  | 1 => .inl (cI, zal c, .inl (fun k => I c i k))
  | 2 => .inl (cZ, zal c, .inl (fun k => I c i k))
  | _ => .inl (cS, zal c, .inr (.inr (.inr (.inr (fun k => (G c i k).map (fun q => ad q.1 q.2))))))
def zws (cI cZ cS : ClassId) (ad : zAD) (I : zMI) (G : zMR) : va_W := zo.map (fun q => (ad q.1 q.2, zce cI cZ cS ad I G q.1 q.2))
def ztys (cI cZ cS : ClassId) : List (ClassId × FieldType) := [(cI, .int), (cZ, .boolean), (cS, .object RX6)]
def zAp (ad : zAD) (A : Nat → Prop) : Prop := (∀ q ∈ zo, A (ad q.1 q.2)) ∧ ∀ q ∈ zo, ∀ r ∈ zo, ad q.1 q.2 = ad r.1 r.2 → q = r
def zstT : List String := ["bear ", "turn ", "wind ", "price ", "fskty", "<=>"]
/-- what never changes: texts, the table, two statics of the JDK's -/
def zSt (ad : zAD) (adV : Nat → Nat) (A : Nat → Prop) (U : State) (H : Heap) : Prop :=
  vk_S 6 (zstL.map List.length) zstL (ad 60) adV A U H ∧ va_Z "EggDrop$Layers" "ABOVE" "[I" (.ref (ad 61 0)) A U H ∧ va_T .int (ad 61 0) 7 (fun j => .int (ztab j)) A U H ∧
  va_Z "java/lang/String" "COMPACT_STRINGS" "Z" (.int 1) A U H ∧ va_Zq "jdk/internal/util/Preconditions" "SIOOBE_FORMATTER" "Ljava/util/function/BiFunction;" A U H ∧
  ∀ e ∈ zSL, vk_R (zcn e.1) e.2.1 (zstT.getD e.2.2.1 "") (ad 60 e.2.2.1) U
theorem zSt.at {ad : zAD} {adV : Nat → Nat} {A : Nat → Prop} {s U : State} {H : Heap} {locs : List Loc} (h : zSt ad adV A s s.heap) (hS : va_S A s.heap H locs) (hU : U.heap = H) (hW : s.WarmedH U.vm) : zSt ad adV A U U.heap := by
  obtain ⟨h1, h2, h3, h4, h5, h6⟩ := h
  have hk : ∀ a : Nat, a < s.heap.size → ¬ A a → U.heap[a]? = s.heap[a]? := fun a b c => by rw [hU]; exact hS.2.1 a b c
  have hv := hW.alike
  exact ⟨(h1.kept hk).moved hv, (h2.kept hk).moved hv, (h3.kept hk).moved hv, (h4.kept hk).moved hv, (h5.kept hk).moved hv, fun e he => (h6 e he).warm hW⟩
theorem zSt.blind {ad : zAD} {adV : Nat → Nat} {A : Nat → Prop} {U : State} {g : JFrame} {mk : MethodId} {a : Array Value} (h : zSt ad adV A U U.heap) : zSt ad adV A (U.calling g mk a) (U.calling g mk a).heap := by
  obtain ⟨h1, h2, h3, h4, h5, h6⟩ := h
  have hv : U.vm.Alike (U.calling g mk a).vm := Vm.Alike.refl U.vm
  exact ⟨h1.moved hv, h2.moved hv, h3.moved hv, h4.moved hv, h5.moved hv, fun e he => vk_R.same (u := U) rfl (h6 e he)⟩
/-- a reference that is one of the world's -/
def zVp (p : Option (Nat × Nat)) : Prop := match p with
  | none => True
  | some q => q ∈ zo ∨ q.1 = 60 ∨ q.1 = 61 ∧ q.2 = 0
def zVv : zAV → Prop
  | .inl _ => True
  | .inr (.inl _) => True
  | .inr (.inr p) => zVp p
def zVs : List zAV → Prop
  | [] => True
  | v :: t => zVv v ∧ zVs t
def zVo : Option zAV → Prop
  | none => True
  | some v => zVv v
def zVl (L : zXL) : Prop := ∀ k v, zgl L k = some v → zVv v
def zVG (G : zMR) : Prop := ∀ q ∈ zo, ∀ k, zVp (G q.1 q.2 k)
def zwd (dC : Nat → ClassId) (dI : Nat → Nat → Nat) (cI cZ cS : ClassId) (ad : zAD) (adV : Nat → Nat) (A : Nat → Prop) (I : zMI) (G : zMR) (U : State) : Prop :=
  va_P (dC, dI) vwCl (zws cI cZ cS ad I G) U.heap ∧ va_K (dC, dI) vwCl (ztys cI cZ cS) U ∧ zSt ad adV A U U.heap ∧ zVG G
def zQ (dC : Nat → ClassId) (dI : Nat → Nat → Nat) (cI cZ cS : ClassId) (ad : zAD) (adV : Nat → Nat) (A : Nat → Prop) (r : zRS) : Array Value → State → Outcome → State → Prop := fun _ st oc t =>
  (oc = .returned (r.1.map (zcv ad)) ∧ zVo r.1 ∧ zwd dC dI cI cZ cS ad adV A r.2.1 r.2.2 t) ∧ va_F A st t
section
variable {dC : Nat → ClassId} {dI : Nat → Nat → Nat} {cI cZ cS : ClassId} {ad : zAD} {adV : Nat → Nat} {A : Nat → Prop}
theorem zws_at {I : zMI} {G : zMR} {c i : Nat} (h : (c, i) ∈ zo) : ∃ q0 : Nat, zo[q0]? = some (c, i) ∧ (zws cI cZ cS ad I G)[q0]? = some (ad c i, zce cI cZ cS ad I G c i) := by
  obtain ⟨q0, hq⟩ := List.getElem?_of_mem h
  refine ⟨q0, hq, ?_⟩
  rw [zws, List.getElem?_map, hq]
  rfl
theorem zws_D (h : zAp ad A) (I : zMI) (G : zMR) : va_D A (zws cI cZ cS ad I G) := by
  have key : ∀ (k : Nat) (q : Nat × va_E), (zws cI cZ cS ad I G)[k]? = some q → ∃ r ∈ zo, zo[k]? = some r ∧ q.1 = ad r.1 r.2 := by
    intro k q hq
    rw [zws, List.getElem?_map] at hq
    cases hr : zo[k]? with
    | none => rw [hr] at hq; cases hq
    | some r =>
      rw [hr] at hq
      cases hq
      exact ⟨r, List.mem_of_getElem? hr, rfl, rfl⟩
  refine ⟨fun i j p q hi hj hpq => ?_, fun k q hq => ?_⟩
  · obtain ⟨r1, m1, e1, f1⟩ := key i p hi
    obtain ⟨r2, m2, e2, f2⟩ := key j q hj
    have e := h.2 r1 m1 r2 m2 (by rw [← f1, ← f2]; exact hpq)
    subst e
    exact zo_inj e1 e2
  · obtain ⟨r, m, -, e⟩ := key k q hq
    rw [e]
    exact h.1 r m
theorem zws_set {I I' : zMI} {G G' : zMR} {c i q0 : Nat} {e : va_E} (hq : zo[q0]? = some (c, i)) (he : zce cI cZ cS ad I' G' c i = e) (ho : ∀ q ∈ zo, q ≠ (c, i) → zce cI cZ cS ad I' G' q.1 q.2 = zce cI cZ cS ad I G q.1 q.2) :
    (zws cI cZ cS ad I G).set q0 (ad c i, e) = zws cI cZ cS ad I' G' := by
  apply List.ext_getElem?
  intro k
  rw [List.getElem?_set]
  by_cases hk : q0 = k
  · subst hk
    rw [if_pos rfl]
    have hl : q0 < (zws cI cZ cS ad I G).length := by
      rw [zws, List.length_map]
      exact (List.getElem?_eq_some_iff.mp hq).1
    rw [if_pos hl, zws, List.getElem?_map, hq]
    subst he
    rfl
  · rw [if_neg hk, zws, zws, List.getElem?_map, List.getElem?_map]
    cases hr : zo[k]? with
    | none => rfl
    | some r =>
      have hne : r ≠ (c, i) := by
        intro e
        subst e
        exact hk (zo_inj hq hr)
      show some (ad r.1 r.2, _) = some (ad r.1 r.2, _)
      rw [ho r (List.mem_of_getElem? hr) hne]
end
theorem zvw : ∀ c, c ≤ 10 → vwCl[c]? = some (zcn c, zct c, znf c) := by
  intro c h
  match c, h with
  | 0, _ => rfl
  | 1, _ => rfl
  | 2, _ => rfl
  | 3, _ => rfl
  | 4, _ => rfl
  | 5, _ => rfl
  | 6, _ => rfl
  | 7, _ => rfl
  | 8, _ => rfl
  | 9, _ => rfl
  | 10, _ => rfl
  | n + 11, h => exact absurd h (by omega)
theorem zuw : ∀ c, c ≤ 10 → ∀ w ∈ u_ws (zcn c) (zct c) (znf c), w ∈ zgw := by
  intro c h
  match c, h with
  | 0, _ => exact zcw_in (l := wsX00) (by simp)
  | 1, _ => exact zcw_in (l := wsX10) (by simp)
  | 2, _ => exact zcw_in (l := wsX20) (by simp)
  | 3, _ => exact zcw_in (l := wsX30) (by simp)
  | 4, _ => exact zcw_in (l := wsX40) (by simp)
  | 5, _ => exact zcw_in (l := wsX50) (by simp)
  | 6, _ => exact zcw_in (l := wsX60) (by simp)
  | 7, _ => exact zcw_in (l := wsX70) (by simp)
  | 8, _ => exact zcw_in (l := wsX80) (by simp)
  | 9, _ => exact zcw_in (l := wsX90) (by simp)
  | 10, _ => exact zcw_in (l := wsX100) (by simp)
  | n + 11, h => exact absurd h (by omega)
theorem zcl_own : ∀ c, c ≤ 10 → ∀ k, k < znf c → (zct c k).1 = zcn c := by
  intro c h
  match c, h with
  | 0, _ => decide +kernel
  | 1, _ => decide +kernel
  | 2, _ => decide +kernel
  | 3, _ => decide +kernel
  | 4, _ => decide +kernel
  | 5, _ => decide +kernel
  | 6, _ => decide +kernel
  | 7, _ => decide +kernel
  | 8, _ => decide +kernel
  | 9, _ => decide +kernel
  | 10, _ => decide +kernel
  | n + 11, h => exact absurd h (by omega)
def ztyL : List (Nat → FieldType) := [tyX0, tyX1, tyX2, tyX3, tyX4, tyX5, tyX6, tyX7, tyX8, tyX9, tyX10]
def zty (c : Nat) : Nat → FieldType := ztyL.getD c tyX0
theorem zty_ok : ∀ c, c ≤ 10 → ∀ k, k < znf c → parseFieldDescriptor (zct c k).2.2.1 = some (zty c k) := by
  intro c h
  match c, h with
  | 0, _ => exact tyX0_ok
  | 1, _ => exact tyX1_ok
  | 2, _ => exact tyX2_ok
  | 3, _ => exact tyX3_ok
  | 4, _ => exact tyX4_ok
  | 5, _ => exact tyX5_ok
  | 6, _ => exact tyX6_ok
  | 7, _ => exact tyX7_ok
  | 8, _ => exact tyX8_ok
  | 9, _ => exact tyX9_ok
  | 10, _ => exact tyX10_ok
  | n + 11, h => exact absurd h (by omega)
theorem znm : ∀ c, c ≤ 10 → ∀ a, a < znf c → ∀ b, b < znf c → a ≠ b → (zct c a).2.1 ≠ (zct c b).2.1 := by
  intro c h
  match c, h with
  | 0, _ => exact nmX0
  | 1, _ => exact nmX1
  | 2, _ => exact nmX2
  | 3, _ => exact nmX3
  | 4, _ => exact nmX4
  | 5, _ => exact nmX5
  | 6, _ => exact nmX6
  | 7, _ => exact nmX7
  | 8, _ => exact nmX8
  | 9, _ => exact nmX9
  | 10, _ => exact nmX10
  | n + 11, h => exact absurd h (by omega)
def ztk (t : FieldType) : Nat := match t with
  | .int => 0
  | .boolean => 1
  | .object _ => 2
  | .array _ => 2
  | _ => 3
theorem ztk_ok : ∀ c, c ≤ 10 → ∀ k, k < znf c → ztk (zty c k) = zfy c k := by
  intro c h
  match c, h with
  | 0, _ => decide +kernel
  | 1, _ => decide +kernel
  | 2, _ => decide +kernel
  | 3, _ => decide +kernel
  | 4, _ => decide +kernel
  | 5, _ => decide +kernel
  | 6, _ => decide +kernel
  | 7, _ => decide +kernel
  | 8, _ => decide +kernel
  | 9, _ => decide +kernel
  | 10, _ => decide +kernel
  | n + 11, h => exact absurd h (by omega)
/-! locals -/
theorem zs1_ok : ∀ (L : zXL) (k : Nat) (v : zAV) (L' : zXL), zs1 L k v = some L' → k < L.length ∧ L'.length = L.length ∧ zgl L' k = some v ∧ (∀ j, j ≠ k → zgl L' j = zgl L j) ∧ ∀ j, j + 1 = k → zlg (zgl L j) = false := by
  intro L
  induction L with
  | nil => intro k v L' h; cases h
  | cons a t ih =>
    intro k v L' h
    cases k with
    | zero =>
      cases h
      refine ⟨by simp, by simp, rfl, fun j hj => ?_, fun j hj => by omega⟩
      cases j with
      | zero => exact absurd rfl hj
      | succ j => rfl
    | succ k =>
      rw [zs1] at h
      split at h
      · cases h
      · rename_i hn
        cases ht : zs1 t k v with
        | none => rw [ht] at h; cases h
        | some t' =>
          rw [ht] at h
          cases h
          obtain ⟨h1, h2, h3, h4, h5⟩ := ih k v t' ht
          refine ⟨by simp; omega, by simp [h2], h3, fun j hj => ?_, fun j hj => ?_⟩
          · cases j with
            | zero => rfl
            | succ j => exact h4 j (by omega)
          · cases j with
            | zero =>
              have hk : k = 0 := by omega
              subst hk
              show zlg a = false
              cases ha : zlg a with
              | false => rfl
              | true => rw [ha] at hn; exact absurd rfl hn
            | succ j => exact h5 j (by omega)
theorem zs2_ok : ∀ (L : zXL) (k : Nat) (v : zAV) (L' : zXL), zs2 L k v = some L' → k + 1 < L.length ∧ L'.length = L.length ∧ zgl L' k = some v ∧ zgl L' (k + 1) = none ∧ (∀ j, j ≠ k → j ≠ k + 1 → zgl L' j = zgl L j) ∧ ∀ j, j + 1 = k → zlg (zgl L j) = false := by
  intro L
  induction L with
  | nil => intro k v L' h; cases k <;> cases h
  | cons a t ih =>
    intro k v L' h
    cases k with
    | zero =>
      cases t with
      | nil => cases h
      | cons b t =>
        cases h
        refine ⟨by simp, by simp, rfl, rfl, fun j h1 h2 => ?_, fun j hj => by omega⟩
        cases j with
        | zero => exact absurd rfl h1
        | succ j =>
          cases j with
          | zero => exact absurd rfl h2
          | succ j => rfl
    | succ k =>
      have h' : (if (zlg a && k == 0) = true then none else match zs2 t k v with
        | some t' => some (a :: t')
        | none => none) = some L' := by
        cases t <;> exact h
      split at h'
      · cases h'
      · rename_i hn
        cases ht : zs2 t k v with
        | none => rw [ht] at h'; cases h'
        | some t' =>
          rw [ht] at h'
          cases h'
          obtain ⟨h1, h2, h3, h3b, h4, h5⟩ := ih k v t' ht
          refine ⟨by simp; omega, by simp [h2], h3, h3b, fun j hj hj2 => ?_, fun j hj => ?_⟩
          · cases j with
            | zero => rfl
            | succ j => exact h4 j (by omega) (by omega)
          · cases j with
            | zero =>
              have hk : k = 0 := by omega
              subst hk
              show zlg a = false
              cases ha : zlg a with
              | false => rfl
              | true => rw [ha] at hn; exact absurd rfl hn
            | succ j => exact h5 j (by omega)
theorem zgl_lt : ∀ {L : zXL} {k : Nat} {v : zAV}, zgl L k = some v → k < L.length := by
  intro L
  induction L with
  | nil => intro k v h; cases h
  | cons a t ih =>
    intro k v h
    cases k with
    | zero => simp
    | succ k =>
      have := ih (k := k) h
      simp
      omega
def zla (ad : zAD) (L : zXL) : List (Nat × Value) := (List.range L.length).filterMap (fun k => (zgl L k).map (fun v => (k, zcv ad v)))
theorem zla_in {ad : zAD} {L : zXL} {q : Nat × Value} : q ∈ zla ad L ↔ ∃ v, zgl L q.1 = some v ∧ q.2 = zcv ad v := by
  rw [zla, List.mem_filterMap]
  constructor
  · rintro ⟨k, -, h⟩
    cases hv : zgl L k with
    | none => rw [hv] at h; cases h
    | some v => rw [hv] at h; cases h; exact ⟨v, hv, rfl⟩
  · rintro ⟨v, h1, h2⟩
    refine ⟨q.1, List.mem_range.mpr (zgl_lt h1), ?_⟩
    rw [h1]
    obtain ⟨a, b⟩ := q
    cases h2
    rfl
def zLH (ad : zAD) (ls : Array Slot) (nL : Nat) (L : zXL) : Prop := L.length = nL ∧ lv_has ls nL (zla ad L)
theorem zLH.get {ad : zAD} {ls : Array Slot} {nL : Nat} {L : zXL} (h : zLH ad ls nL L) {k : Nat} {v : zAV} (hk : zgl L k = some v) : ls[k]? = some (.val (zcv ad v)) := h.2.2.2 (k, zcv ad v) (zla_in.mpr ⟨v, hk, rfl⟩)
theorem zcat {ad : zAD} {v : zAV} (h : zlg (some v) = false) : (zcv ad v).category = 1 := by
  rcases v with x | x | x | x
  · rfl
  · cases h
  · rfl
  · rfl
theorem zLH.put1 {ad : zAD} {nL : Nat} {L L' : zXL} {k : Nat} {v : zAV} (hl : L.length = nL) (hs : zs1 L k v = some L') : ∀ ls' : Array Slot, lv_has ls' nL ((k, zcv ad v) :: (zla ad L).filter (fun q => !(q.1 == k) && !(q.1 + 1 == k && q.2.category == 2))) → zLH ad ls' nL L' := by
  intro ls' h
  obtain ⟨h1, h2, h3, h4, h5⟩ := zs1_ok L k v L' hs
  refine ⟨by omega, h.1, h.2.1, fun q hq => h.2.2 q ?_⟩
  obtain ⟨w, e1, e2⟩ := zla_in.mp hq
  by_cases hk : q.1 = k
  · rw [hk, h3] at e1
    cases e1
    obtain ⟨a, b⟩ := q
    cases e2
    cases hk
    exact List.mem_cons_self
  · refine List.mem_cons_of_mem _ (List.mem_filter.mpr ⟨?_, ?_⟩)
    · rw [h4 _ hk] at e1
      exact zla_in.mpr ⟨w, e1, e2⟩
    · rw [h4 _ hk] at e1
      by_cases hj : q.1 + 1 = k
      · have := h5 _ hj
        rw [e1] at this
        simp [hk, e2, zcat (ad := ad) this]
      · simp [hk, hj]
theorem zLH.put2 {ad : zAD} {nL : Nat} {L L' : zXL} {k : Nat} {v : zAV} (hl : L.length = nL) (hs : zs2 L k v = some L') : ∀ ls' : Array Slot, lv_has ls' nL ((k, zcv ad v) :: (zla ad L).filter (fun q => !(q.1 == k) && (!(q.1 == k + 1) && !(q.1 + 1 == k && q.2.category == 2)))) → zLH ad ls' nL L' := by
  intro ls' h
  obtain ⟨h1, h2, h3, h3b, h4, h5⟩ := zs2_ok L k v L' hs
  refine ⟨by omega, h.1, h.2.1, fun q hq => h.2.2 q ?_⟩
  obtain ⟨w, e1, e2⟩ := zla_in.mp hq
  by_cases hk : q.1 = k
  · rw [hk, h3] at e1
    cases e1
    obtain ⟨a, b⟩ := q
    cases e2
    cases hk
    exact List.mem_cons_self
  · by_cases hk2 : q.1 = k + 1
    · rw [hk2, h3b] at e1
      cases e1
    · refine List.mem_cons_of_mem _ (List.mem_filter.mpr ⟨?_, ?_⟩)
      · rw [h4 _ hk hk2] at e1
        exact zla_in.mpr ⟨w, e1, e2⟩
      · rw [h4 _ hk hk2] at e1
        by_cases hj : q.1 + 1 = k
        · have := h5 _ hj
          rw [e1] at this
          simp [hk, hk2, e2, zcat (ad := ad) this]
        · simp [hk, hk2, hj]
theorem zVl.put {L L' : zXL} {k : Nat} {v : zAV} (h : zVl L) (hv : zVv v) (hk : zgl L' k = some v) (ho : ∀ j w, j ≠ k → zgl L' j = some w → zgl L j = some w) : zVl L' := by
  intro j w hj
  by_cases e : j = k
  · subst e
    rw [hk] at hj
    cases hj
    exact hv
  · exact h j w (ho j w e hj)
theorem zVl.put1 {L L' : zXL} {k : Nat} {v : zAV} (h : zVl L) (hv : zVv v) (hs : zs1 L k v = some L') : zVl L' := by
  obtain ⟨-, -, h3, h4, -⟩ := zs1_ok L k v L' hs
  exact h.put hv h3 (fun j w hj e => by rw [h4 j hj] at e; exact e)
theorem zVl.put2 {L L' : zXL} {k : Nat} {v : zAV} (h : zVl L) (hv : zVv v) (hs : zs2 L k v = some L') : zVl L' := by
  obtain ⟨-, -, h3, h3b, h4, -⟩ := zs2_ok L k v L' hs
  refine h.put hv h3 (fun j w hj e => ?_)
  by_cases e2 : j = k + 1
  · rw [e2, h3b] at e; cases e
  · rw [h4 j hj e2] at e; exact e
end
section
/-! AN INSTRUCTION OF THE ABSTRACT MACHINE IS ONE OF THE MACHINE'S -/
/-- what stands fast in a method's frame -/
def zCx (dC : Nat → ClassId) (dI : Nat → Nat → Nat) (cI cZ cS : ClassId) (ad : zAD) (adV : Nat → Nat) (A : Nat → Prop) (p : Program) (R : Room) (s : State) (m : MethodId) (args : Array Value) (meth : Method) (c : Code) (d own ret nL : Nat) (cc : ByteArray) : Prop :=
  p.tables.exec = Jvm.exec ∧ c.code = cc ∧ c.maxLocals = nL ∧ s.vm.findClass (zcn own) = some m.cls ∧ (∀ w ∈ zgw, w.before args s = true) ∧ meth.locks = false ∧ zrk ret meth.sig.returnType = true ∧
  va_K (dC, dI) vwCl (ztys cI cZ cS) s ∧ zSt ad adV A s s.heap ∧ zAp ad A ∧ (d + 8 ≤ R.frames ∧ 64 * d + 512 ≤ R.locals)
/-- at pc, with these locals, this stack and this memory, the machine comes to r -/
def zP (dC : Nat → ClassId) (dI : Nat → Nat → Nat) (cI cZ cS : ClassId) (ad : zAD) (adV : Nat → Nat) (A : Nat → Prop) (p : Program) (l : Launch) (e : Env) (R : Room) (s : State) (m : MethodId) (args : Array Value) (below : List Frame) (meth : Method) (c : Code) (nL : Nat) (r : zRS) (pc : Nat) (L : zXL) (S : List zAV) (I : zMI) (G : zMR) : Prop :=
  ∀ (H : Heap) (locs : List Loc) (ls : Array Slot), va_P (dC, dI) vwCl (zws cI cZ cS ad I G) H → va_S A s.heap H locs → zLH ad ls nL L → zVG G → zVs S → zVl L →
    W p l e R s m args below meth c H locs 0 0 (MQ below (zQ dC dI cI cZ cS ad adV A r) args s 0 0 A) (F0 m pc ls (S.map (zcv ad)))
/-- an event is one of the machine's -/
def zGd (pcs : List Nat) (pc npc : Nat) (P : zRS → Nat → zXL → List zAV → zMI → zMR → Prop) (L : zXL) (S : List zAV) (I : zMI) (G : zMR) (ev : zEV) : Prop := match ev with
  | .inl (none, (L', (S', (I', G')))) => ∀ r, P r npc L' S' I' G' → P r pc L S I G
  | .inl (some b, (L', (S', (I', G')))) => b < pcs.length ∧ ∀ r, P r (zgn pcs b) L' S' I' G' → P r pc L S I G
  | .inr (.inl _) => False
  | .inr (.inr none) => True
  | .inr (.inr (some r)) => P r pc L S I G
section
variable {dC : Nat → ClassId} {dI : Nat → Nat → Nat} {cI cZ cS : ClassId} {ad : zAD} {adV : Nat → Nat} {A : Nat → Prop} {p : Program} {l : Launch} {e : Env} {R : Room} {s : State} {m : MethodId} {args : Array Value} {below : List Frame} {meth : Method} {c : Code} {d own ret nL : Nat} {cc : ByteArray}
variable {pcs : List Nat} {pc npc : Nat} {L : zXL} {S : List zAV} {I : zMI} {G : zMR}
theorem zx_iadd (X : zCx dC dI cI cZ cS ad adV A p R s m args meth c d own ret nL cc)  (hdg : decode cc pc = .ok (.iadd, 1)) : zGd pcs pc (pc + 1) (zP dC dI cI cZ cS ad adV A p l e R s m args below meth c nL) L S I G (zex (60, 0, 0, 0) L S I G) := by
  obtain ⟨hx, hb, hml, hown, hts, hlk, hrt, hK, hSt, hAp, hR⟩ := X
  rcases S with _ | ⟨v1, S⟩
  · exact trivial
  rcases v1 with x1 | x1 | x1 | x1
  rotate_left
  · exact trivial
  · exact trivial
  · exact trivial
  rcases S with _ | ⟨v2, S⟩
  · exact trivial
  rcases v2 with x2 | x2 | x2 | x2
  rotate_left
  · exact trivial
  · exact trivial
  · exact trivial
  exact fun r k H locs ls hP hS hl hG hv hL => lv_iadd hx hb hdg (k H locs ls hP hS hl hG ⟨trivial, hv.2.2⟩ hL)
theorem zx_isub (X : zCx dC dI cI cZ cS ad adV A p R s m args meth c d own ret nL cc)  (hdg : decode cc pc = .ok (.isub, 1)) : zGd pcs pc (pc + 1) (zP dC dI cI cZ cS ad adV A p l e R s m args below meth c nL) L S I G (zex (61, 0, 0, 0) L S I G) := by
  obtain ⟨hx, hb, hml, hown, hts, hlk, hrt, hK, hSt, hAp, hR⟩ := X
  rcases S with _ | ⟨v1, S⟩
  · exact trivial
  rcases v1 with x1 | x1 | x1 | x1
  rotate_left
  · exact trivial
  · exact trivial
  · exact trivial
  rcases S with _ | ⟨v2, S⟩
  · exact trivial
  rcases v2 with x2 | x2 | x2 | x2
  rotate_left
  · exact trivial
  · exact trivial
  · exact trivial
  exact fun r k H locs ls hP hS hl hG hv hL => lv_isub hx hb hdg (k H locs ls hP hS hl hG ⟨trivial, hv.2.2⟩ hL)
theorem zx_imul (X : zCx dC dI cI cZ cS ad adV A p R s m args meth c d own ret nL cc)  (hdg : decode cc pc = .ok (.imul, 1)) : zGd pcs pc (pc + 1) (zP dC dI cI cZ cS ad adV A p l e R s m args below meth c nL) L S I G (zex (62, 0, 0, 0) L S I G) := by
  obtain ⟨hx, hb, hml, hown, hts, hlk, hrt, hK, hSt, hAp, hR⟩ := X
  rcases S with _ | ⟨v1, S⟩
  · exact trivial
  rcases v1 with x1 | x1 | x1 | x1
  rotate_left
  · exact trivial
  · exact trivial
  · exact trivial
  rcases S with _ | ⟨v2, S⟩
  · exact trivial
  rcases v2 with x2 | x2 | x2 | x2
  rotate_left
  · exact trivial
  · exact trivial
  · exact trivial
  exact fun r k H locs ls hP hS hl hG hv hL => lv_imul hx hb hdg (k H locs ls hP hS hl hG ⟨trivial, hv.2.2⟩ hL)
theorem zx_iand (X : zCx dC dI cI cZ cS ad adV A p R s m args meth c d own ret nL cc)  (hdg : decode cc pc = .ok (.iand, 1)) : zGd pcs pc (pc + 1) (zP dC dI cI cZ cS ad adV A p l e R s m args below meth c nL) L S I G (zex (63, 0, 0, 0) L S I G) := by
  obtain ⟨hx, hb, hml, hown, hts, hlk, hrt, hK, hSt, hAp, hR⟩ := X
  rcases S with _ | ⟨v1, S⟩
  · exact trivial
  rcases v1 with x1 | x1 | x1 | x1
  rotate_left
  · exact trivial
  · exact trivial
  · exact trivial
  rcases S with _ | ⟨v2, S⟩
  · exact trivial
  rcases v2 with x2 | x2 | x2 | x2
  rotate_left
  · exact trivial
  · exact trivial
  · exact trivial
  exact fun r k H locs ls hP hS hl hG hv hL => lv_iand hx hb hdg (k H locs ls hP hS hl hG ⟨trivial, hv.2.2⟩ hL)
theorem zx_ior (X : zCx dC dI cI cZ cS ad adV A p R s m args meth c d own ret nL cc)  (hdg : decode cc pc = .ok (.ior, 1)) : zGd pcs pc (pc + 1) (zP dC dI cI cZ cS ad adV A p l e R s m args below meth c nL) L S I G (zex (64, 0, 0, 0) L S I G) := by
  obtain ⟨hx, hb, hml, hown, hts, hlk, hrt, hK, hSt, hAp, hR⟩ := X
  rcases S with _ | ⟨v1, S⟩
  · exact trivial
  rcases v1 with x1 | x1 | x1 | x1
  rotate_left
  · exact trivial
  · exact trivial
  · exact trivial
  rcases S with _ | ⟨v2, S⟩
  · exact trivial
  rcases v2 with x2 | x2 | x2 | x2
  rotate_left
  · exact trivial
  · exact trivial
  · exact trivial
  exact fun r k H locs ls hP hS hl hG hv hL => lv_ior hx hb hdg (k H locs ls hP hS hl hG ⟨trivial, hv.2.2⟩ hL)
theorem zx_ixor (X : zCx dC dI cI cZ cS ad adV A p R s m args meth c d own ret nL cc)  (hdg : decode cc pc = .ok (.ixor, 1)) : zGd pcs pc (pc + 1) (zP dC dI cI cZ cS ad adV A p l e R s m args below meth c nL) L S I G (zex (65, 0, 0, 0) L S I G) := by
  obtain ⟨hx, hb, hml, hown, hts, hlk, hrt, hK, hSt, hAp, hR⟩ := X
  rcases S with _ | ⟨v1, S⟩
  · exact trivial
  rcases v1 with x1 | x1 | x1 | x1
  rotate_left
  · exact trivial
  · exact trivial
  · exact trivial
  rcases S with _ | ⟨v2, S⟩
  · exact trivial
  rcases v2 with x2 | x2 | x2 | x2
  rotate_left
  · exact trivial
  · exact trivial
  · exact trivial
  exact fun r k H locs ls hP hS hl hG hv hL => lv_ixor hx hb hdg (k H locs ls hP hS hl hG ⟨trivial, hv.2.2⟩ hL)
theorem zx_ishl (X : zCx dC dI cI cZ cS ad adV A p R s m args meth c d own ret nL cc)  (hdg : decode cc pc = .ok (.ishl, 1)) : zGd pcs pc (pc + 1) (zP dC dI cI cZ cS ad adV A p l e R s m args below meth c nL) L S I G (zex (66, 0, 0, 0) L S I G) := by
  obtain ⟨hx, hb, hml, hown, hts, hlk, hrt, hK, hSt, hAp, hR⟩ := X
  rcases S with _ | ⟨v1, S⟩
  · exact trivial
  rcases v1 with x1 | x1 | x1 | x1
  rotate_left
  · exact trivial
  · exact trivial
  · exact trivial
  rcases S with _ | ⟨v2, S⟩
  · exact trivial
  rcases v2 with x2 | x2 | x2 | x2
  rotate_left
  · exact trivial
  · exact trivial
  · exact trivial
  exact fun r k H locs ls hP hS hl hG hv hL => lv_ishl hx hb hdg (k H locs ls hP hS hl hG ⟨trivial, hv.2.2⟩ hL)
theorem zx_ishr (X : zCx dC dI cI cZ cS ad adV A p R s m args meth c d own ret nL cc)  (hdg : decode cc pc = .ok (.ishr, 1)) : zGd pcs pc (pc + 1) (zP dC dI cI cZ cS ad adV A p l e R s m args below meth c nL) L S I G (zex (67, 0, 0, 0) L S I G) := by
  obtain ⟨hx, hb, hml, hown, hts, hlk, hrt, hK, hSt, hAp, hR⟩ := X
  rcases S with _ | ⟨v1, S⟩
  · exact trivial
  rcases v1 with x1 | x1 | x1 | x1
  rotate_left
  · exact trivial
  · exact trivial
  · exact trivial
  rcases S with _ | ⟨v2, S⟩
  · exact trivial
  rcases v2 with x2 | x2 | x2 | x2
  rotate_left
  · exact trivial
  · exact trivial
  · exact trivial
  exact fun r k H locs ls hP hS hl hG hv hL => lv_ishr hx hb hdg (k H locs ls hP hS hl hG ⟨trivial, hv.2.2⟩ hL)
theorem zx_idiv (X : zCx dC dI cI cZ cS ad adV A p R s m args meth c d own ret nL cc)  (hdg : decode cc pc = .ok (.idiv, 1)) : zGd pcs pc (pc + 1) (zP dC dI cI cZ cS ad adV A p l e R s m args below meth c nL) L S I G (zex (6, 0, 0, 0) L S I G) := by
  obtain ⟨hx, hb, hml, hown, hts, hlk, hrt, hK, hSt, hAp, hR⟩ := X
  rcases S with _ | ⟨v1, S⟩
  · exact trivial
  rcases v1 with x1 | x1 | x1 | x1
  rotate_left
  · exact trivial
  · exact trivial
  · exact trivial
  rcases S with _ | ⟨v2, S⟩
  · exact trivial
  rcases v2 with x2 | x2 | x2 | x2
  rotate_left
  · exact trivial
  · exact trivial
  · exact trivial
  by_cases h0 : x1 = 0
  · show zGd _ _ _ _ _ _ _ _ (if ¬ x1 = 0 then _ else _)
    rw [if_neg (fun q => q h0)]
    exact trivial
  · show zGd _ _ _ _ _ _ _ _ (if ¬ x1 = 0 then _ else _)
    rw [if_pos h0]
    exact fun r k H locs ls hP hS hl hG hv hL => lv_idiv hx hb hdg h0 (k H locs ls hP hS hl hG ⟨trivial, hv.2.2⟩ hL)
theorem zx_irem (X : zCx dC dI cI cZ cS ad adV A p R s m args meth c d own ret nL cc)  (hdg : decode cc pc = .ok (.irem, 1)) : zGd pcs pc (pc + 1) (zP dC dI cI cZ cS ad adV A p l e R s m args below meth c nL) L S I G (zex (7, 0, 0, 0) L S I G) := by
  obtain ⟨hx, hb, hml, hown, hts, hlk, hrt, hK, hSt, hAp, hR⟩ := X
  rcases S with _ | ⟨v1, S⟩
  · exact trivial
  rcases v1 with x1 | x1 | x1 | x1
  rotate_left
  · exact trivial
  · exact trivial
  · exact trivial
  rcases S with _ | ⟨v2, S⟩
  · exact trivial
  rcases v2 with x2 | x2 | x2 | x2
  rotate_left
  · exact trivial
  · exact trivial
  · exact trivial
  by_cases h0 : x1 = 0
  · show zGd _ _ _ _ _ _ _ _ (if ¬ x1 = 0 then _ else _)
    rw [if_neg (fun q => q h0)]
    exact trivial
  · show zGd _ _ _ _ _ _ _ _ (if ¬ x1 = 0 then _ else _)
    rw [if_pos h0]
    exact fun r k H locs ls hP hS hl hG hv hL => lv_irem hx hb hdg h0 (k H locs ls hP hS hl hG ⟨trivial, hv.2.2⟩ hL)
theorem zx_ldiv (X : zCx dC dI cI cZ cS ad adV A p R s m args meth c d own ret nL cc)  (hdg : decode cc pc = .ok (.ldiv, 1)) : zGd pcs pc (pc + 1) (zP dC dI cI cZ cS ad adV A p l e R s m args below meth c nL) L S I G (zex (36, 0, 0, 0) L S I G) := by
  obtain ⟨hx, hb, hml, hown, hts, hlk, hrt, hK, hSt, hAp, hR⟩ := X
  rcases S with _ | ⟨v1, S⟩
  · exact trivial
  rcases v1 with x1 | x1 | x1 | x1
  · exact trivial
  rotate_left
  · exact trivial
  · exact trivial
  rcases S with _ | ⟨v2, S⟩
  · exact trivial
  rcases v2 with x2 | x2 | x2 | x2
  · exact trivial
  rotate_left
  · exact trivial
  · exact trivial
  by_cases h0 : x1 = 0
  · show zGd _ _ _ _ _ _ _ _ (if ¬ x1 = 0 then _ else _)
    rw [if_neg (fun q => q h0)]
    exact trivial
  · show zGd _ _ _ _ _ _ _ _ (if ¬ x1 = 0 then _ else _)
    rw [if_pos h0]
    exact fun r k H locs ls hP hS hl hG hv hL => lv_ldiv hx hb hdg h0 (k H locs ls hP hS hl hG ⟨trivial, hv.2.2⟩ hL)
theorem zx_lrem (X : zCx dC dI cI cZ cS ad adV A p R s m args meth c d own ret nL cc)  (hdg : decode cc pc = .ok (.lrem, 1)) : zGd pcs pc (pc + 1) (zP dC dI cI cZ cS ad adV A p l e R s m args below meth c nL) L S I G (zex (35, 0, 0, 0) L S I G) := by
  obtain ⟨hx, hb, hml, hown, hts, hlk, hrt, hK, hSt, hAp, hR⟩ := X
  rcases S with _ | ⟨v1, S⟩
  · exact trivial
  rcases v1 with x1 | x1 | x1 | x1
  · exact trivial
  rotate_left
  · exact trivial
  · exact trivial
  rcases S with _ | ⟨v2, S⟩
  · exact trivial
  rcases v2 with x2 | x2 | x2 | x2
  · exact trivial
  rotate_left
  · exact trivial
  · exact trivial
  by_cases h0 : x1 = 0
  · show zGd _ _ _ _ _ _ _ _ (if ¬ x1 = 0 then _ else _)
    rw [if_neg (fun q => q h0)]
    exact trivial
  · show zGd _ _ _ _ _ _ _ _ (if ¬ x1 = 0 then _ else _)
    rw [if_pos h0]
    exact fun r k H locs ls hP hS hl hG hv hL => lv_lrem hx hb hdg h0 (k H locs ls hP hS hl hG ⟨trivial, hv.2.2⟩ hL)
theorem zx_ineg (X : zCx dC dI cI cZ cS ad adV A p R s m args meth c d own ret nL cc)  (hdg : decode cc pc = .ok (.ineg, 1)) : zGd pcs pc (pc + 1) (zP dC dI cI cZ cS ad adV A p l e R s m args below meth c nL) L S I G (zex (8, 0, 0, 0) L S I G) := by
  obtain ⟨hx, hb, hml, hown, hts, hlk, hrt, hK, hSt, hAp, hR⟩ := X
  rcases S with _ | ⟨v1, S⟩
  · exact trivial
  rcases v1 with x1 | x1 | x1 | x1
  rotate_left
  · exact trivial
  · exact trivial
  · exact trivial
  exact fun r k H locs ls hP hS hl hG hv hL => lv_ineg hx hb hdg (k H locs ls hP hS hl hG ⟨trivial, hv.2⟩ hL)
theorem zx_ladd (X : zCx dC dI cI cZ cS ad adV A p R s m args meth c d own ret nL cc)  (hdg : decode cc pc = .ok (.ladd, 1)) : zGd pcs pc (pc + 1) (zP dC dI cI cZ cS ad adV A p l e R s m args below meth c nL) L S I G (zex (34, 0, 0, 0) L S I G) := by
  obtain ⟨hx, hb, hml, hown, hts, hlk, hrt, hK, hSt, hAp, hR⟩ := X
  rcases S with _ | ⟨v1, S⟩
  · exact trivial
  rcases v1 with x1 | x1 | x1 | x1
  · exact trivial
  rotate_left
  · exact trivial
  · exact trivial
  rcases S with _ | ⟨v2, S⟩
  · exact trivial
  rcases v2 with x2 | x2 | x2 | x2
  · exact trivial
  rotate_left
  · exact trivial
  · exact trivial
  exact fun r k H locs ls hP hS hl hG hv hL => lv_ladd hx hb hdg (k H locs ls hP hS hl hG ⟨trivial, hv.2.2⟩ hL)
theorem zx_lcmp (X : zCx dC dI cI cZ cS ad adV A p R s m args meth c d own ret nL cc)  (hdg : decode cc pc = .ok (.lcmp, 1)) : zGd pcs pc (pc + 1) (zP dC dI cI cZ cS ad adV A p l e R s m args below meth c nL) L S I G (zex (37, 0, 0, 0) L S I G) := by
  obtain ⟨hx, hb, hml, hown, hts, hlk, hrt, hK, hSt, hAp, hR⟩ := X
  rcases S with _ | ⟨v1, S⟩
  · exact trivial
  rcases v1 with x1 | x1 | x1 | x1
  · exact trivial
  rotate_left
  · exact trivial
  · exact trivial
  rcases S with _ | ⟨v2, S⟩
  · exact trivial
  rcases v2 with x2 | x2 | x2 | x2
  · exact trivial
  rotate_left
  · exact trivial
  · exact trivial
  exact fun r k H locs ls hP hS hl hG hv hL => W.lcmp hx hb hdg (k H locs ls hP hS hl hG ⟨trivial, hv.2.2⟩ hL)
theorem zx_i2l (X : zCx dC dI cI cZ cS ad adV A p R s m args meth c d own ret nL cc)  (hdg : decode cc pc = .ok (.i2l, 1)) : zGd pcs pc (pc + 1) (zP dC dI cI cZ cS ad adV A p l e R s m args below meth c nL) L S I G (zex (33, 0, 0, 0) L S I G) := by
  obtain ⟨hx, hb, hml, hown, hts, hlk, hrt, hK, hSt, hAp, hR⟩ := X
  rcases S with _ | ⟨v1, S⟩
  · exact trivial
  rcases v1 with x1 | x1 | x1 | x1
  rotate_left
  · exact trivial
  · exact trivial
  · exact trivial
  exact fun r k H locs ls hP hS hl hG hv hL => lv_i2l hx hb hdg rfl (k H locs ls hP hS hl hG ⟨trivial, hv.2⟩ hL)
theorem zx_iconst (X : zCx dC dI cI cZ cS ad adV A p R s m args meth c d own ret nL cc) {n : Int} (hdg : decode cc pc = .ok (.iconst n, 1)) : zGd pcs pc (pc + 1) (zP dC dI cI cZ cS ad adV A p l e R s m args below meth c nL) L S I G (zex (3, 0, 0, Int32.ofInt n) L S I G) := by
  obtain ⟨hx, hb, hml, hown, hts, hlk, hrt, hK, hSt, hAp, hR⟩ := X
  exact fun r k H locs ls hP hS hl hG hv hL => lv_iconst hx hb hdg rfl (k H locs ls hP hS hl hG ⟨trivial, hv⟩ hL)
theorem zx_bipush (X : zCx dC dI cI cZ cS ad adV A p R s m args meth c d own ret nL cc) {n : Int} (hdg : decode cc pc = .ok (.bipush n, 2)) : zGd pcs pc (pc + 2) (zP dC dI cI cZ cS ad adV A p l e R s m args below meth c nL) L S I G (zex (3, 0, 0, (Int8.ofInt n).toInt32) L S I G) := by
  obtain ⟨hx, hb, hml, hown, hts, hlk, hrt, hK, hSt, hAp, hR⟩ := X
  exact fun r k H locs ls hP hS hl hG hv hL => lv_bipush hx hb hdg rfl (k H locs ls hP hS hl hG ⟨trivial, hv⟩ hL)
theorem zx_sipush (X : zCx dC dI cI cZ cS ad adV A p R s m args meth c d own ret nL cc) {n : Int} (hdg : decode cc pc = .ok (.sipush n, 3)) : zGd pcs pc (pc + 3) (zP dC dI cI cZ cS ad adV A p l e R s m args below meth c nL) L S I G (zex (3, 0, 0, (Int16.ofInt n).toInt32) L S I G) := by
  obtain ⟨hx, hb, hml, hown, hts, hlk, hrt, hK, hSt, hAp, hR⟩ := X
  exact fun r k H locs ls hP hS hl hG hv hL => lv_sipush hx hb hdg rfl (k H locs ls hP hS hl hG ⟨trivial, hv⟩ hL)
theorem zx_lconst (X : zCx dC dI cI cZ cS ad adV A p R s m args meth c d own ret nL cc) {n : Fin 2} (hdg : decode cc pc = .ok (.lconst n, 1)) : zGd pcs pc (pc + 1) (zP dC dI cI cZ cS ad adV A p l e R s m args below meth c nL) L S I G (zex (32, 0, 0, Int32.ofNat n.val) L S I G) := by
  obtain ⟨hx, hb, hml, hown, hts, hlk, hrt, hK, hSt, hAp, hR⟩ := X
  exact fun r k H locs ls hP hS hl hG hv hL => lv_lconst hx hb hdg (by rcases n with ⟨_ | _ | n, hn⟩ <;> first | rfl | exact absurd hn (by omega)) (k H locs ls hP hS hl hG ⟨trivial, hv⟩ hL)
theorem zx_iload (X : zCx dC dI cI cZ cS ad adV A p R s m args meth c d own ret nL cc) {k : Nat} (hdg : decode cc pc = .ok (.iload k, 2)) : zGd pcs pc (pc + 2) (zP dC dI cI cZ cS ad adV A p l e R s m args below meth c nL) L S I G (zex (0, k, 0, 0) L S I G) := by
  obtain ⟨hx, hb, hml, hown, hts, hlk, hrt, hK, hSt, hAp, hR⟩ := X
  cases hk : zgl L k with
  | none =>
    show zGd _ _ _ _ _ _ _ _ (match zgl L k with | some (.inl x) => zeN (L, zi x :: S, I, G) | _ => zeF)
    rw [hk]
    exact trivial
  | some v =>
    show zGd _ _ _ _ _ _ _ _ (match zgl L k with | some (.inl x) => zeN (L, zi x :: S, I, G) | _ => zeF)
    rw [hk]
    rcases v with x | x | x | q
    · exact fun r kk H locs ls hP hS hl hG hv hL => lv_iload hx hb hdg (hl.get hk) (kk H locs ls hP hS hl hG ⟨trivial, hv⟩ hL)
    · exact trivial
    · exact trivial
    · exact trivial
theorem zx_iload_n (X : zCx dC dI cI cZ cS ad adV A p R s m args meth c d own ret nL cc) {k : Fin 4} (hdg : decode cc pc = .ok (.iload_n k, 1)) : zGd pcs pc (pc + 1) (zP dC dI cI cZ cS ad adV A p l e R s m args below meth c nL) L S I G (zex (0, k.val, 0, 0) L S I G) := by
  obtain ⟨hx, hb, hml, hown, hts, hlk, hrt, hK, hSt, hAp, hR⟩ := X
  cases hk : zgl L k.val with
  | none =>
    show zGd _ _ _ _ _ _ _ _ (match zgl L k.val with | some (.inl x) => zeN (L, zi x :: S, I, G) | _ => zeF)
    rw [hk]
    exact trivial
  | some v =>
    show zGd _ _ _ _ _ _ _ _ (match zgl L k.val with | some (.inl x) => zeN (L, zi x :: S, I, G) | _ => zeF)
    rw [hk]
    rcases v with x | x | x | q
    · exact fun r kk H locs ls hP hS hl hG hv hL => lv_iload_n hx hb hdg rfl (hl.get hk) (kk H locs ls hP hS hl hG ⟨trivial, hv⟩ hL)
    · exact trivial
    · exact trivial
    · exact trivial
theorem zx_lload (X : zCx dC dI cI cZ cS ad adV A p R s m args meth c d own ret nL cc) {k : Nat} (hdg : decode cc pc = .ok (.lload k, 2)) : zGd pcs pc (pc + 2) (zP dC dI cI cZ cS ad adV A p l e R s m args below meth c nL) L S I G (zex (56, k, 0, 0) L S I G) := by
  obtain ⟨hx, hb, hml, hown, hts, hlk, hrt, hK, hSt, hAp, hR⟩ := X
  cases hk : zgl L k with
  | none =>
    show zGd _ _ _ _ _ _ _ _ (match zgl L k with | some (.inr (.inl x)) => zeN (L, zl x :: S, I, G) | _ => zeF)
    rw [hk]
    exact trivial
  | some v =>
    show zGd _ _ _ _ _ _ _ _ (match zgl L k with | some (.inr (.inl x)) => zeN (L, zl x :: S, I, G) | _ => zeF)
    rw [hk]
    rcases v with x | x | x | q
    · exact trivial
    · exact fun r kk H locs ls hP hS hl hG hv hL => lv_lload hx hb hdg (hl.get hk) (kk H locs ls hP hS hl hG ⟨trivial, hv⟩ hL)
    · exact trivial
    · exact trivial
theorem zx_lload_n (X : zCx dC dI cI cZ cS ad adV A p R s m args meth c d own ret nL cc) {k : Fin 4} (hdg : decode cc pc = .ok (.lload_n k, 1)) : zGd pcs pc (pc + 1) (zP dC dI cI cZ cS ad adV A p l e R s m args below meth c nL) L S I G (zex (56, k.val, 0, 0) L S I G) := by
  obtain ⟨hx, hb, hml, hown, hts, hlk, hrt, hK, hSt, hAp, hR⟩ := X
  cases hk : zgl L k.val with
  | none =>
    show zGd _ _ _ _ _ _ _ _ (match zgl L k.val with | some (.inr (.inl x)) => zeN (L, zl x :: S, I, G) | _ => zeF)
    rw [hk]
    exact trivial
  | some v =>
    show zGd _ _ _ _ _ _ _ _ (match zgl L k.val with | some (.inr (.inl x)) => zeN (L, zl x :: S, I, G) | _ => zeF)
    rw [hk]
    rcases v with x | x | x | q
    · exact trivial
    · exact fun r kk H locs ls hP hS hl hG hv hL => lv_lload_n hx hb hdg rfl (hl.get hk) (kk H locs ls hP hS hl hG ⟨trivial, hv⟩ hL)
    · exact trivial
    · exact trivial
theorem zx_aload (X : zCx dC dI cI cZ cS ad adV A p R s m args meth c d own ret nL cc) {k : Nat} (hdg : decode cc pc = .ok (.aload k, 2)) : zGd pcs pc (pc + 2) (zP dC dI cI cZ cS ad adV A p l e R s m args below meth c nL) L S I G (zex (55, k, 0, 0) L S I G) := by
  obtain ⟨hx, hb, hml, hown, hts, hlk, hrt, hK, hSt, hAp, hR⟩ := X
  cases hk : zgl L k with
  | none =>
    show zGd _ _ _ _ _ _ _ _ (match zgl L k with | some (.inr (.inr (some p))) => zeN (L, .inr (.inr (some p)) :: S, I, G) | _ => zeF)
    rw [hk]
    exact trivial
  | some v =>
    show zGd _ _ _ _ _ _ _ _ (match zgl L k with | some (.inr (.inr (some p))) => zeN (L, .inr (.inr (some p)) :: S, I, G) | _ => zeF)
    rw [hk]
    rcases v with x | x | x | q
    · exact trivial
    · exact trivial
    · exact trivial
    · exact fun r kk H locs ls hP hS hl hG hv hL => lv_aload hx hb hdg (hl.get hk) (kk H locs ls hP hS hl hG ⟨hL _ _ hk, hv⟩ hL)
theorem zx_aload_n (X : zCx dC dI cI cZ cS ad adV A p R s m args meth c d own ret nL cc) {k : Fin 4} (hdg : decode cc pc = .ok (.aload_n k, 1)) : zGd pcs pc (pc + 1) (zP dC dI cI cZ cS ad adV A p l e R s m args below meth c nL) L S I G (zex (55, k.val, 0, 0) L S I G) := by
  obtain ⟨hx, hb, hml, hown, hts, hlk, hrt, hK, hSt, hAp, hR⟩ := X
  cases hk : zgl L k.val with
  | none =>
    show zGd _ _ _ _ _ _ _ _ (match zgl L k.val with | some (.inr (.inr (some p))) => zeN (L, .inr (.inr (some p)) :: S, I, G) | _ => zeF)
    rw [hk]
    exact trivial
  | some v =>
    show zGd _ _ _ _ _ _ _ _ (match zgl L k.val with | some (.inr (.inr (some p))) => zeN (L, .inr (.inr (some p)) :: S, I, G) | _ => zeF)
    rw [hk]
    rcases v with x | x | x | q
    · exact trivial
    · exact trivial
    · exact trivial
    · exact fun r kk H locs ls hP hS hl hG hv hL => lv_aload_n hx hb hdg rfl (hl.get hk) (kk H locs ls hP hS hl hG ⟨hL _ _ hk, hv⟩ hL)
theorem zx_istore (X : zCx dC dI cI cZ cS ad adV A p R s m args meth c d own ret nL cc) {k : Nat} (hdg : decode cc pc = .ok (.istore k, 2)) : zGd pcs pc (pc + 2) (zP dC dI cI cZ cS ad adV A p l e R s m args below meth c nL) L S I G (zex (1, k, 0, 0) L S I G) := by
  obtain ⟨hx, hb, hml, hown, hts, hlk, hrt, hK, hSt, hAp, hR⟩ := X
  rcases S with _ | ⟨v1, S⟩
  · exact trivial
  rcases v1 with x1 | x1 | x1 | x1
  rotate_left
  · exact trivial
  · exact trivial
  · exact trivial
  cases hk : zs1 L k (zi x1) with
  | none =>
    show zGd _ _ _ _ _ _ _ _ (match zs1 L k (zi x1) with | some L' => zeN (L', S, I, G) | none => zeF)
    rw [hk]
    exact trivial
  | some L' =>
    show zGd _ _ _ _ _ _ _ _ (match zs1 L k (zi x1) with | some L' => zeN (L', S, I, G) | none => zeF)
    rw [hk]
    exact fun r kk H locs ls hP hS hl hG hv hL => lv_istore hx hb hdg hl.2 (by have := (zs1_ok _ _ _ _ hk).1; have := hl.1; omega) rfl (fun ls' hl' => kk H locs ls' hP hS (zLH.put1 (k := k) (v := (zi x1)) hl.1 hk ls' hl') hG hv.2 (hL.put1 hv.1 hk))
theorem zx_istore_n (X : zCx dC dI cI cZ cS ad adV A p R s m args meth c d own ret nL cc) {k : Fin 4} (hdg : decode cc pc = .ok (.istore_n k, 1)) : zGd pcs pc (pc + 1) (zP dC dI cI cZ cS ad adV A p l e R s m args below meth c nL) L S I G (zex (1, k.val, 0, 0) L S I G) := by
  obtain ⟨hx, hb, hml, hown, hts, hlk, hrt, hK, hSt, hAp, hR⟩ := X
  rcases S with _ | ⟨v1, S⟩
  · exact trivial
  rcases v1 with x1 | x1 | x1 | x1
  rotate_left
  · exact trivial
  · exact trivial
  · exact trivial
  cases hk : zs1 L k.val (zi x1) with
  | none =>
    show zGd _ _ _ _ _ _ _ _ (match zs1 L k.val (zi x1) with | some L' => zeN (L', S, I, G) | none => zeF)
    rw [hk]
    exact trivial
  | some L' =>
    show zGd _ _ _ _ _ _ _ _ (match zs1 L k.val (zi x1) with | some L' => zeN (L', S, I, G) | none => zeF)
    rw [hk]
    exact fun r kk H locs ls hP hS hl hG hv hL => lv_istore_n hx hb hdg rfl hl.2 (by have := (zs1_ok _ _ _ _ hk).1; have := hl.1; omega) rfl (fun ls' hl' => kk H locs ls' hP hS (zLH.put1 (k := k.val) (v := (zi x1)) hl.1 hk ls' hl') hG hv.2 (hL.put1 hv.1 hk))
theorem zx_astore (X : zCx dC dI cI cZ cS ad adV A p R s m args meth c d own ret nL cc) {k : Nat} (hdg : decode cc pc = .ok (.astore k, 2)) : zGd pcs pc (pc + 2) (zP dC dI cI cZ cS ad adV A p l e R s m args below meth c nL) L S I G (zex (57, k, 0, 0) L S I G) := by
  obtain ⟨hx, hb, hml, hown, hts, hlk, hrt, hK, hSt, hAp, hR⟩ := X
  rcases S with _ | ⟨v1, S⟩
  · exact trivial
  rcases v1 with x1 | x1 | x1 | ⟨c1, j1⟩
  · exact trivial
  · exact trivial
  · exact trivial
  cases hk : zs1 L k (zr c1 j1) with
  | none =>
    show zGd _ _ _ _ _ _ _ _ (match zs1 L k (zr c1 j1) with | some L' => zeN (L', S, I, G) | none => zeF)
    rw [hk]
    exact trivial
  | some L' =>
    show zGd _ _ _ _ _ _ _ _ (match zs1 L k (zr c1 j1) with | some L' => zeN (L', S, I, G) | none => zeF)
    rw [hk]
    exact fun r kk H locs ls hP hS hl hG hv hL => lv_astore hx hb hdg hl.2 (by have := (zs1_ok _ _ _ _ hk).1; have := hl.1; omega) rfl (fun ls' hl' => kk H locs ls' hP hS (zLH.put1 (k := k) (v := (zr c1 j1)) hl.1 hk ls' hl') hG hv.2 (hL.put1 hv.1 hk))
theorem zx_astore_n (X : zCx dC dI cI cZ cS ad adV A p R s m args meth c d own ret nL cc) {k : Fin 4} (hdg : decode cc pc = .ok (.astore_n k, 1)) : zGd pcs pc (pc + 1) (zP dC dI cI cZ cS ad adV A p l e R s m args below meth c nL) L S I G (zex (57, k.val, 0, 0) L S I G) := by
  obtain ⟨hx, hb, hml, hown, hts, hlk, hrt, hK, hSt, hAp, hR⟩ := X
  rcases S with _ | ⟨v1, S⟩
  · exact trivial
  rcases v1 with x1 | x1 | x1 | ⟨c1, j1⟩
  · exact trivial
  · exact trivial
  · exact trivial
  cases hk : zs1 L k.val (zr c1 j1) with
  | none =>
    show zGd _ _ _ _ _ _ _ _ (match zs1 L k.val (zr c1 j1) with | some L' => zeN (L', S, I, G) | none => zeF)
    rw [hk]
    exact trivial
  | some L' =>
    show zGd _ _ _ _ _ _ _ _ (match zs1 L k.val (zr c1 j1) with | some L' => zeN (L', S, I, G) | none => zeF)
    rw [hk]
    exact fun r kk H locs ls hP hS hl hG hv hL => lv_astore_n hx hb hdg rfl hl.2 (by have := (zs1_ok _ _ _ _ hk).1; have := hl.1; omega) rfl (fun ls' hl' => kk H locs ls' hP hS (zLH.put1 (k := k.val) (v := (zr c1 j1)) hl.1 hk ls' hl') hG hv.2 (hL.put1 hv.1 hk))
theorem zx_lstore (X : zCx dC dI cI cZ cS ad adV A p R s m args meth c d own ret nL cc) {k : Nat} (hdg : decode cc pc = .ok (.lstore k, 2)) : zGd pcs pc (pc + 2) (zP dC dI cI cZ cS ad adV A p l e R s m args below meth c nL) L S I G (zex (2, k, 0, 0) L S I G) := by
  obtain ⟨hx, hb, hml, hown, hts, hlk, hrt, hK, hSt, hAp, hR⟩ := X
  rcases S with _ | ⟨v1, S⟩
  · exact trivial
  rcases v1 with x1 | x1 | x1 | x1
  · exact trivial
  rotate_left
  · exact trivial
  · exact trivial
  cases hk : zs2 L k (zl x1) with
  | none =>
    show zGd _ _ _ _ _ _ _ _ (match zs2 L k (zl x1) with | some L' => zeN (L', S, I, G) | none => zeF)
    rw [hk]
    exact trivial
  | some L' =>
    show zGd _ _ _ _ _ _ _ _ (match zs2 L k (zl x1) with | some L' => zeN (L', S, I, G) | none => zeF)
    rw [hk]
    exact fun r kk H locs ls hP hS hl hG hv hL => lv_lstore hx hb hdg hl.2 (by have := (zs2_ok _ _ _ _ hk).1; have := hl.1; omega) rfl (fun ls' hl' => kk H locs ls' hP hS (zLH.put2 (k := k) (v := (zl x1)) hl.1 hk ls' hl') hG hv.2 (hL.put2 hv.1 hk))
theorem zx_lstore_n (X : zCx dC dI cI cZ cS ad adV A p R s m args meth c d own ret nL cc) {k : Fin 4} (hdg : decode cc pc = .ok (.lstore_n k, 1)) : zGd pcs pc (pc + 1) (zP dC dI cI cZ cS ad adV A p l e R s m args below meth c nL) L S I G (zex (2, k.val, 0, 0) L S I G) := by
  obtain ⟨hx, hb, hml, hown, hts, hlk, hrt, hK, hSt, hAp, hR⟩ := X
  rcases S with _ | ⟨v1, S⟩
  · exact trivial
  rcases v1 with x1 | x1 | x1 | x1
  · exact trivial
  rotate_left
  · exact trivial
  · exact trivial
  cases hk : zs2 L k.val (zl x1) with
  | none =>
    show zGd _ _ _ _ _ _ _ _ (match zs2 L k.val (zl x1) with | some L' => zeN (L', S, I, G) | none => zeF)
    rw [hk]
    exact trivial
  | some L' =>
    show zGd _ _ _ _ _ _ _ _ (match zs2 L k.val (zl x1) with | some L' => zeN (L', S, I, G) | none => zeF)
    rw [hk]
    exact fun r kk H locs ls hP hS hl hG hv hL => lv_lstore_n hx hb hdg rfl hl.2 (by have := (zs2_ok _ _ _ _ hk).1; have := hl.1; omega) rfl (fun ls' hl' => kk H locs ls' hP hS (zLH.put2 (k := k.val) (v := (zl x1)) hl.1 hk ls' hl') hG hv.2 (hL.put2 hv.1 hk))
theorem zx_iinc (X : zCx dC dI cI cZ cS ad adV A p R s m args meth c d own ret nL cc) {k : Nat} {n : Int} (hdg : decode cc pc = .ok (.iinc k n, 3)) : zGd pcs pc (pc + 3) (zP dC dI cI cZ cS ad adV A p l e R s m args below meth c nL) L S I G (zex (4, k, 0, Int32.ofInt n) L S I G) := by
  obtain ⟨hx, hb, hml, hown, hts, hlk, hrt, hK, hSt, hAp, hR⟩ := X
  cases hg : zgl L k with
  | none =>
    show zGd _ _ _ _ _ _ _ _ (match zgl L k with | some (.inl x) => (match zs1 L k (zi (x + Int32.ofInt n)) with | some L' => zeN (L', S, I, G) | none => zeF) | _ => zeF)
    rw [hg]
    exact trivial
  | some v =>
    show zGd _ _ _ _ _ _ _ _ (match zgl L k with | some (.inl x) => (match zs1 L k (zi (x + Int32.ofInt n)) with | some L' => zeN (L', S, I, G) | none => zeF) | _ => zeF)
    rw [hg]
    rcases v with x | x | x | q
    · cases hk : zs1 L k (zi (x + Int32.ofInt n)) with
      | none =>
        show zGd _ _ _ _ _ _ _ _ (match zs1 L k (zi (x + Int32.ofInt n)) with | some L' => zeN (L', S, I, G) | none => zeF)
        rw [hk]
        exact trivial
      | some L' =>
        show zGd _ _ _ _ _ _ _ _ (match zs1 L k (zi (x + Int32.ofInt n)) with | some L' => zeN (L', S, I, G) | none => zeF)
        rw [hk]
        intro r kk H locs ls hP hS hl hG hv hL
        have hm : (k, Value.int x) ∈ zla ad L := zla_in.mpr ⟨zi x, hg, rfl⟩
        obtain ⟨q0, hq0⟩ := List.getElem?_of_mem hm
        exact lv_iinc hx hb hdg hl.2 hq0 rfl (by have := (zs1_ok _ _ _ _ hk).1; have := hl.1; omega) rfl (fun ls' hl' => kk H locs ls' hP hS (zLH.put1 (k := k) (v := zi (x + Int32.ofInt n)) hl.1 hk ls' hl') hG hv (zVl.put1 (v := zi (x + Int32.ofInt n)) hL trivial hk))
    · exact trivial
    · exact trivial
    · exact trivial
theorem zx_icmp_eq (X : zCx dC dI cI cZ cS ad adV A p R s m args meth c d own ret nL cc) {off : Int} {a : Nat} (ht : (pc : Int) + off = (zgn pcs a : Int) ∧ a < pcs.length) (hdg : decode cc pc = .ok (.if_icmp .eq off, 3)) : zGd pcs pc (pc + 3) (zP dC dI cI cZ cS ad adV A p l e R s m args below meth c nL) L S I G (zex (9, a, 0, 0) L S I G) := by
  obtain ⟨hx, hb, hml, hown, hts, hlk, hrt, hK, hSt, hAp, hR⟩ := X
  rcases S with _ | ⟨v1, S⟩
  · exact trivial
  rcases v1 with x1 | x1 | x1 | x1
  rotate_left
  · exact trivial
  · exact trivial
  · exact trivial
  rcases S with _ | ⟨v2, S⟩
  · exact trivial
  rcases v2 with x2 | x2 | x2 | x2
  rotate_left
  · exact trivial
  · exact trivial
  · exact trivial
  by_cases q : x2 = x1
  · show zGd _ _ _ _ _ _ _ _ (if x2 = x1 then _ else _)
    rw [if_pos q]
    exact ⟨ht.2, fun r k H locs ls hP hS hl hG hv hL => lv_icmp_eq hx hb hdg ht.1 (fun _ => k H locs ls hP hS hl hG hv.2.2 hL) (fun q2 => absurd q q2)⟩
  · show zGd _ _ _ _ _ _ _ _ (if x2 = x1 then _ else _)
    rw [if_neg q]
    exact fun r k H locs ls hP hS hl hG hv hL => lv_icmp_eq hx hb hdg ht.1 (fun q2 => absurd q2 q) (fun _ => k H locs ls hP hS hl hG hv.2.2 hL)
theorem zx_if_eq (X : zCx dC dI cI cZ cS ad adV A p R s m args meth c d own ret nL cc) {off : Int} {a : Nat} (ht : (pc : Int) + off = (zgn pcs a : Int) ∧ a < pcs.length) (hdg : decode cc pc = .ok (.ifCond .eq off, 3)) : zGd pcs pc (pc + 3) (zP dC dI cI cZ cS ad adV A p l e R s m args below meth c nL) L S I G (zex (10, a, 0, 0) L S I G) := by
  obtain ⟨hx, hb, hml, hown, hts, hlk, hrt, hK, hSt, hAp, hR⟩ := X
  rcases S with _ | ⟨v1, S⟩
  · exact trivial
  rcases v1 with x1 | x1 | x1 | x1
  rotate_left
  · exact trivial
  · exact trivial
  · exact trivial
  by_cases q : x1 = 0
  · show zGd _ _ _ _ _ _ _ _ (if x1 = 0 then _ else _)
    rw [if_pos q]
    exact ⟨ht.2, fun r k H locs ls hP hS hl hG hv hL => lv_if_eq hx hb hdg ht.1 (fun _ => k H locs ls hP hS hl hG hv.2 hL) (fun q2 => absurd q q2)⟩
  · show zGd _ _ _ _ _ _ _ _ (if x1 = 0 then _ else _)
    rw [if_neg q]
    exact fun r k H locs ls hP hS hl hG hv hL => lv_if_eq hx hb hdg ht.1 (fun q2 => absurd q2 q) (fun _ => k H locs ls hP hS hl hG hv.2 hL)
theorem zx_icmp_ne (X : zCx dC dI cI cZ cS ad adV A p R s m args meth c d own ret nL cc) {off : Int} {a : Nat} (ht : (pc : Int) + off = (zgn pcs a : Int) ∧ a < pcs.length) (hdg : decode cc pc = .ok (.if_icmp .ne off, 3)) : zGd pcs pc (pc + 3) (zP dC dI cI cZ cS ad adV A p l e R s m args below meth c nL) L S I G (zex (9, a, 1, 0) L S I G) := by
  obtain ⟨hx, hb, hml, hown, hts, hlk, hrt, hK, hSt, hAp, hR⟩ := X
  rcases S with _ | ⟨v1, S⟩
  · exact trivial
  rcases v1 with x1 | x1 | x1 | x1
  rotate_left
  · exact trivial
  · exact trivial
  · exact trivial
  rcases S with _ | ⟨v2, S⟩
  · exact trivial
  rcases v2 with x2 | x2 | x2 | x2
  rotate_left
  · exact trivial
  · exact trivial
  · exact trivial
  by_cases q : ¬ x2 = x1
  · show zGd _ _ _ _ _ _ _ _ (if ¬ x2 = x1 then _ else _)
    rw [if_pos q]
    exact ⟨ht.2, fun r k H locs ls hP hS hl hG hv hL => lv_icmp_ne hx hb hdg ht.1 (fun _ => k H locs ls hP hS hl hG hv.2.2 hL) (fun q2 => absurd q2 q)⟩
  · show zGd _ _ _ _ _ _ _ _ (if ¬ x2 = x1 then _ else _)
    rw [if_neg q]
    exact fun r k H locs ls hP hS hl hG hv hL => lv_icmp_ne hx hb hdg ht.1 (fun q2 => absurd q2 q) (fun _ => k H locs ls hP hS hl hG hv.2.2 hL)
theorem zx_if_ne (X : zCx dC dI cI cZ cS ad adV A p R s m args meth c d own ret nL cc) {off : Int} {a : Nat} (ht : (pc : Int) + off = (zgn pcs a : Int) ∧ a < pcs.length) (hdg : decode cc pc = .ok (.ifCond .ne off, 3)) : zGd pcs pc (pc + 3) (zP dC dI cI cZ cS ad adV A p l e R s m args below meth c nL) L S I G (zex (10, a, 1, 0) L S I G) := by
  obtain ⟨hx, hb, hml, hown, hts, hlk, hrt, hK, hSt, hAp, hR⟩ := X
  rcases S with _ | ⟨v1, S⟩
  · exact trivial
  rcases v1 with x1 | x1 | x1 | x1
  rotate_left
  · exact trivial
  · exact trivial
  · exact trivial
  by_cases q : ¬ x1 = 0
  · show zGd _ _ _ _ _ _ _ _ (if ¬ x1 = 0 then _ else _)
    rw [if_pos q]
    exact ⟨ht.2, fun r k H locs ls hP hS hl hG hv hL => lv_if_ne hx hb hdg ht.1 (fun _ => k H locs ls hP hS hl hG hv.2 hL) (fun q2 => absurd q2 q)⟩
  · show zGd _ _ _ _ _ _ _ _ (if ¬ x1 = 0 then _ else _)
    rw [if_neg q]
    exact fun r k H locs ls hP hS hl hG hv hL => lv_if_ne hx hb hdg ht.1 (fun q2 => absurd q2 q) (fun _ => k H locs ls hP hS hl hG hv.2 hL)
theorem zx_icmp_lt (X : zCx dC dI cI cZ cS ad adV A p R s m args meth c d own ret nL cc) {off : Int} {a : Nat} (ht : (pc : Int) + off = (zgn pcs a : Int) ∧ a < pcs.length) (hdg : decode cc pc = .ok (.if_icmp .lt off, 3)) : zGd pcs pc (pc + 3) (zP dC dI cI cZ cS ad adV A p l e R s m args below meth c nL) L S I G (zex (9, a, 2, 0) L S I G) := by
  obtain ⟨hx, hb, hml, hown, hts, hlk, hrt, hK, hSt, hAp, hR⟩ := X
  rcases S with _ | ⟨v1, S⟩
  · exact trivial
  rcases v1 with x1 | x1 | x1 | x1
  rotate_left
  · exact trivial
  · exact trivial
  · exact trivial
  rcases S with _ | ⟨v2, S⟩
  · exact trivial
  rcases v2 with x2 | x2 | x2 | x2
  rotate_left
  · exact trivial
  · exact trivial
  · exact trivial
  by_cases q : x2 < x1
  · show zGd _ _ _ _ _ _ _ _ (if x2 < x1 then _ else _)
    rw [if_pos q]
    exact ⟨ht.2, fun r k H locs ls hP hS hl hG hv hL => lv_icmp_lt hx hb hdg ht.1 (fun _ => k H locs ls hP hS hl hG hv.2.2 hL) (fun q2 => absurd q q2)⟩
  · show zGd _ _ _ _ _ _ _ _ (if x2 < x1 then _ else _)
    rw [if_neg q]
    exact fun r k H locs ls hP hS hl hG hv hL => lv_icmp_lt hx hb hdg ht.1 (fun q2 => absurd q2 q) (fun _ => k H locs ls hP hS hl hG hv.2.2 hL)
theorem zx_if_lt (X : zCx dC dI cI cZ cS ad adV A p R s m args meth c d own ret nL cc) {off : Int} {a : Nat} (ht : (pc : Int) + off = (zgn pcs a : Int) ∧ a < pcs.length) (hdg : decode cc pc = .ok (.ifCond .lt off, 3)) : zGd pcs pc (pc + 3) (zP dC dI cI cZ cS ad adV A p l e R s m args below meth c nL) L S I G (zex (10, a, 2, 0) L S I G) := by
  obtain ⟨hx, hb, hml, hown, hts, hlk, hrt, hK, hSt, hAp, hR⟩ := X
  rcases S with _ | ⟨v1, S⟩
  · exact trivial
  rcases v1 with x1 | x1 | x1 | x1
  rotate_left
  · exact trivial
  · exact trivial
  · exact trivial
  by_cases q : x1 < 0
  · show zGd _ _ _ _ _ _ _ _ (if x1 < 0 then _ else _)
    rw [if_pos q]
    exact ⟨ht.2, fun r k H locs ls hP hS hl hG hv hL => lv_if_lt hx hb hdg ht.1 (fun _ => k H locs ls hP hS hl hG hv.2 hL) (fun q2 => absurd q q2)⟩
  · show zGd _ _ _ _ _ _ _ _ (if x1 < 0 then _ else _)
    rw [if_neg q]
    exact fun r k H locs ls hP hS hl hG hv hL => lv_if_lt hx hb hdg ht.1 (fun q2 => absurd q2 q) (fun _ => k H locs ls hP hS hl hG hv.2 hL)
theorem zx_icmp_ge (X : zCx dC dI cI cZ cS ad adV A p R s m args meth c d own ret nL cc) {off : Int} {a : Nat} (ht : (pc : Int) + off = (zgn pcs a : Int) ∧ a < pcs.length) (hdg : decode cc pc = .ok (.if_icmp .ge off, 3)) : zGd pcs pc (pc + 3) (zP dC dI cI cZ cS ad adV A p l e R s m args below meth c nL) L S I G (zex (9, a, 3, 0) L S I G) := by
  obtain ⟨hx, hb, hml, hown, hts, hlk, hrt, hK, hSt, hAp, hR⟩ := X
  rcases S with _ | ⟨v1, S⟩
  · exact trivial
  rcases v1 with x1 | x1 | x1 | x1
  rotate_left
  · exact trivial
  · exact trivial
  · exact trivial
  rcases S with _ | ⟨v2, S⟩
  · exact trivial
  rcases v2 with x2 | x2 | x2 | x2
  rotate_left
  · exact trivial
  · exact trivial
  · exact trivial
  by_cases q : x1 ≤ x2
  · show zGd _ _ _ _ _ _ _ _ (if x1 ≤ x2 then _ else _)
    rw [if_pos q]
    exact ⟨ht.2, fun r k H locs ls hP hS hl hG hv hL => lv_icmp_ge hx hb hdg ht.1 (fun _ => k H locs ls hP hS hl hG hv.2.2 hL) (fun q2 => absurd q q2)⟩
  · show zGd _ _ _ _ _ _ _ _ (if x1 ≤ x2 then _ else _)
    rw [if_neg q]
    exact fun r k H locs ls hP hS hl hG hv hL => lv_icmp_ge hx hb hdg ht.1 (fun q2 => absurd q2 q) (fun _ => k H locs ls hP hS hl hG hv.2.2 hL)
theorem zx_if_ge (X : zCx dC dI cI cZ cS ad adV A p R s m args meth c d own ret nL cc) {off : Int} {a : Nat} (ht : (pc : Int) + off = (zgn pcs a : Int) ∧ a < pcs.length) (hdg : decode cc pc = .ok (.ifCond .ge off, 3)) : zGd pcs pc (pc + 3) (zP dC dI cI cZ cS ad adV A p l e R s m args below meth c nL) L S I G (zex (10, a, 3, 0) L S I G) := by
  obtain ⟨hx, hb, hml, hown, hts, hlk, hrt, hK, hSt, hAp, hR⟩ := X
  rcases S with _ | ⟨v1, S⟩
  · exact trivial
  rcases v1 with x1 | x1 | x1 | x1
  rotate_left
  · exact trivial
  · exact trivial
  · exact trivial
  by_cases q : 0 ≤ x1
  · show zGd _ _ _ _ _ _ _ _ (if 0 ≤ x1 then _ else _)
    rw [if_pos q]
    exact ⟨ht.2, fun r k H locs ls hP hS hl hG hv hL => lv_if_ge hx hb hdg ht.1 (fun _ => k H locs ls hP hS hl hG hv.2 hL) (fun q2 => absurd q q2)⟩
  · show zGd _ _ _ _ _ _ _ _ (if 0 ≤ x1 then _ else _)
    rw [if_neg q]
    exact fun r k H locs ls hP hS hl hG hv hL => lv_if_ge hx hb hdg ht.1 (fun q2 => absurd q2 q) (fun _ => k H locs ls hP hS hl hG hv.2 hL)
theorem zx_icmp_gt (X : zCx dC dI cI cZ cS ad adV A p R s m args meth c d own ret nL cc) {off : Int} {a : Nat} (ht : (pc : Int) + off = (zgn pcs a : Int) ∧ a < pcs.length) (hdg : decode cc pc = .ok (.if_icmp .gt off, 3)) : zGd pcs pc (pc + 3) (zP dC dI cI cZ cS ad adV A p l e R s m args below meth c nL) L S I G (zex (9, a, 4, 0) L S I G) := by
  obtain ⟨hx, hb, hml, hown, hts, hlk, hrt, hK, hSt, hAp, hR⟩ := X
  rcases S with _ | ⟨v1, S⟩
  · exact trivial
  rcases v1 with x1 | x1 | x1 | x1
  rotate_left
  · exact trivial
  · exact trivial
  · exact trivial
  rcases S with _ | ⟨v2, S⟩
  · exact trivial
  rcases v2 with x2 | x2 | x2 | x2
  rotate_left
  · exact trivial
  · exact trivial
  · exact trivial
  by_cases q : x1 < x2
  · show zGd _ _ _ _ _ _ _ _ (if x1 < x2 then _ else _)
    rw [if_pos q]
    exact ⟨ht.2, fun r k H locs ls hP hS hl hG hv hL => lv_icmp_gt hx hb hdg ht.1 (fun _ => k H locs ls hP hS hl hG hv.2.2 hL) (fun q2 => absurd q q2)⟩
  · show zGd _ _ _ _ _ _ _ _ (if x1 < x2 then _ else _)
    rw [if_neg q]
    exact fun r k H locs ls hP hS hl hG hv hL => lv_icmp_gt hx hb hdg ht.1 (fun q2 => absurd q2 q) (fun _ => k H locs ls hP hS hl hG hv.2.2 hL)
theorem zx_if_gt (X : zCx dC dI cI cZ cS ad adV A p R s m args meth c d own ret nL cc) {off : Int} {a : Nat} (ht : (pc : Int) + off = (zgn pcs a : Int) ∧ a < pcs.length) (hdg : decode cc pc = .ok (.ifCond .gt off, 3)) : zGd pcs pc (pc + 3) (zP dC dI cI cZ cS ad adV A p l e R s m args below meth c nL) L S I G (zex (10, a, 4, 0) L S I G) := by
  obtain ⟨hx, hb, hml, hown, hts, hlk, hrt, hK, hSt, hAp, hR⟩ := X
  rcases S with _ | ⟨v1, S⟩
  · exact trivial
  rcases v1 with x1 | x1 | x1 | x1
  rotate_left
  · exact trivial
  · exact trivial
  · exact trivial
  by_cases q : 0 < x1
  · show zGd _ _ _ _ _ _ _ _ (if 0 < x1 then _ else _)
    rw [if_pos q]
    exact ⟨ht.2, fun r k H locs ls hP hS hl hG hv hL => lv_if_gt hx hb hdg ht.1 (fun _ => k H locs ls hP hS hl hG hv.2 hL) (fun q2 => absurd q q2)⟩
  · show zGd _ _ _ _ _ _ _ _ (if 0 < x1 then _ else _)
    rw [if_neg q]
    exact fun r k H locs ls hP hS hl hG hv hL => lv_if_gt hx hb hdg ht.1 (fun q2 => absurd q2 q) (fun _ => k H locs ls hP hS hl hG hv.2 hL)
theorem zx_icmp_le (X : zCx dC dI cI cZ cS ad adV A p R s m args meth c d own ret nL cc) {off : Int} {a : Nat} (ht : (pc : Int) + off = (zgn pcs a : Int) ∧ a < pcs.length) (hdg : decode cc pc = .ok (.if_icmp .le off, 3)) : zGd pcs pc (pc + 3) (zP dC dI cI cZ cS ad adV A p l e R s m args below meth c nL) L S I G (zex (9, a, 5, 0) L S I G) := by
  obtain ⟨hx, hb, hml, hown, hts, hlk, hrt, hK, hSt, hAp, hR⟩ := X
  rcases S with _ | ⟨v1, S⟩
  · exact trivial
  rcases v1 with x1 | x1 | x1 | x1
  rotate_left
  · exact trivial
  · exact trivial
  · exact trivial
  rcases S with _ | ⟨v2, S⟩
  · exact trivial
  rcases v2 with x2 | x2 | x2 | x2
  rotate_left
  · exact trivial
  · exact trivial
  · exact trivial
  by_cases q : x2 ≤ x1
  · show zGd _ _ _ _ _ _ _ _ (if x2 ≤ x1 then _ else _)
    rw [if_pos q]
    exact ⟨ht.2, fun r k H locs ls hP hS hl hG hv hL => lv_icmp_le hx hb hdg ht.1 (fun _ => k H locs ls hP hS hl hG hv.2.2 hL) (fun q2 => absurd q q2)⟩
  · show zGd _ _ _ _ _ _ _ _ (if x2 ≤ x1 then _ else _)
    rw [if_neg q]
    exact fun r k H locs ls hP hS hl hG hv hL => lv_icmp_le hx hb hdg ht.1 (fun q2 => absurd q2 q) (fun _ => k H locs ls hP hS hl hG hv.2.2 hL)
theorem zx_if_le (X : zCx dC dI cI cZ cS ad adV A p R s m args meth c d own ret nL cc) {off : Int} {a : Nat} (ht : (pc : Int) + off = (zgn pcs a : Int) ∧ a < pcs.length) (hdg : decode cc pc = .ok (.ifCond .le off, 3)) : zGd pcs pc (pc + 3) (zP dC dI cI cZ cS ad adV A p l e R s m args below meth c nL) L S I G (zex (10, a, 5, 0) L S I G) := by
  obtain ⟨hx, hb, hml, hown, hts, hlk, hrt, hK, hSt, hAp, hR⟩ := X
  rcases S with _ | ⟨v1, S⟩
  · exact trivial
  rcases v1 with x1 | x1 | x1 | x1
  rotate_left
  · exact trivial
  · exact trivial
  · exact trivial
  by_cases q : x1 ≤ 0
  · show zGd _ _ _ _ _ _ _ _ (if x1 ≤ 0 then _ else _)
    rw [if_pos q]
    exact ⟨ht.2, fun r k H locs ls hP hS hl hG hv hL => lv_if_le hx hb hdg ht.1 (fun _ => k H locs ls hP hS hl hG hv.2 hL) (fun q2 => absurd q q2)⟩
  · show zGd _ _ _ _ _ _ _ _ (if x1 ≤ 0 then _ else _)
    rw [if_neg q]
    exact fun r k H locs ls hP hS hl hG hv hL => lv_if_le hx hb hdg ht.1 (fun q2 => absurd q2 q) (fun _ => k H locs ls hP hS hl hG hv.2 hL)
theorem zx_goto (X : zCx dC dI cI cZ cS ad adV A p R s m args meth c d own ret nL cc) {off : Int} {a : Nat} (ht : (pc : Int) + off = (zgn pcs a : Int) ∧ a < pcs.length) (hdg : decode cc pc = .ok (.goto off, 3)) : zGd pcs pc (pc + 3) (zP dC dI cI cZ cS ad adV A p l e R s m args below meth c nL) L S I G (zex (11, a, 0, 0) L S I G) := by
  obtain ⟨hx, hb, hml, hown, hts, hlk, hrt, hK, hSt, hAp, hR⟩ := X
  exact ⟨ht.2, fun r k H locs ls hP hS hl hG hv hL => lv_goto hx hb hdg ht.1 (k H locs ls hP hS hl hG hv hL)⟩
theorem zx_dup (X : zCx dC dI cI cZ cS ad adV A p R s m args meth c d own ret nL cc)  (hdg : decode cc pc = .ok (.dup, 1)) : zGd pcs pc (pc + 1) (zP dC dI cI cZ cS ad adV A p l e R s m args below meth c nL) L S I G (zex (29, 0, 0, 0) L S I G) := by
  obtain ⟨hx, hb, hml, hown, hts, hlk, hrt, hK, hSt, hAp, hR⟩ := X
  rcases S with _ | ⟨v1, S⟩
  · exact trivial
  rcases v1 with x | x | q
  · exact fun r k H locs ls hP hS hl hG hv hL => lv_dup hx hb hdg rfl (k H locs ls hP hS hl hG ⟨trivial, trivial, hv.2⟩ hL)
  · exact trivial
  · exact fun r k H locs ls hP hS hl hG hv hL => lv_dup hx hb hdg (zcat (v := .inr (.inr q)) rfl) (k H locs ls hP hS hl hG ⟨hv.1, hv.1, hv.2⟩ hL)
theorem zx_dup2 (X : zCx dC dI cI cZ cS ad adV A p R s m args meth c d own ret nL cc)  (hdg : decode cc pc = .ok (.dup2, 1)) : zGd pcs pc (pc + 1) (zP dC dI cI cZ cS ad adV A p l e R s m args below meth c nL) L S I G (zex (30, 0, 0, 0) L S I G) := by
  obtain ⟨hx, hb, hml, hown, hts, hlk, hrt, hK, hSt, hAp, hR⟩ := X
  rcases S with _ | ⟨v1, S⟩
  · exact trivial
  rcases S with _ | ⟨v2, S⟩
  · rcases v1 with x | x | q <;> exact trivial
  rcases v1 with x | x | q
  rotate_left
  · exact trivial
  · exact trivial
  rcases v2 with y | y | q
  · exact trivial
  · exact trivial
  · exact fun r k H locs ls hP hS hl hG hv hL => lv_dup2_11 hx hb hdg rfl (zcat (v := .inr (.inr q)) rfl) (k H locs ls hP hS hl hG ⟨trivial, hv.2.1, trivial, hv.2.1, hv.2.2⟩ hL)
theorem zx_pop (X : zCx dC dI cI cZ cS ad adV A p R s m args meth c d own ret nL cc)  (hdg : decode cc pc = .ok (.pop, 1)) : zGd pcs pc (pc + 1) (zP dC dI cI cZ cS ad adV A p l e R s m args below meth c nL) L S I G (zex (31, 0, 0, 0) L S I G) := by
  obtain ⟨hx, hb, hml, hown, hts, hlk, hrt, hK, hSt, hAp, hR⟩ := X
  rcases S with _ | ⟨v1, S⟩
  · exact trivial
  rcases v1 with x1 | x1 | x1 | x1
  rotate_left
  · exact trivial
  · exact trivial
  · exact trivial
  exact fun r k H locs ls hP hS hl hG hv hL => lv_pop hx hb hdg rfl (k H locs ls hP hS hl hG hv.2 hL)
end
end
section
/-! fields, arrays, ends, texts, the table, switches -/
theorem zzo {c i : Nat} (h : zVv (zr c i)) (h2 : c ≠ 60) (h3 : c ≠ 61) : (c, i) ∈ zo := by
  rcases h with h | h | h
  · exact h
  · exact absurd h h2
  · exact absurd h.1 h3
theorem zfs_at (ad : zAD) (I : zMI) (G : zMR) {c i k : Nat} (h : k < znf c) : (zfs ad I G c i)[k]? = some (zval ad I G c i k) := by
  rw [zfs, List.getElem?_map, List.getElem?_range h]
  rfl
theorem zfs_len (ad : zAD) (I : zMI) (G : zMR) (c i : Nat) : (zfs ad I G c i).length = znf c := by rw [zfs, List.length_map, List.length_range]
theorem zfs_set {ad : zAD} {I I' : zMI} {G G' : zMR} {c i k : Nat} {v : Value} (hk : k < znf c) (hv : zval ad I' G' c i k = v) (ho : ∀ j, j ≠ k → zval ad I' G' c i j = zval ad I G c i j) : (zfs ad I G c i).set k v = zfs ad I' G' c i := by
  apply List.ext_getElem?
  intro j
  rw [List.getElem?_set]
  by_cases h : k = j
  · subst h
    rw [if_pos rfl, zfs_len, if_pos hk, zfs_at _ _ _ hk, hv]
  · rw [if_neg h, zfs, zfs, List.getElem?_map, List.getElem?_map]
    cases hr : (List.range (znf c))[j]? with
    | none => rfl
    | some x =>
      have hx : x = j := by
        obtain ⟨h1, h2⟩ := List.getElem?_eq_some_iff.mp hr
        rw [List.getElem_range] at h2
        exact h2.symm
      subst hx
      exact congrArg some (ho x (Ne.symm h)).symm
theorem zsh0 {c : Nat} (h : c ≤ 10) : zsh c = 0 := by
  unfold zsh
  rw [if_pos h]
theorem zsh_ne {c : Nat} (h : zsh c = 0 ∨ zsh c = 1 ∨ zsh c = 2 ∨ zsh c = 3) : c ≠ 60 ∧ c ≠ 61 := by
  refine ⟨fun e => ?_, fun e => ?_⟩ <;> subst e <;> revert h <;> decide
theorem zcv_rf (ad : zAD) (q : Option (Nat × Nat)) : va_rf (q.map (fun q => ad q.1 q.2)) = zcv ad (.inr (.inr q)) := by
  cases q <;> rfl
theorem znar {t : FieldType} {v : Value} (h : (ztk t = 0 ∧ ∃ x, v = .int x) ∨ (ztk t = 1 ∧ (v = .int 0 ∨ v = .int 1)) ∨ (ztk t = 2 ∧ ∃ a, v = .ref a)) : narrow t v = v ∧ fits t v = true := by
  rcases h with ⟨h1, x, rfl⟩ | ⟨h1, h2⟩ | ⟨h1, a, rfl⟩
  · cases t <;> first | exact ⟨rfl, rfl⟩ | exact absurd h1 (by decide) | (exact absurd h1 (by intro q; cases q))
  · cases t <;> first | (rcases h2 with rfl | rfl <;> exact ⟨by decide, by decide⟩) | exact absurd h1 (by decide) | (exact absurd h1 (by intro q; cases q))
  · cases t <;> first | exact ⟨rfl, rfl⟩ | exact absurd h1 (by decide) | (exact absurd h1 (by intro q; cases q))
theorem zvpin {x : Int32} {n : Nat} (h : 0 ≤ x ∧ x.toNatClampNeg < n) : vp_in x n := by
  intro q
  rcases q with q | q
  · exact absurd h.1 (Int32.not_le.mpr q)
  · exact absurd h.2 (by omega)
section
variable {dC : Nat → ClassId} {dI : Nat → Nat → Nat} {cI cZ cS : ClassId} {ad : zAD} {adV : Nat → Nat} {A : Nat → Prop} {p : Program} {l : Launch} {e : Env} {R : Room} {s : State} {m : MethodId} {args : Array Value} {below : List Frame} {meth : Method} {c : Code} {d own ret nL : Nat} {cc : ByteArray}
variable {pcs : List Nat} {pc npc : Nat} {L : zXL} {S : List zAV} {I : zMI} {G : zMR}
theorem zce_obj {c i : Nat} (h : c ≤ 10) : zce cI cZ cS ad I G c i = .inr (c, zfs ad I G c i) := by
  unfold zce
  rw [zsh0 h]
  rfl
theorem zx_getfield (X : zCx dC dI cI cZ cS ad adV A p R s m args meth c d own ret nL cc) {x a b : Nat} {ai : zAI} (hai : ai = (13, a, b, 0) ∨ ai = (14, a, b, 0)) (hfl : (own, x, a, b) ∈ zFL) (hdg : decode cc pc = .ok (.getfield x, 3)) : zGd pcs pc (pc + 3) (zP dC dI cI cZ cS ad adV A p l e R s m args below meth c nL) L S I G (zex ai L S I G) := by
  obtain ⟨hx, hb, hml, hown, hts, hlk, hrt, hK, hSt, hAp, hR⟩ := X
  have hlink : (Cond.fieldLink (zcn own) x (zcn a) (zct a b).2.1 (zct a b).2.2.1).before args s = true := hts _ (zfl_in hfl)
  have main : ∀ (j : Nat) (S0 : List zAV), a ≤ 10 → b < znf a → S = zr a j :: S0 → ∀ v : zAV, zcv ad v = zval ad I G a j b → (zVG G → zVv v) → ∀ r, zP dC dI cI cZ cS ad adV A p l e R s m args below meth c nL r (pc + 3) L (v :: S0) I G → zP dC dI cI cZ cS ad adV A p l e R s m args below meth c nL r pc L S I G := by
    intro j S0 ha hb' hSS v hv hvv r k H locs ls hP hS hl hG hvs hL
    subst hSS
    have hz : (a, j) ∈ zo := zzo hvs.1 (by omega) (by omega)
    obtain ⟨q0, hq, he⟩ := zws_at (cI := cI) (cZ := cZ) (cS := cS) (ad := ad) (I := I) (G := G) hz
    rw [zce_obj ha] at he
    have hs := zcl_own a ha b hb'
    refine va_get hx hb hts (zuw a ha) hown hK hP q0 he (zvw a ha) b hb' hlink (fun y hy => by rw [hs] at hy; exact hy) (v := zcv ad v) (by rw [zfs_at _ _ _ hb', hv]) hdg ?_
    exact k H locs ls hP hS hl hG ⟨hvv hG, hvs.2⟩ hL
  rcases hai with rfl | rfl
  · rcases S with _ | ⟨v1, S0⟩
    · exact trivial
    rcases v1 with y | y | y | ⟨c1, j⟩
    · exact trivial
    · exact trivial
    · exact trivial
    show zGd _ _ _ _ _ _ _ _ (if c1 = a ∧ c1 ≤ 10 ∧ b < znf c1 ∧ zfy c1 b < 2 then _ else _)
    by_cases q : c1 = a ∧ c1 ≤ 10 ∧ b < znf c1 ∧ zfy c1 b < 2
    · rw [if_pos q]
      obtain ⟨rfl, q2, q3, q4⟩ := q
      exact main j S0 q2 q3 rfl (zi (I c1 j b)) (by unfold zval; rw [if_neg (by omega)]; rfl) (fun _ => trivial)
    · rw [if_neg q]
      exact trivial
  · rcases S with _ | ⟨v1, S0⟩
    · exact trivial
    rcases v1 with y | y | y | ⟨c1, j⟩
    · exact trivial
    · exact trivial
    · exact trivial
    show zGd _ _ _ _ _ _ _ _ (if c1 = a ∧ c1 ≤ 10 ∧ b < znf c1 ∧ zfy c1 b = 2 then _ else _)
    by_cases q : c1 = a ∧ c1 ≤ 10 ∧ b < znf c1 ∧ zfy c1 b = 2
    · rw [if_pos q]
      obtain ⟨rfl, q2, q3, q4⟩ := q
      intro r k H locs ls hP hS hl hG hvs hL
      exact main j S0 q2 q3 rfl (.inr (.inr (G c1 j b))) (by unfold zval; rw [if_pos q4]) (fun hG => hG (c1, j) (zzo hvs.1 (by omega) (by omega)) b) r k H locs ls hP hS hl hG hvs hL
    · rw [if_neg q]
      exact trivial
theorem zx_putfield (X : zCx dC dI cI cZ cS ad adV A p R s m args meth c d own ret nL cc) {x a b : Nat} {ai : zAI} (hai : ai = (15, a, b, 0) ∨ ai = (54, a, b, 0) ∨ ai = (16, a, b, 0)) (hfl : (own, x, a, b) ∈ zFL) (hfin : (zct a b).2.2.2 = false) (hdg : decode cc pc = .ok (.putfield x, 3)) : zGd pcs pc (pc + 3) (zP dC dI cI cZ cS ad adV A p l e R s m args below meth c nL) L S I G (zex ai L S I G) := by
  obtain ⟨hx, hb, hml, hown, hts, hlk, hrt, hK, hSt, hAp, hR⟩ := X
  have hlink : (Cond.fieldLink (zcn own) x (zcn a) (zct a b).2.1 (zct a b).2.2.1).before args s = true := hts _ (zfl_in hfl)
  have main : ∀ (j : Nat) (v : zAV) (S0 : List zAV), a ≤ 10 → b < znf a → S = v :: zr a j :: S0 → ∀ (I' : zMI) (G' : zMR), (narrow (zty a b) (zcv ad v) = zcv ad v ∧ fits (zty a b) (zcv ad v) = true) → zval ad I' G' a j b = zcv ad v → (∀ k, k ≠ b → zval ad I' G' a j k = zval ad I G a j k) → (∀ q ∈ zo, q ≠ (a, j) → zce cI cZ cS ad I' G' q.1 q.2 = zce cI cZ cS ad I G q.1 q.2) → (zVG G → zVv v → zVG G') → ∀ r, zP dC dI cI cZ cS ad adV A p l e R s m args below meth c nL r (pc + 3) L S0 I' G' → zP dC dI cI cZ cS ad adV A p l e R s m args below meth c nL r pc L S I G := by
    intro j v S0 ha hb' hSS I' G' hn h1 h2 h3 h4 r k H locs ls hP hS hl hG hvs hL
    subst hSS
    have hz : (a, j) ∈ zo := zzo hvs.2.1 (by omega) (by omega)
    obtain ⟨q0, hq, he⟩ := zws_at (cI := cI) (cZ := cZ) (cS := cS) (ad := ad) (I := I) (G := G) hz
    rw [zce_obj ha] at he
    have hs := zcl_own a ha b hb'
    refine va_put hx hb hts (zuw a ha) (zty a) (zty_ok a ha) (znm a ha) hown hK hP (zws_D hAp I G) hS q0 he (zvw a ha) b hb' hlink (fun y hy => by rw [hs] at hy; exact hy) hfin (zty_ok a ha b hb') hn.1 hn.2 (by rw [zfs_len]; exact hb') hdg (fun H1 locs1 hP1 hD1 hS1 => ?_)
    have e : (zws cI cZ cS ad I G).set q0 (ad a j, .inr (a, (zfs ad I G a j).set b (zcv ad v))) = zws cI cZ cS ad I' G' := zws_set hq (by rw [zce_obj ha, zfs_set hb' h1 h2]) h3
    rw [e] at hP1
    exact k H1 locs1 ls hP1 hS1 hl (h4 hG hvs.1) hvs.2.2 hL
  have hI : ∀ (j : Nat) (x1 : Int32), a ≤ 10 → zfy a b ≠ 2 → (zval ad (zup I a j b x1) G a j b = .int x1) ∧ (∀ k, k ≠ b → zval ad (zup I a j b x1) G a j k = zval ad I G a j k) ∧ ∀ q ∈ zo, q ≠ (a, j) → zce cI cZ cS ad (zup I a j b x1) G q.1 q.2 = zce cI cZ cS ad I G q.1 q.2 := by
    intro j x1 ha hf
    refine ⟨?_, fun k hk => ?_, fun q hq hne => ?_⟩
    · unfold zval zup
      rw [if_neg hf, if_pos ⟨rfl, rfl, rfl⟩]
    · have e1 : zup I a j b x1 a j k = I a j k := by
        unfold zup
        rw [if_neg (fun z => hk z.2.2)]
      unfold zval
      rw [e1]
    · have key : ∀ k, zup I a j b x1 q.1 q.2 k = I q.1 q.2 k := by
        intro k
        unfold zup
        rw [if_neg]
        intro z
        exact hne (Prod.ext z.1 z.2.1)
      unfold zce zfs zval
      simp only [key]
  rcases hai with rfl | rfl | rfl
  · rcases S with _ | ⟨v1, S0⟩
    · exact trivial
    rcases v1 with x1 | y | y
    rotate_left
    · exact trivial
    · exact trivial
    rcases S0 with _ | ⟨v2, S0⟩
    · exact trivial
    rcases v2 with y | y | y | ⟨c1, j⟩
    · exact trivial
    · exact trivial
    · exact trivial
    show zGd _ _ _ _ _ _ _ _ (if c1 = a ∧ c1 ≤ 10 ∧ b < znf c1 ∧ zfy c1 b = 0 then _ else _)
    by_cases q : c1 = a ∧ c1 ≤ 10 ∧ b < znf c1 ∧ zfy c1 b = 0
    · rw [if_pos q]
      obtain ⟨rfl, q2, q3, q4⟩ := q
      obtain ⟨g1, g2, g3⟩ := hI j x1 q2 (by omega)
      exact main j (zi x1) S0 q2 q3 rfl _ G (znar (Or.inl ⟨by rw [ztk_ok c1 q2 b q3, q4], x1, rfl⟩)) g1 g2 g3 (fun h _ => h)
    · rw [if_neg q]
      exact trivial
  · rcases S with _ | ⟨v1, S0⟩
    · exact trivial
    rcases v1 with x1 | y | y
    rotate_left
    · exact trivial
    · exact trivial
    rcases S0 with _ | ⟨v2, S0⟩
    · exact trivial
    rcases v2 with y | y | y | ⟨c1, j⟩
    · exact trivial
    · exact trivial
    · exact trivial
    show zGd _ _ _ _ _ _ _ _ (if c1 = a ∧ c1 ≤ 10 ∧ b < znf c1 ∧ zfy c1 b = 1 then (if x1 = 0 ∨ x1 = 1 then _ else _) else _)
    by_cases q : c1 = a ∧ c1 ≤ 10 ∧ b < znf c1 ∧ zfy c1 b = 1
    · rw [if_pos q]
      by_cases qz : x1 = 0 ∨ x1 = 1
      · rw [if_pos qz]
        obtain ⟨rfl, q2, q3, q4⟩ := q
        obtain ⟨g1, g2, g3⟩ := hI j x1 q2 (by omega)
        exact main j (zi x1) S0 q2 q3 rfl _ G (znar (Or.inr (Or.inl ⟨by rw [ztk_ok c1 q2 b q3, q4], qz.imp (fun z => by rw [z]; rfl) (fun z => by rw [z]; rfl)⟩))) g1 g2 g3 (fun h _ => h)
      · rw [if_neg qz]
        exact trivial
    · rw [if_neg q]
      exact trivial
  · rcases S with _ | ⟨v1, S0⟩
    · exact trivial
    rcases v1 with x1 | y | y | ⟨c2, j2⟩
    · exact trivial
    · exact trivial
    · exact trivial
    rcases S0 with _ | ⟨v2, S0⟩
    · exact trivial
    rcases v2 with y | y | y | ⟨c1, j⟩
    · exact trivial
    · exact trivial
    · exact trivial
    show zGd _ _ _ _ _ _ _ _ (if c1 = a ∧ c1 ≤ 10 ∧ b < znf c1 ∧ zfy c1 b = 2 then _ else _)
    by_cases q : c1 = a ∧ c1 ≤ 10 ∧ b < znf c1 ∧ zfy c1 b = 2
    · rw [if_pos q]
      obtain ⟨rfl, q2, q3, q4⟩ := q
      have key : ∀ (q : Nat × Nat) (k : Nat), q ≠ (c1, j) → zur G c1 j b (some (c2, j2)) q.1 q.2 k = G q.1 q.2 k := by
        intro q k hne
        unfold zur
        rw [if_neg]
        intro z
        exact hne (Prod.ext z.1 z.2.1)
      refine main j (zr c2 j2) S0 q2 q3 rfl I (zur G c1 j b (some (c2, j2))) (znar (Or.inr (Or.inr ⟨by rw [ztk_ok c1 q2 b q3, q4], _, rfl⟩))) ?_ ?_ ?_ ?_
      · unfold zval zur
        rw [if_pos q4, if_pos ⟨rfl, rfl, rfl⟩]
      · intro k hk
        have e1 : zur G c1 j b (some (c2, j2)) c1 j k = G c1 j k := by
          unfold zur
          rw [if_neg (fun z => hk z.2.2)]
        unfold zval
        rw [e1]
      · intro q hq hne
        unfold zce zfs zval
        simp only [key q _ hne]
      · intro h hv q hq k
        unfold zur
        by_cases z : q.1 = c1 ∧ q.2 = j ∧ k = b
        · rw [if_pos z]
          exact hv
        · rw [if_neg z]
          exact h q hq k
    · rw [if_neg q]
      exact trivial
end
end
section
/-! arrays, ends, texts, the table, switches, the JDK's Math and arraycopy -/
section
variable {dC : Nat → ClassId} {dI : Nat → Nat → Nat} {cI cZ cS : ClassId} {ad : zAD} {adV : Nat → Nat} {A : Nat → Prop} {p : Program} {l : Launch} {e : Env} {R : Room} {s : State} {m : MethodId} {args : Array Value} {below : List Frame} {meth : Method} {c : Code} {d own ret nL : Nat} {cc : ByteArray}
variable {pcs : List Nat} {pc npc : Nat} {L : zXL} {S : List zAV} {I : zMI} {G : zMR}
theorem zce_1 {c i : Nat} (h : zsh c = 1) : zce cI cZ cS ad I G c i = .inl (cI, zal c, .inl (fun k => I c i k)) := by
  unfold zce
  rw [h]
  rfl
theorem zce_2 {c i : Nat} (h : zsh c = 2) : zce cI cZ cS ad I G c i = .inl (cZ, zal c, .inl (fun k => I c i k)) := by
  unfold zce
  rw [h]
  rfl
theorem zce_3 {c i : Nat} (h : zsh c = 3) : zce cI cZ cS ad I G c i = .inl (cS, zal c, .inr (.inr (.inr (.inr (fun k => (G c i k).map (fun q => ad q.1 q.2)))))) := by
  unfold zce
  rw [h]
  rfl
theorem zce_up {c i k : Nat} {v : Int32} {q : Nat × Nat} (h : q ≠ (c, i)) : zce cI cZ cS ad (zup I c i k v) G q.1 q.2 = zce cI cZ cS ad I G q.1 q.2 := by
  have key : ∀ k', zup I c i k v q.1 q.2 k' = I q.1 q.2 k' := by
    intro k'
    unfold zup
    rw [if_neg]
    intro z
    exact h (Prod.ext z.1 z.2.1)
  unfold zce zfs zval
  simp only [key]
theorem zup_fn {c i k : Nat} {v : Int32} : (fun k' => zup I c i k v c i k') = upd (fun k' => I c i k') k v := by
  funext k'
  unfold zup upd
  by_cases h : k' = k
  · rw [if_pos ⟨rfl, rfl, h⟩, if_pos h]
  · rw [if_neg (fun z => h z.2.2), if_neg h]
theorem zx_iaload (X : zCx dC dI cI cZ cS ad adV A p R s m args meth c d own ret nL cc) (hdg : decode cc pc = .ok (.iaload, 1)) : zGd pcs pc (pc + 1) (zP dC dI cI cZ cS ad adV A p l e R s m args below meth c nL) L S I G (zex (17, 0, 0, 0) L S I G) := by
  obtain ⟨hx, hb, hml, hown, hts, hlk, hrt, hK, hSt, hAp, hR⟩ := X
  rcases S with _ | ⟨v1, S⟩
  · exact trivial
  rcases v1 with x | y | y
  rotate_left
  · exact trivial
  · exact trivial
  rcases S with _ | ⟨v2, S⟩
  · exact trivial
  rcases v2 with y | y | y | ⟨a, j⟩
  · exact trivial
  · exact trivial
  · exact trivial
  show zGd _ _ _ _ _ _ _ _ (if zsh a = 1 then (if 0 ≤ x ∧ x.toNatClampNeg < zal a then _ else _) else if zsh a = 5 then (if 0 ≤ x ∧ x.toNatClampNeg < 7 then _ else _) else _)
  by_cases h1 : zsh a = 1
  · rw [if_pos h1]
    by_cases h2 : 0 ≤ x ∧ x.toNatClampNeg < zal a
    · rw [if_pos h2]
      intro r k H locs ls hP hS hl hG hv hL
      have hz : (a, j) ∈ zo := zzo hv.2.1 (zsh_ne (Or.inr (Or.inl h1))).1 (zsh_ne (Or.inr (Or.inl h1))).2
      obtain ⟨q0, hq, he⟩ := zws_at (cI := cI) (cZ := cZ) (cS := cS) (ad := ad) (I := I) (G := G) hz
      rw [zce_1 h1] at he
      exact va_iald hx hb hK hP q0 0 he rfl (zvpin h2) hdg (k H locs ls hP hS hl hG ⟨trivial, hv.2.2⟩ hL)
    · rw [if_neg h2]
      exact trivial
  · rw [if_neg h1]
    by_cases h5 : zsh a = 5
    · rw [if_pos h5]
      by_cases h2 : 0 ≤ x ∧ x.toNatClampNeg < 7
      · rw [if_pos h2]
        intro r k H locs ls hP hS hl hG hv hL
        have ha : a = 61 := by
          have h9 := h5
          unfold zsh at h9
          by_cases q1 : a ≤ 10
          · rw [if_pos q1] at h9; cases h9
          rw [if_neg q1] at h9
          by_cases q2 : a = 43
          · rw [if_pos q2] at h9; cases h9
          rw [if_neg q2] at h9
          by_cases q3 : a = 51
          · rw [if_pos q3] at h9; cases h9
          rw [if_neg q3] at h9
          by_cases q4 : a = 50
          · rw [if_pos q4] at h9; cases h9
          rw [if_neg q4] at h9
          by_cases q5 : a = 60
          · rw [if_pos q5] at h9; cases h9
          rw [if_neg q5] at h9
          by_cases q6 : a = 61
          · exact q6
          · rw [if_neg q6] at h9; cases h9
        subst ha
        have hj : j = 0 := by
          rcases hv.2.1 with q | q | q
          · exact absurd rfl (zo_61 _ q).2
          · cases q
          · exact q.2
        subst hj
        exact va_ti hx hb hSt.2.2.1 hS (zvpin h2) rfl hdg (k H locs ls hP hS hl hG ⟨trivial, hv.2.2⟩ hL)
      · rw [if_neg h2]
        exact trivial
    · rw [if_neg h5]
      exact trivial
theorem zx_iastore (X : zCx dC dI cI cZ cS ad adV A p R s m args meth c d own ret nL cc) (hdg : decode cc pc = .ok (.iastore, 1)) : zGd pcs pc (pc + 1) (zP dC dI cI cZ cS ad adV A p l e R s m args below meth c nL) L S I G (zex (18, 0, 0, 0) L S I G) := by
  obtain ⟨hx, hb, hml, hown, hts, hlk, hrt, hK, hSt, hAp, hR⟩ := X
  rcases S with _ | ⟨v1, S⟩
  · exact trivial
  rcases v1 with v | y | y
  rotate_left
  · exact trivial
  · exact trivial
  rcases S with _ | ⟨v2, S⟩
  · exact trivial
  rcases v2 with x | y | y
  rotate_left
  · exact trivial
  · exact trivial
  rcases S with _ | ⟨v3, S⟩
  · exact trivial
  rcases v3 with y | y | y | ⟨a, j⟩
  · exact trivial
  · exact trivial
  · exact trivial
  show zGd _ _ _ _ _ _ _ _ (if zsh a = 1 then (if 0 ≤ x ∧ x.toNatClampNeg < zal a then _ else _) else _)
  by_cases h1 : zsh a = 1
  · rw [if_pos h1]
    by_cases h2 : 0 ≤ x ∧ x.toNatClampNeg < zal a
    · rw [if_pos h2]
      intro r k H locs ls hP hS hl hG hv hL
      have hz : (a, j) ∈ zo := zzo hv.2.2.1 (zsh_ne (Or.inr (Or.inl h1))).1 (zsh_ne (Or.inr (Or.inl h1))).2
      obtain ⟨q0, hq, he⟩ := zws_at (cI := cI) (cZ := cZ) (cS := cS) (ad := ad) (I := I) (G := G) hz
      rw [zce_1 h1] at he
      refine va_iast hx hb hK hP (zws_D hAp I G) hS q0 0 he rfl (zvpin h2) hdg (fun H1 locs1 hP1 hD1 hS1 => ?_)
      have e := zws_set (cI := cI) (cZ := cZ) (cS := cS) (ad := ad) (I := I) (I' := zup I a j x.toNatClampNeg v) (G := G) (G' := G) hq (by rw [zce_1 h1, zup_fn]) (fun q _ hne => zce_up hne)
      rw [e] at hP1
      exact k H1 locs1 ls hP1 hS1 hl hG hv.2.2.2 hL
    · rw [if_neg h2]
      exact trivial
  · rw [if_neg h1]
    exact trivial
theorem zx_baload (X : zCx dC dI cI cZ cS ad adV A p R s m args meth c d own ret nL cc) (hdg : decode cc pc = .ok (.baload, 1)) : zGd pcs pc (pc + 1) (zP dC dI cI cZ cS ad adV A p l e R s m args below meth c nL) L S I G (zex (19, 0, 0, 0) L S I G) := by
  obtain ⟨hx, hb, hml, hown, hts, hlk, hrt, hK, hSt, hAp, hR⟩ := X
  rcases S with _ | ⟨v1, S⟩
  · exact trivial
  rcases v1 with x | y | y
  rotate_left
  · exact trivial
  · exact trivial
  rcases S with _ | ⟨v2, S⟩
  · exact trivial
  rcases v2 with y | y | y | ⟨a, j⟩
  · exact trivial
  · exact trivial
  · exact trivial
  show zGd _ _ _ _ _ _ _ _ (if zsh a = 2 then (if 0 ≤ x ∧ x.toNatClampNeg < zal a then _ else _) else _)
  by_cases h1 : zsh a = 2
  · rw [if_pos h1]
    by_cases h2 : 0 ≤ x ∧ x.toNatClampNeg < zal a
    · rw [if_pos h2]
      intro r k H locs ls hP hS hl hG hv hL
      have hz : (a, j) ∈ zo := zzo hv.2.1 (zsh_ne (Or.inr (Or.inr (Or.inl h1)))).1 (zsh_ne (Or.inr (Or.inr (Or.inl h1)))).2
      obtain ⟨q0, hq, he⟩ := zws_at (cI := cI) (cZ := cZ) (cS := cS) (ad := ad) (I := I) (G := G) hz
      rw [zce_2 h1] at he
      exact va_zald hx hb hK hP q0 1 he rfl (zvpin h2) hdg (k H locs ls hP hS hl hG ⟨trivial, hv.2.2⟩ hL)
    · rw [if_neg h2]
      exact trivial
  · rw [if_neg h1]
    exact trivial
theorem zx_bastore (X : zCx dC dI cI cZ cS ad adV A p R s m args meth c d own ret nL cc) (hdg : decode cc pc = .ok (.bastore, 1)) : zGd pcs pc (pc + 1) (zP dC dI cI cZ cS ad adV A p l e R s m args below meth c nL) L S I G (zex (20, 0, 0, 0) L S I G) := by
  obtain ⟨hx, hb, hml, hown, hts, hlk, hrt, hK, hSt, hAp, hR⟩ := X
  rcases S with _ | ⟨v1, S⟩
  · exact trivial
  rcases v1 with v | y | y
  rotate_left
  · exact trivial
  · exact trivial
  rcases S with _ | ⟨v2, S⟩
  · exact trivial
  rcases v2 with x | y | y
  rotate_left
  · exact trivial
  · exact trivial
  rcases S with _ | ⟨v3, S⟩
  · exact trivial
  rcases v3 with y | y | y | ⟨a, j⟩
  · exact trivial
  · exact trivial
  · exact trivial
  show zGd _ _ _ _ _ _ _ _ (if zsh a = 2 then (if (0 ≤ x ∧ x.toNatClampNeg < zal a) ∧ (v = 0 ∨ v = 1) then _ else _) else _)
  by_cases h1 : zsh a = 2
  · rw [if_pos h1]
    by_cases h2 : (0 ≤ x ∧ x.toNatClampNeg < zal a) ∧ (v = 0 ∨ v = 1)
    · rw [if_pos h2]
      intro r k H locs ls hP hS hl hG hv hL
      have hz : (a, j) ∈ zo := zzo hv.2.2.1 (zsh_ne (Or.inr (Or.inr (Or.inl h1)))).1 (zsh_ne (Or.inr (Or.inr (Or.inl h1)))).2
      obtain ⟨q0, hq, he⟩ := zws_at (cI := cI) (cZ := cZ) (cS := cS) (ad := ad) (I := I) (G := G) hz
      rw [zce_2 h1] at he
      refine va_zast hx hb hK hP (zws_D hAp I G) hS q0 1 he rfl (zvpin h2.1) hdg (fun H1 locs1 hP1 hD1 hS1 => ?_)
      have hn : vp_nar .boolean v = v := by
        rcases h2.2 with rfl | rfl <;> decide
      rw [hn] at hP1
      have e := zws_set (cI := cI) (cZ := cZ) (cS := cS) (ad := ad) (I := I) (I' := zup I a j x.toNatClampNeg v) (G := G) (G' := G) hq (by rw [zce_2 h1, zup_fn]) (fun q _ hne => zce_up hne)
      rw [e] at hP1
      exact k H1 locs1 ls hP1 hS1 hl hG hv.2.2.2 hL
    · rw [if_neg h2]
      exact trivial
  · rw [if_neg h1]
    exact trivial
theorem zx_arraylength (X : zCx dC dI cI cZ cS ad adV A p R s m args meth c d own ret nL cc) (hdg : decode cc pc = .ok (.arraylength, 1)) : zGd pcs pc (pc + 1) (zP dC dI cI cZ cS ad adV A p l e R s m args below meth c nL) L S I G (zex (21, 0, 0, 0) L S I G) := by
  obtain ⟨hx, hb, hml, hown, hts, hlk, hrt, hK, hSt, hAp, hR⟩ := X
  rcases S with _ | ⟨v1, S⟩
  · exact trivial
  rcases v1 with y | y | y | ⟨a, j⟩
  · exact trivial
  · exact trivial
  · exact trivial
  show zGd _ _ _ _ _ _ _ _ (if zsh a = 1 ∨ zsh a = 2 ∨ zsh a = 3 then _ else _)
  by_cases h1 : zsh a = 1 ∨ zsh a = 2 ∨ zsh a = 3
  · rw [if_pos h1]
    intro r k H locs ls hP hS hl hG hv hL
    have hz : (a, j) ∈ zo := zzo hv.1 (zsh_ne (Or.inr h1)).1 (zsh_ne (Or.inr h1)).2
    obtain ⟨q0, hq, he⟩ := zws_at (cI := cI) (cZ := cZ) (cS := cS) (ad := ad) (I := I) (G := G) hz
    rcases h1 with h1 | h1 | h1
    · rw [zce_1 h1] at he
      exact va_alen hx hb hK hP q0 0 he rfl rfl hdg (k H locs ls hP hS hl hG ⟨trivial, hv.2⟩ hL)
    · rw [zce_2 h1] at he
      exact va_alen hx hb hK hP q0 1 he rfl rfl hdg (k H locs ls hP hS hl hG ⟨trivial, hv.2⟩ hL)
    · rw [zce_3 h1] at he
      exact va_alen hx hb hK hP q0 2 he rfl rfl hdg (k H locs ls hP hS hl hG ⟨trivial, hv.2⟩ hL)
  · rw [if_neg h1]
    exact trivial
theorem zx_aaload (X : zCx dC dI cI cZ cS ad adV A p R s m args meth c d own ret nL cc) (hdg : decode cc pc = .ok (.aaload, 1)) : zGd pcs pc (pc + 1) (zP dC dI cI cZ cS ad adV A p l e R s m args below meth c nL) L S I G (zex (22, 0, 0, 0) L S I G) := by
  obtain ⟨hx, hb, hml, hown, hts, hlk, hrt, hK, hSt, hAp, hR⟩ := X
  rcases S with _ | ⟨v1, S⟩
  · exact trivial
  rcases v1 with x | y | y
  rotate_left
  · exact trivial
  · exact trivial
  rcases S with _ | ⟨v2, S⟩
  · exact trivial
  rcases v2 with y | y | y | ⟨a, j⟩
  · exact trivial
  · exact trivial
  · exact trivial
  show zGd _ _ _ _ _ _ _ _ (if zsh a = 3 then (if 0 ≤ x ∧ x.toNatClampNeg < zal a then _ else _) else _)
  by_cases h1 : zsh a = 3
  · rw [if_pos h1]
    by_cases h2 : 0 ≤ x ∧ x.toNatClampNeg < zal a
    · rw [if_pos h2]
      intro r k H locs ls hP hS hl hG hv hL
      have hz : (a, j) ∈ zo := zzo hv.2.1 (zsh_ne (Or.inr (Or.inr (Or.inr h1)))).1 (zsh_ne (Or.inr (Or.inr (Or.inr h1)))).2
      obtain ⟨q0, hq, he⟩ := zws_at (cI := cI) (cZ := cZ) (cS := cS) (ad := ad) (I := I) (G := G) hz
      rw [zce_3 h1] at he
      refine va_aldq hx hb hK hP q0 2 he rfl (zvpin h2) hdg ?_
      rw [zcv_rf]
      exact k H locs ls hP hS hl hG ⟨hG (a, j) hz _, hv.2.2⟩ hL
    · rw [if_neg h2]
      exact trivial
  · rw [if_neg h1]
    exact trivial
theorem zx_return (X : zCx dC dI cI cZ cS ad adV A p R s m args meth c d own 0 nL cc) (hdg : decode cc pc = .ok (.return_, 1)) : zGd pcs pc (pc + 1) (zP dC dI cI cZ cS ad adV A p l e R s m args below meth c nL) L S I G (zex (24, 0, 0, 0) L S I G) := by
  obtain ⟨hx, hb, hml, hown, hts, hlk, hrt, hK, hSt, hAp, hR⟩ := X
  rcases S with _ | ⟨v1, S⟩
  · intro H locs ls hP hS hl hG hv hL
    have hr : meth.sig.returnType = none := by
      cases h : meth.sig.returnType with
      | none => rfl
      | some t => rw [h] at hrt; cases t <;> cases hrt
    exact W.vret hx hb hr (fun t ht hW => ⟨⟨rfl, trivial, by rw [ht]; exact hP, va_K.moved hW.alike hK, hSt.at hS ht hW, hG⟩, hS.F ht⟩) hS.2.2 hdg hlk
  · exact trivial
theorem zx_ireturn (X : zCx dC dI cI cZ cS ad adV A p R s m args meth c d own 1 nL cc) (hdg : decode cc pc = .ok (.ireturn, 1)) : zGd pcs pc (pc + 1) (zP dC dI cI cZ cS ad adV A p l e R s m args below meth c nL) L S I G (zex (25, 0, 0, 0) L S I G) := by
  obtain ⟨hx, hb, hml, hown, hts, hlk, hrt, hK, hSt, hAp, hR⟩ := X
  rcases S with _ | ⟨v1, S⟩
  · exact trivial
  rcases S with _ | ⟨v2, S⟩
  rotate_left
  · rcases v1 with x | y | y | y <;> exact trivial
  rcases v1 with x | y | y | y
  rotate_left
  · exact trivial
  · exact trivial
  · exact trivial
  intro H locs ls hP hS hl hG hv hL
  have hr : meth.sig.returnType = some .int := by
    cases h : meth.sig.returnType with
    | none => rw [h] at hrt; cases hrt
    | some t => rw [h] at hrt; cases t <;> first | rfl | cases hrt
  exact W.iret (v := x) hx hb hr (fun t ht hW => ⟨⟨rfl, trivial, by rw [ht]; exact hP, va_K.moved hW.alike hK, hSt.at hS ht hW, hG⟩, hS.F ht⟩) hS.2.2 hdg hlk
theorem zx_zreturn (X : zCx dC dI cI cZ cS ad adV A p R s m args meth c d own 2 nL cc) (hdg : decode cc pc = .ok (.ireturn, 1)) : zGd pcs pc (pc + 1) (zP dC dI cI cZ cS ad adV A p l e R s m args below meth c nL) L S I G (zex (26, 0, 0, 0) L S I G) := by
  obtain ⟨hx, hb, hml, hown, hts, hlk, hrt, hK, hSt, hAp, hR⟩ := X
  rcases S with _ | ⟨v1, S⟩
  · exact trivial
  rcases S with _ | ⟨v2, S⟩
  rotate_left
  · rcases v1 with x | y | y | y <;> exact trivial
  rcases v1 with x | y | y | y
  rotate_left
  · exact trivial
  · exact trivial
  · exact trivial
  show zGd _ _ _ _ _ _ _ _ (if x = 0 ∨ x = 1 then _ else _)
  by_cases q : x = 0 ∨ x = 1
  · rw [if_pos q]
    intro H locs ls hP hS hl hG hv hL
    have hr : meth.sig.returnType = some .boolean := by
      cases h : meth.sig.returnType with
      | none => rw [h] at hrt; cases hrt
      | some t => rw [h] at hrt; cases t <;> first | rfl | cases hrt
    exact W.zret (v := x) hx hb hr (by rcases q with rfl | rfl <;> decide) (fun t ht hW => ⟨⟨rfl, trivial, by rw [ht]; exact hP, va_K.moved hW.alike hK, hSt.at hS ht hW, hG⟩, hS.F ht⟩) hS.2.2 hdg hlk
  · rw [if_neg q]
    exact trivial
theorem zx_lreturn (X : zCx dC dI cI cZ cS ad adV A p R s m args meth c d own 3 nL cc) (hdg : decode cc pc = .ok (.lreturn, 1)) : zGd pcs pc (pc + 1) (zP dC dI cI cZ cS ad adV A p l e R s m args below meth c nL) L S I G (zex (27, 0, 0, 0) L S I G) := by
  obtain ⟨hx, hb, hml, hown, hts, hlk, hrt, hK, hSt, hAp, hR⟩ := X
  rcases S with _ | ⟨v1, S⟩
  · exact trivial
  rcases S with _ | ⟨v2, S⟩
  rotate_left
  · rcases v1 with x | y | y | y <;> exact trivial
  rcases v1 with y | x | y | y
  · exact trivial
  rotate_left
  · exact trivial
  · exact trivial
  intro H locs ls hP hS hl hG hv hL
  have hr : meth.sig.returnType = some .long := by
    cases h : meth.sig.returnType with
    | none => rw [h] at hrt; cases hrt
    | some t => rw [h] at hrt; cases t <;> first | rfl | cases hrt
  exact W.lret (v := x) hx hb hr (fun t ht hW => ⟨⟨rfl, trivial, by rw [ht]; exact hP, va_K.moved hW.alike hK, hSt.at hS ht hW, hG⟩, hS.F ht⟩) hS.2.2 hdg hlk
theorem zx_areturn (X : zCx dC dI cI cZ cS ad adV A p R s m args meth c d own 4 nL cc) (hdg : decode cc pc = .ok (.areturn, 1)) : zGd pcs pc (pc + 1) (zP dC dI cI cZ cS ad adV A p l e R s m args below meth c nL) L S I G (zex (28, 0, 0, 0) L S I G) := by
  obtain ⟨hx, hb, hml, hown, hts, hlk, hrt, hK, hSt, hAp, hR⟩ := X
  rcases S with _ | ⟨v1, S⟩
  · exact trivial
  rcases S with _ | ⟨v2, S⟩
  rotate_left
  · rcases v1 with x | y | y | y <;> exact trivial
  rcases v1 with y | y | y | q
  · exact trivial
  · exact trivial
  · exact trivial
  intro H locs ls hP hS hl hG hv hL
  have hr : ∃ t, meth.sig.returnType = some (.object t) := by
    cases h : meth.sig.returnType with
    | none => rw [h] at hrt; cases hrt
    | some t => rw [h] at hrt; cases t <;> first | exact ⟨_, rfl⟩ | cases hrt
  obtain ⟨t0, hr⟩ := hr
  exact W.aret hx hb hr (Or.inl ⟨_, rfl⟩) (Or.inr ⟨_, rfl⟩) (fun t ht hW => ⟨⟨rfl, hv.1, by rw [ht]; exact hP, va_K.moved hW.alike hK, hSt.at hS ht hW, hG⟩, hS.F ht⟩) hS.2.2 hdg hlk
theorem zshort_sum : ∀ {S : List zAV}, zshort S = true → ((S.map (zcv ad)).map fun v => v.category).sum ≤ 8 := by
  have key : ∀ v : zAV, (zcv ad v).category ≤ 2 := by
    intro v
    rcases v with x | x | x | x
    · exact Nat.le_of_ble_eq_true rfl
    · exact Nat.le_refl 2
    · exact Nat.le_of_ble_eq_true rfl
    · exact Nat.le_of_ble_eq_true rfl
  intro S h
  rcases S with _ | ⟨a, S⟩
  · simp
  rcases S with _ | ⟨b, S⟩
  · have := key a
    simp
    omega
  rcases S with _ | ⟨c, S⟩
  · have := key a
    have := key b
    simp
    omega
  rcases S with _ | ⟨d, S⟩
  · have := key a
    have := key b
    have := key c
    simp
    omega
  rcases S with _ | ⟨f, S⟩
  · have := key a
    have := key b
    have := key c
    have := key d
    simp
    omega
  · cases h
theorem zx_max (X : zCx dC dI cI cZ cS ad adV A p R s m args meth c d own ret nL cc) {x : Nat} (hml0 : (own, x, 5, 0) ∈ zML) (hdg : decode cc pc = .ok (.invokestatic x, 3)) : zGd pcs pc (pc + 3) (zP dC dI cI cZ cS ad adV A p l e R s m args below meth c nL) L S I G (zex (42, 0, 0, 0) L S I G) := by
  obtain ⟨hx, hb, hml, hown, hts, hlk, hrt, hK, hSt, hAp, hR⟩ := X
  rcases S with _ | ⟨v1, S⟩
  · exact trivial
  rcases v1 with x1 | y | y
  rotate_left
  · exact trivial
  · exact trivial
  rcases S with _ | ⟨v2, S⟩
  · exact trivial
  rcases v2 with x2 | y | y
  rotate_left
  · exact trivial
  · exact trivial
  show zGd _ _ _ _ _ _ _ _ (if zshort S = true then _ else _)
  by_cases q : zshort S = true
  · rw [if_pos q]
    intro r k H locs ls hP hS hl hG hv hL
    have hs := zshort_sum (ad := ad) q
    exact va_mmax hx hb (by rw [hml]; exact hl.2.1.symm) hown (hts _ (zml_in hml0 _ (List.mem_singleton.mpr rfl))) (hts _ (zot_in _ (by simp [zotW]))) (hts _ (zot_in _ (by simp [zotW]))) (hts _ zmax_in) (by omega) (by omega) (Nat.zero_le _) (Nat.zero_le _) hdg (k H locs ls hP hS hl hG ⟨trivial, hv.2.2⟩ hL)
  · rw [if_neg q]
    exact trivial
theorem zx_min (X : zCx dC dI cI cZ cS ad adV A p R s m args meth c d own ret nL cc) {x : Nat} (hml0 : (own, x, 6, 0) ∈ zML) (hdg : decode cc pc = .ok (.invokestatic x, 3)) : zGd pcs pc (pc + 3) (zP dC dI cI cZ cS ad adV A p l e R s m args below meth c nL) L S I G (zex (43, 0, 0, 0) L S I G) := by
  obtain ⟨hx, hb, hml, hown, hts, hlk, hrt, hK, hSt, hAp, hR⟩ := X
  rcases S with _ | ⟨v1, S⟩
  · exact trivial
  rcases v1 with x1 | y | y
  rotate_left
  · exact trivial
  · exact trivial
  rcases S with _ | ⟨v2, S⟩
  · exact trivial
  rcases v2 with x2 | y | y
  rotate_left
  · exact trivial
  · exact trivial
  show zGd _ _ _ _ _ _ _ _ (if zshort S = true then _ else _)
  by_cases q : zshort S = true
  · rw [if_pos q]
    intro r k H locs ls hP hS hl hG hv hL
    have hs := zshort_sum (ad := ad) q
    exact va_mmin hx hb (by rw [hml]; exact hl.2.1.symm) hown (hts _ (zml_in hml0 _ (List.mem_singleton.mpr rfl))) (hts _ (zot_in _ (by simp [zotW]))) (hts _ (zot_in _ (by simp [zotW]))) (hts _ zmin_in) (by omega) (by omega) (Nat.zero_le _) (Nat.zero_le _) hdg (k H locs ls hP hS hl hG ⟨trivial, hv.2.2⟩ hL)
  · rw [if_neg q]
    exact trivial
theorem zx_copy (X : zCx dC dI cI cZ cS ad adV A p R s m args meth c d own ret nL cc) {x : Nat} (hml0 : (own, x, 7, 0) ∈ zML) (hdg : decode cc pc = .ok (.invokestatic x, 3)) : zGd pcs pc (pc + 3) (zP dC dI cI cZ cS ad adV A p l e R s m args below meth c nL) L S I G (zex (44, 0, 0, 0) L S I G) := by
  obtain ⟨hx, hb, hml, hown, hts, hlk, hrt, hK, hSt, hAp, hR⟩ := X
  rcases S with _ | ⟨v1, S⟩
  · exact trivial
  rcases v1 with n | y | y
  rotate_left
  · exact trivial
  · exact trivial
  rcases S with _ | ⟨v2, S⟩
  · exact trivial
  rcases v2 with dp | y | y
  rotate_left
  · exact trivial
  · exact trivial
  rcases S with _ | ⟨v3, S⟩
  · exact trivial
  rcases v3 with y | y | y | ⟨a, j⟩
  · exact trivial
  · exact trivial
  · exact trivial
  rcases S with _ | ⟨v4, S⟩
  · exact trivial
  rcases v4 with sp | y | y
  rotate_left
  · exact trivial
  · exact trivial
  rcases S with _ | ⟨v5, S⟩
  · exact trivial
  rcases v5 with y | y | y | ⟨a0, j0⟩
  · exact trivial
  · exact trivial
  · exact trivial
  show zGd _ _ _ _ _ _ _ _ (if zsh a = 1 ∧ zsh a0 = 1 ∧ zal a0 = zal a ∧ n = nI (zal a) ∧ sp = 0 ∧ dp = 0 ∧ zshort S = true then _ else _)
  by_cases q : zsh a = 1 ∧ zsh a0 = 1 ∧ zal a0 = zal a ∧ n = nI (zal a) ∧ sp = 0 ∧ dp = 0 ∧ zshort S = true
  · rw [if_pos q]
    obtain ⟨h1, h2, h3, rfl, rfl, rfl, h4⟩ := q
    intro r k H locs ls hP hS hl hG hv hL
    have hs := zshort_sum (ad := ad) h4
    have hz : (a, j) ∈ zo := zzo hv.2.2.1 (zsh_ne (Or.inr (Or.inl h1))).1 (zsh_ne (Or.inr (Or.inl h1))).2
    have hz0 : (a0, j0) ∈ zo := zzo hv.2.2.2.2.1 (zsh_ne (Or.inr (Or.inl h2))).1 (zsh_ne (Or.inr (Or.inl h2))).2
    obtain ⟨q0, hq, he⟩ := zws_at (cI := cI) (cZ := cZ) (cS := cS) (ad := ad) (I := I) (G := G) hz
    obtain ⟨q1, hq1, he1⟩ := zws_at (cI := cI) (cZ := cZ) (cS := cS) (ad := ad) (I := I) (G := G) hz0
    rw [zce_1 h1] at he
    rw [zce_1 h2] at he1
    have hzl : ∀ w, w < 62 → zal w < 1000 := by decide +kernel
    have ha : zal a < 1000 := by
      have hq : ∀ q ∈ zo, q.1 < 62 := by decide +kernel
      exact hzl a (hq _ hz)
    have hcl : (nI (zal a)).toNatClampNeg = zal a := nI_clamp (by omega)
    have h0 : (0 : Int32).toNatClampNeg = 0 := by decide
    refine va_copyi hx hb (by rw [hml]; exact hl.2.1.symm) hown (hts _ (zml_in hml0 _ (List.mem_singleton.mpr rfl))) (hts _ (zot_in _ (by simp [zotW]))) (hts _ (zot_in _ (by simp [zotW]))) (hts _ (zot_in _ (by simp [zotW]))) hK hP (zws_D hAp I G) hS q1 q0 0 0 he1 he rfl rfl rfl (by decide) (by decide) (nI_pos (by omega)) (by rw [h0, hcl, h3]; omega) (by rw [h0, hcl]; omega) (fun i hi => rfl) (by omega) (by show _ + (7 + 11) ≤ _; omega) hdg (fun H1 locs1 hP1 hD1 hS1 => ?_)
    have e := zws_set (cI := cI) (cZ := cZ) (cS := cS) (ad := ad) (I := I) (I' := zcp I a0 j0 a j (zal a)) (G := G) (G' := G) (e := .inl (cI, zal a, .inl (va_cpy (fun k => I a0 j0 k) (fun k => I a j k) (0 : Int32).toNatClampNeg (0 : Int32).toNatClampNeg (nI (zal a)).toNatClampNeg))) hq (by
      rw [zce_1 h1, h0, hcl]
      congr 4
      funext k'
      unfold zcp va_cpy
      by_cases hk : k' < zal a
      · rw [if_pos ⟨rfl, rfl, hk⟩, if_pos (by omega)]
        simp
      · rw [if_neg (fun z => hk z.2.2), if_neg (by omega)]) (fun q _ hne => by
      have key : ∀ k', zcp I a0 j0 a j (zal a) q.1 q.2 k' = I q.1 q.2 k' := by
        intro k'
        unfold zcp
        rw [if_neg]
        intro z
        exact hne (Prod.ext z.1 z.2.1)
      unfold zce zfs zval
      simp only [key])
    rw [e] at hP1
    exact k H1 locs1 ls hP1 hS1 hl hG hv.2.2.2.2.2 hL
  · rw [if_neg q]
    exact trivial
end
end
section
/-! texts, the table, constants of the pool, switches -/
section
variable {dC : Nat → ClassId} {dI : Nat → Nat → Nat} {cI cZ cS : ClassId} {ad : zAD} {adV : Nat → Nat} {A : Nat → Prop} {p : Program} {l : Launch} {e : Env} {R : Room} {s : State} {m : MethodId} {args : Array Value} {below : List Frame} {meth : Method} {c : Code} {d own ret nL : Nat} {cc : ByteArray}
variable {pcs : List Nat} {pc npc : Nat} {L : zXL} {S : List zAV} {I : zMI} {G : zMR}
theorem zx_ldcs (X : zCx dC dI cI cZ cS ad adV A p R s m args meth c d own ret nL cc) {x a : Nat} (h : (own, x, a, 0) ∈ zSL) (hdg : decode cc pc = .ok (.ldc x, 2)) : zGd pcs pc (pc + 2) (zP dC dI cI cZ cS ad adV A p l e R s m args below meth c nL) L S I G (zex (41, a, 0, 0) L S I G) := by
  obtain ⟨hx, hb, hml, hown, hts, hlk, hrt, hK, hSt, hAp, hR⟩ := X
  show zGd _ _ _ _ _ _ _ _ (if a < 6 then _ else _)
  by_cases q : a < 6
  · rw [if_pos q]
    intro r k H locs ls hP hS hl hG hv hL
    have h6 : vk_R (zcn own) x (zstT.getD a "") (ad 60 a) s := hSt.2.2.2.2.2 (own, x, a, 0) h
    have hv' : zVs (zr 60 a :: S) := by
      refine And.intro ?_ hv
      show (60, a) ∈ zo ∨ _
      exact Or.inr (Or.inl rfl)
    have k' := k H locs ls hP hS hl hG hv' hL
    exact va_ldcS (tx := zstT.getD a "") (q := ad 60 a) hx hb hown h6 hdg k'
  · rw [if_neg q]
    exact trivial
theorem zx_ldc (X : zCx dC dI cI cZ cS ad adV A p R s m args meth c d 10 ret nL cc) (hdg : decode cc pc = .ok (.ldc 188, 2)) : zGd pcs pc (pc + 2) (zP dC dI cI cZ cS ad adV A p l e R s m args below meth c nL) L S I G (zex (3, 0, 0, 100000) L S I G) := by
  obtain ⟨hx, hb, hml, hown, hts, hlk, hrt, hK, hSt, hAp, hR⟩ := X
  exact fun r k H locs ls hP hS hl hG hv hL => lv_ldc hx hb hown (hts _ (zot_in (.constant RX10 188 100000) (by simp [zotW]))) hdg (k H locs ls hP hS hl hG ⟨trivial, hv⟩ hL)
theorem zx_ldc2a (X : zCx dC dI cI cZ cS ad adV A p R s m args meth c d 9 ret nL cc) (hdg : decode cc pc = .ok (.ldc2_w 220, 3)) : zGd pcs pc (pc + 3) (zP dC dI cI cZ cS ad adV A p l e R s m args below meth c nL) L S I G (zex (47, 0, 0, 0) L S I G) := by
  obtain ⟨hx, hb, hml, hown, hts, hlk, hrt, hK, hSt, hAp, hR⟩ := X
  exact fun r k H locs ls hP hS hl hG hv hL => lv_ldc2 hx hb hown (hts _ (zot_in (.constantLong RX9 220 (-9223372036854775808)) (by simp [zotW]))) hdg (k H locs ls hP hS hl hG ⟨trivial, hv⟩ hL)
theorem zx_ldc2b (X : zCx dC dI cI cZ cS ad adV A p R s m args meth c d 10 ret nL cc) (hdg : decode cc pc = .ok (.ldc2_w 195, 3)) : zGd pcs pc (pc + 3) (zP dC dI cI cZ cS ad adV A p l e R s m args below meth c nL) L S I G (zex (47, 0, 0, 0) L S I G) := by
  obtain ⟨hx, hb, hml, hown, hts, hlk, hrt, hK, hSt, hAp, hR⟩ := X
  exact fun r k H locs ls hP hS hl hG hv hL => lv_ldc2 hx hb hown (hts _ (zot_in (.constantLong RX10 195 (-9223372036854775808)) (by simp [zotW]))) hdg (k H locs ls hP hS hl hG ⟨trivial, hv⟩ hL)
theorem zx_ldc2c (X : zCx dC dI cI cZ cS ad adV A p R s m args meth c d 10 ret nL cc) (hdg : decode cc pc = .ok (.ldc2_w 197, 3)) : zGd pcs pc (pc + 3) (zP dC dI cI cZ cS ad adV A p l e R s m args below meth c nL) L S I G (zex (32, 0, 0, 40) L S I G) := by
  obtain ⟨hx, hb, hml, hown, hts, hlk, hrt, hK, hSt, hAp, hR⟩ := X
  intro r k H locs ls hP hS hl hG hv hL
  have e : (40 : Int32).toInt64 = 40 := by decide
  have k' := k H locs ls hP hS hl hG ⟨trivial, hv⟩ hL
  have e2 : zcv ad (zl (40 : Int32).toInt64) = .long 40 := by rw [e]; rfl
  rw [List.map_cons, e2] at k'
  exact lv_ldc2 hx hb hown (hts _ (zot_in (.constantLong RX10 197 40) (by simp [zotW]))) hdg k'
theorem zx_ldc2d (X : zCx dC dI cI cZ cS ad adV A p R s m args meth c d 10 ret nL cc) (hdg : decode cc pc = .ok (.ldc2_w 203, 3)) : zGd pcs pc (pc + 3) (zP dC dI cI cZ cS ad adV A p l e R s m args below meth c nL) L S I G (zex (32, 0, 0, 4) L S I G) := by
  obtain ⟨hx, hb, hml, hown, hts, hlk, hrt, hK, hSt, hAp, hR⟩ := X
  intro r k H locs ls hP hS hl hG hv hL
  have e : (4 : Int32).toInt64 = 4 := by decide
  have k' := k H locs ls hP hS hl hG ⟨trivial, hv⟩ hL
  have e2 : zcv ad (zl (4 : Int32).toInt64) = .long 4 := by rw [e]; rfl
  rw [List.map_cons, e2] at k'
  exact lv_ldc2 hx hb hown (hts _ (zot_in (.constantLong RX10 203 4) (by simp [zotW]))) hdg k'
theorem zx_getstatic (X : zCx dC dI cI cZ cS ad adV A p R s m args meth c d 4 ret nL cc) (hdg : decode cc pc = .ok (.getstatic 37, 3)) : zGd pcs pc (pc + 3) (zP dC dI cI cZ cS ad adV A p l e R s m args below meth c nL) L S I G (zex (45, 0, 0, 0) L S I G) := by
  obtain ⟨hx, hb, hml, hown, hts, hlk, hrt, hK, hSt, hAp, hR⟩ := X
  exact fun r k H locs ls hP hS hl hG hv hL => va_gets hx hb hSt.2.1 hS hown (hts _ (zot_in (.fieldLink RX4 37 "EggDrop$Layers" "ABOVE" "[I") (by simp [zotW]))) (fun _ h => h) hdg (k H locs ls hP hS hl hG ⟨Or.inr (Or.inr ⟨rfl, rfl⟩), hv⟩ hL)
theorem ztg_of {off : Int} {a : Nat} (h : ztg pcs pc off a = true) : (pc : Int) + off = (zgn pcs a : Int) ∧ a < pcs.length := by
  rw [ztg, Bool.and_eq_true] at h
  exact ⟨of_decide_eq_true h.1, of_decide_eq_true h.2⟩
theorem zofInt {k : Int} (h1 : -65536 ≤ k) (h2 : k ≤ 65536) : (Int32.ofInt k).toInt = k := by
  rw [Int32.toInt_ofInt]
  have hsz : ((Int32.size : Nat) : Int) = 4294967296 := rfl
  exact Int.bmod_eq_of_le (by rw [hsz]; omega) (by rw [hsz]; omega)
/-- what a table's cases come to -/
theorem zsw_t {x : Int32} {s0 : zXS} {df : Nat} : ∀ (os : List Int) (qs : List (Int32 × Nat)) (lo : Int), zswt pcs pc lo os qs = true → -65536 ≤ lo → lo + os.length ≤ 65537 →
    (zsw qs df x s0 = zeJ df s0 ∧ (x.toInt < lo ∨ lo + os.length ≤ x.toInt)) ∨ ∃ (off : Int) (b : Nat), zsw qs df x s0 = zeJ b s0 ∧ os[(x.toInt - lo).toNat]? = some off ∧ ztg pcs pc off b = true ∧ lo ≤ x.toInt ∧ x.toInt < lo + os.length := by
  intro os
  induction os with
  | nil =>
    intro qs lo h h1 h2
    cases qs with
    | cons q qs => cases h
    | nil =>
      refine Or.inl ⟨rfl, ?_⟩
      simp only [List.length_nil]
      omega
  | cons o os ih =>
    intro qs lo h h1 h2
    cases qs with
    | nil => cases h
    | cons q qs =>
      rw [zswt, Bool.and_eq_true, Bool.and_eq_true] at h
      obtain ⟨g1, g2, g3⟩ := h
      have g1 := of_decide_eq_true g1
      simp only [List.length_cons] at h2
      have h2' : lo + (os.length : Int) ≤ 65536 := by omega
      have e0 : (Int32.ofInt lo).toInt = lo := zofInt h1 (by omega)
      rw [zsw]
      by_cases hq : x = q.1
      · rw [if_pos hq]
        refine Or.inr ⟨o, q.2, rfl, ?_, g2, ?_, ?_⟩
        · rw [hq, g1, e0]
          simp
        · rw [hq, g1, e0]; omega
        · rw [hq, g1, e0]; simp only [List.length_cons]; omega
      · rw [if_neg hq]
        have hne : x.toInt ≠ lo := by
          intro z
          exact hq (by rw [g1]; exact Int32.toInt_inj.mp (z.trans e0.symm))
        rcases ih qs (lo + 1) g3 (by omega) (by omega) with ⟨e1, e2⟩ | ⟨off, b, e1, e2, e3, e4, e5⟩
        · refine Or.inl ⟨e1, ?_⟩
          simp only [List.length_cons]
          omega
        · refine Or.inr ⟨off, b, e1, ?_, e3, by omega, by simp only [List.length_cons]; omega⟩
          have : (x.toInt - lo).toNat = (x.toInt - (lo + 1)).toNat + 1 := by omega
          rw [this, List.getElem?_cons_succ]
          exact e2
theorem zx_tableswitch (X : zCx dC dI cI cZ cS ad adV A p R s m args meth c d own ret nL cc) {df lo hi : Int} {offs : Array Int} {len a b : Nat} (h1 : hi = lo + offs.toList.length - 1 ∧ -65536 ≤ lo ∧ hi ≤ 65536) (h2 : ztg pcs pc df (zgsw zSW a).2 = true) (h3 : zswt pcs pc lo offs.toList (zgsw zSW a).1 = true) (hdg : decode cc pc = .ok (.tableswitch df lo hi offs, len)) : zGd pcs pc (pc + len) (zP dC dI cI cZ cS ad adV A p l e R s m args below meth c nL) L S I G (zex (38, a, b, 0) L S I G) := by
  obtain ⟨hx, hb, hml, hown, hts, hlk, hrt, hK, hSt, hAp, hR⟩ := X
  rcases S with _ | ⟨v1, S⟩
  · exact trivial
  rcases v1 with x | y | y
  rotate_left
  · exact trivial
  · exact trivial
  show zGd _ _ _ _ _ _ _ _ (zsw (zgsw zSW a).1 (zgsw zSW a).2 x (L, S, I, G))
  rcases zsw_t (x := x) (s0 := (L, S, I, G)) (df := (zgsw zSW a).2) offs.toList (zgsw zSW a).1 lo h3 h1.2.1 (by omega) with ⟨e1, e2⟩ | ⟨off, q, e1, e2, e3, e4, e5⟩
  · rw [e1]
    exact ⟨(ztg_of h2).2, fun r k H locs ls hP hS hl hG hv hL => lv_tableOut hx hb hdg (by omega) (ztg_of h2).1 (k H locs ls hP hS hl hG hv.2 hL)⟩
  · rw [e1]
    exact ⟨(ztg_of e3).2, fun r k H locs ls hP hS hl hG hv hL => lv_tableIn hx hb hdg (by omega) (by omega) (by rw [← Array.getElem?_toList]; exact e2) (ztg_of e3).1 (k H locs ls hP hS hl hG hv.2 hL)⟩
theorem zsw_l {x : Int32} {s0 : zXS} {df : Nat} {dfo : Int} (hd : ztg pcs pc dfo df = true) : ∀ (os : List (Int × Int)) (qs : List (Int32 × Nat)), zlks pcs pc os qs = true →
    ∃ (off : Int) (b : Nat), zsw qs df x s0 = zeJ b s0 ∧ Op.lookupswitch.offset os dfo x.toInt = off ∧ ztg pcs pc off b = true := by
  intro os
  induction os with
  | nil =>
    intro qs h
    cases qs with
    | cons q qs => cases h
    | nil => exact ⟨dfo, df, rfl, rfl, hd⟩
  | cons o os ih =>
    intro qs h
    cases qs with
    | nil => cases h
    | cons q qs =>
      rw [zlks, Bool.and_eq_true, Bool.and_eq_true] at h
      obtain ⟨g1, g2, g3⟩ := h
      have g1 := of_decide_eq_true g1
      have e0 : (Int32.ofInt o.1).toInt = o.1 := zofInt g1.2.1 g1.2.2
      rw [zsw]
      by_cases hq : x = q.1
      · rw [if_pos hq]
        refine ⟨o.2, q.2, rfl, ?_, g2⟩
        have : x.toInt = o.1 := by rw [hq, g1.1, e0]
        obtain ⟨o1, o2⟩ := o
        simp [Op.lookupswitch.offset, this]
      · rw [if_neg hq]
        have hne : x.toInt ≠ o.1 := by
          intro z
          exact hq (by rw [g1.1]; exact Int32.toInt_inj.mp (z.trans e0.symm))
        obtain ⟨off, b, e1, e2, e3⟩ := ih qs g3
        refine ⟨off, b, e1, ?_, e3⟩
        obtain ⟨o1, o2⟩ := o
        rw [← e2]
        simp [Op.lookupswitch.offset, Ne.symm hne]
theorem zx_lookupswitch (X : zCx dC dI cI cZ cS ad adV A p R s m args meth c d own ret nL cc) {df : Int} {ps : Array (Int × Int)} {len a b : Nat} (h1 : (ps.toList.zip (ps.toList.drop 1)).all (fun (a, next) => decide (a.1 < next.1)) = true) (h2 : ztg pcs pc df (zgsw zSW a).2 = true) (h3 : zlks pcs pc ps.toList (zgsw zSW a).1 = true) (hdg : decode cc pc = .ok (.lookupswitch df ps, len)) : zGd pcs pc (pc + len) (zP dC dI cI cZ cS ad adV A p l e R s m args below meth c nL) L S I G (zex (38, a, b, 0) L S I G) := by
  obtain ⟨hx, hb, hml, hown, hts, hlk, hrt, hK, hSt, hAp, hR⟩ := X
  rcases S with _ | ⟨v1, S⟩
  · exact trivial
  rcases v1 with x | y | y
  rotate_left
  · exact trivial
  · exact trivial
  show zGd _ _ _ _ _ _ _ _ (zsw (zgsw zSW a).1 (zgsw zSW a).2 x (L, S, I, G))
  obtain ⟨off, q, e1, e2, e3⟩ := zsw_l (x := x) (s0 := (L, S, I, G)) h2 ps.toList (zgsw zSW a).1 h3
  rw [e1]
  exact ⟨(ztg_of e3).2, fun r k H locs ls hP hS hl hG hv hL => lv_lookup hx hb hdg h1 e2 (ztg_of e3).1 (k H locs ls hP hS hl hG hv.2 hL)⟩
end
end
section
/-! THE ABSTRACT MACHINE IS SOUND: what it comes to, the machine comes to -/
theorem zpop_ok : ∀ (n : Nat) (acc S a S' : List zAV), zpop n acc S = some (a, S') → ∃ t : List zAV, t.length = n ∧ S = t ++ S' ∧ a = t.reverse ++ acc := by
  intro n
  induction n with
  | zero => intro acc S a S' h; cases h; exact ⟨[], rfl, rfl, rfl⟩
  | succ n ih =>
    intro acc S a S' h
    cases S with
    | nil => cases h
    | cons v S =>
      obtain ⟨t, h1, h2, h3⟩ := ih _ _ _ _ h
      exact ⟨v :: t, by simp [h1], by simp [h2], by simp [h3]⟩
theorem zarg_in {ad : zAD} : ∀ (a : List zAV) (i k : Nat) (v : zAV), zgl (zarg a) k = some v → (i + k, zcv ad v) ∈ lv_args i (a.map (zcv ad)) := by
  intro a
  induction a with
  | nil => intro i k v h; cases h
  | cons b t ih =>
    intro i k v h
    rcases b with x | x | x
    · cases k with
      | zero => cases h; exact List.mem_cons_self
      | succ k =>
        have := ih (i + 1) k v h
        refine List.mem_cons_of_mem _ ?_
        rw [show i + (k + 1) = i + 1 + k by omega]
        exact this
    · cases k with
      | zero => cases h; exact List.mem_cons_self
      | succ k =>
        cases k with
        | zero => cases h
        | succ k =>
          have := ih (i + 2) k v h
          refine List.mem_cons_of_mem _ ?_
          rw [show i + (k + 1 + 1) = i + 2 + k by omega]
          exact this
    · cases k with
      | zero => cases h; exact List.mem_cons_self
      | succ k =>
        have := ih (i + 1) k v h
        refine List.mem_cons_of_mem _ ?_
        rw [show i + (k + 1) = i + 1 + k by omega]
        cases x <;> exact this
theorem zarg_len {ad : zAD} : ∀ (a : List zAV), (lg_sl (a.map (zcv ad))).length = (zarg a).length := by
  intro a
  induction a with
  | nil => rfl
  | cons b t ih =>
    have e : ∀ v : Value, ∀ vs : List Value, lg_sl (v :: vs) = (if v.category = 2 then [Slot.val v, Slot.second] else [Slot.val v]) ++ lg_sl vs := fun v vs => rfl
    rw [List.map_cons, e, List.length_append, ih]
    rcases b with x | x | x | x
    · show _ = (_ :: zarg t).length
      rw [if_neg (by show ¬ (1 : Nat) = 2; decide)]
      simp
      omega
    · show _ = (_ :: _ :: zarg t).length
      rw [if_pos (show (zcv ad (.inr (.inl x))).category = 2 from rfl)]
      simp
      omega
    · show _ = (_ :: zarg t).length
      rw [if_neg (by show ¬ (1 : Nat) = 2; decide)]
      simp
      omega
    · show _ = (_ :: zarg t).length
      rw [if_neg (by show ¬ (1 : Nat) = 2; decide)]
      simp
      omega
theorem zpad_len : ∀ (n : Nat) (L : zXL), (zpad n L).length = n := by
  intro n
  induction n with
  | zero => intro L; rfl
  | succ n ih => intro L; cases L <;> simp [zpad, ih]
theorem zpad_get : ∀ (n : Nat) (L : zXL) (k : Nat) (v : zAV), zgl (zpad n L) k = some v → zgl L k = some v := by
  intro n
  induction n with
  | zero => intro L k v h; cases h
  | succ n ih =>
    intro L k v h
    cases L with
    | nil =>
      cases k with
      | zero => cases h
      | succ k => have := ih [] k v h; cases this
    | cons a t =>
      cases k with
      | zero => exact h
      | succ k => exact ih t k v h
theorem zfits_ok : ∀ (L : zXL) (n : Nat), zfits L n = true → L.length ≤ n := by
  intro L
  induction L with
  | nil => intro n _; simp
  | cons a t ih =>
    intro n h
    cases n with
    | zero => cases h
    | succ n => have := ih n h; simp; omega
theorem zarg_V : ∀ (a : List zAV), zVs a → zVl (zarg a) := by
  intro a
  induction a with
  | nil => intro _ k v h; cases h
  | cons b t ih =>
    intro hv k v h
    rcases b with x | x | x
    · cases k with
      | zero => cases h; exact hv.1
      | succ k => exact ih hv.2 k v h
    · cases k with
      | zero => cases h; exact hv.1
      | succ k =>
        cases k with
        | zero => cases h
        | succ k => exact ih hv.2 k v h
    · cases k with
      | zero => cases h; exact hv.1
      | succ k => cases x <;> exact ih hv.2 k v h
theorem zVs_app : ∀ {a b : List zAV}, zVs (a ++ b) ↔ zVs a ∧ zVs b := by
  intro a
  induction a with
  | nil => intro b; exact ⟨fun h => ⟨trivial, h⟩, fun h => h.2⟩
  | cons v t ih => intro b; exact ⟨fun h => ⟨⟨h.1, (ih.mp h.2).1⟩, (ih.mp h.2).2⟩, fun h => ⟨h.1.1, ih.mpr ⟨h.1.2, h.2⟩⟩⟩
theorem zVs_rev : ∀ {a : List zAV}, zVs a → zVs a.reverse := by
  intro a
  induction a with
  | nil => intro h; exact h
  | cons v t ih => intro h; rw [List.reverse_cons]; exact zVs_app.mpr ⟨ih h.2, h.1, trivial⟩
def zrm (d : Nat) : Room := { frames := d + 8, cells := 0, slots := 0, locals := 64 * d + 512 }
theorem zgp_zckm : ∀ m, m < zmT.length → zckm m = true := by
  intro m hm
  have hl : zmT.length = 176 := by decide +kernel
  rw [hl] at hm
  by_cases h_zkc_0_0 : m < 9
  · have h1 : 0 ≤ m := by omega
    refine zkc_0_0 m ?_
    simp only [List.mem_cons, List.not_mem_nil, or_false]
    omega
  by_cases h_zkc_1_0 : m < 11
  · have h1 : 9 ≤ m := by omega
    refine zkc_1_0 m ?_
    simp only [List.mem_cons, List.not_mem_nil, or_false]
    omega
  by_cases h_zkc_2_0 : m < 15
  · have h1 : 11 ≤ m := by omega
    refine zkc_2_0 m ?_
    simp only [List.mem_cons, List.not_mem_nil, or_false]
    omega
  by_cases h_zkc_3_0 : m < 26
  · have h1 : 15 ≤ m := by omega
    refine zkc_3_0 m ?_
    simp only [List.mem_cons, List.not_mem_nil, or_false]
    omega
  by_cases h_zkc_4_0 : m < 35
  · have h1 : 26 ≤ m := by omega
    refine zkc_4_0 m ?_
    simp only [List.mem_cons, List.not_mem_nil, or_false]
    omega
  by_cases h_zkc_5_0 : m < 48
  · have h1 : 35 ≤ m := by omega
    refine zkc_5_0 m ?_
    simp only [List.mem_cons, List.not_mem_nil, or_false]
    omega
  by_cases h_zkc_6_0 : m < 58
  · have h1 : 48 ≤ m := by omega
    refine zkc_6_0 m ?_
    simp only [List.mem_cons, List.not_mem_nil, or_false]
    omega
  by_cases h_zkc_7_0 : m < 61
  · have h1 : 58 ≤ m := by omega
    refine zkc_7_0 m ?_
    simp only [List.mem_cons, List.not_mem_nil, or_false]
    omega
  by_cases h_zkc_8_0 : m < 64
  · have h1 : 61 ≤ m := by omega
    refine zkc_8_0 m ?_
    simp only [List.mem_cons, List.not_mem_nil, or_false]
    omega
  by_cases h_zkc_9_0 : m < 87
  · have h1 : 64 ≤ m := by omega
    refine zkc_9_0 m ?_
    simp only [List.mem_cons, List.not_mem_nil, or_false]
    omega
  by_cases h_zkc_9_23 : m < 109
  · have h1 : 87 ≤ m := by omega
    refine zkc_9_23 m ?_
    simp only [List.mem_cons, List.not_mem_nil, or_false]
    omega
  by_cases h_zkc_10_0 : m < 132
  · have h1 : 109 ≤ m := by omega
    refine zkc_10_0 m ?_
    simp only [List.mem_cons, List.not_mem_nil, or_false]
    omega
  by_cases h_zkc_10_23 : m < 155
  · have h1 : 132 ≤ m := by omega
    refine zkc_10_23 m ?_
    simp only [List.mem_cons, List.not_mem_nil, or_false]
    omega
  by_cases h_zkc_10_46 : m < 176
  · have h1 : 155 ≤ m := by omega
    refine zkc_10_46 m ?_
    simp only [List.mem_cons, List.not_mem_nil, or_false]
    omega
  exact absurd hm (by omega)
theorem zmt_in : ∀ m, m < zmT.length → zmt m ∈ zmT := by
  intro m h
  have key : ∀ (l : List (MethodName × (ByteArray × (Nat × Option FieldType)))) (k : Nat), k < l.length → zgt l k ∈ l := by
    intro l
    induction l with
    | nil => intro k hk; exact absurd hk (by simp)
    | cons a t ih =>
      intro k hk
      cases k with
      | zero => exact List.mem_cons_self
      | succ k => exact List.mem_cons_of_mem _ (ih k (by simp at hk; omega))
  exact key zmT m h
theorem zcb_ok {own ret : Nat} {pcs : List Nat} {cc : ByteArray} : ∀ (qs : List Nat) (bs : List (List zAI)), zcb own ret pcs cc qs bs = true → ∀ b, b < qs.length → zck own ret pcs cc (zgn qs b) (zblk bs b) = true := by
  intro qs
  induction qs with
  | nil => intro bs h b hb; exact absurd hb (by simp)
  | cons q qs ih =>
    intro bs h b hb
    cases bs with
    | nil => cases h
    | cons B bs =>
      rw [zcb, Bool.and_eq_true] at h
      cases b with
      | zero => exact h.1
      | succ b => exact ih bs h.2 b (by simp at hb; omega)
section
variable {dC : Nat → ClassId} {dI : Nat → Nat → Nat} {cI cZ cS : ClassId} {ad : zAD} {adV : Nat → Nat} {A : Nat → Prop}
/-- behind a call -/
theorem z_after {p : Program} {l : Launch} {e : Env} {R : Room} {s : State} {m : MethodId} {args : Array Value} {below : List Frame} {meth : Method} {c : Code} {H : Heap} {locs : List Loc} {Q : State → Prop} {pc : Nat} {ls : Array Slot} {st0 rest : List Value} {r : zRS} {a : Array Value}
    (hr : va_Run p l e R s m args below meth c H locs 0 0 0 0 (F0 m pc ls st0) rest (zQ dC dI cI cZ cS ad adV A r a) A) (hS : va_S A s.heap H locs)
    (kk : ∀ (H1 : Heap) (locs1 : List Loc), va_P (dC, dI) vwCl (zws cI cZ cS ad r.2.1 r.2.2) H1 → zVG r.2.2 → zVo r.1 → va_S A s.heap H1 locs1 → W p l e R s m args below meth c H1 locs1 0 0 Q (F0 m (pc + 3) ls ((r.1.map (zcv ad)).toList ++ rest))) :
    W p l e R s m args below meth c H locs 0 0 Q (F0 m pc ls st0) := by
  intro T hT X
  obtain ⟨v, st₀, t, T', L, h0, X', hL, e1, e2, ⟨⟨hv, hvo, hwd⟩, hz, hk⟩, st⟩ := hr T hT X
  have hv' : v = r.1.map (zcv ad) := by cases hv; rfl
  subst hv'
  rw [h0] at hz hk
  obtain ⟨t2, a1, b1⟩ := kk T'.heap (locs ++ L) (by rw [e1]; exact hwd.1) hwd.2.2.2 hvo
    ⟨Nat.le_trans hS.1 (by rw [e1]; exact hz), fun q h1 h2 => by rw [e1, hk q (Nat.lt_of_lt_of_le h1 hS.1) h2]; exact hS.2.1 q h1 h2, fun q hq => by
      rcases List.mem_append.mp hq with h | h
      · exact hS.2.2 q h
      · exact hL q h⟩ T' rfl X'
  exact ⟨t2, st t2 a1, b1⟩
theorem zblind {av : List Value} {I : zMI} {G : zMR} : FrameBlind (va_Pc av (zwd dC dI cI cZ cS ad adV A I G)) := fun a U g mk h => by
  obtain ⟨h0, h1, h2, h3, h4⟩ := h
  exact ⟨h0, h1, va_K.moved (u := U) (U := U.calling g mk a) (Vm.Alike.refl U.vm) h2, h3.blind, h4⟩
theorem zpre {s : State} {H : Heap} {locs : List Loc} {I : zMI} {G : zMR} (hP : va_P (dC, dI) vwCl (zws cI cZ cS ad I G) H) (hK : va_K (dC, dI) vwCl (ztys cI cZ cS) s) (hSt : zSt ad adV A s s.heap) (hS : va_S A s.heap H locs) (hG : zVG G) (av : List Value) : ∀ U : State, U.heap = H → s.WarmedH U.vm → va_Pc av (zwd dC dI cI cZ cS ad adV A I G) av.toArray U :=
  fun U hU hW => ⟨rfl, by rw [hU]; exact hP, va_K.moved hW.alike hK, hSt.at hS hU hW, hG⟩
end
end
section
def zrm0 : Room := { frames := 6, cells := 0, slots := 0, locals := 400 }
theorem zgood {ws : List Cond} (h : ∀ w ∈ ws, w ∈ zgw) : GoodIn zgw ws := fun w hw => ⟨h w hw, good_of_word (zgw_in (h w hw)).2⟩
section
variable {dC : Nat → ClassId} {dI : Nat → Nat → Nat} {cI cZ cS : ClassId} {ad : zAD} {adV : Nat → Nat} {A : Nat → Prop} {p : Program} {l : Launch} {e : Env} {R : Room} {s : State} {m : MethodId} {args : Array Value} {below : List Frame} {meth : Method} {c : Code} {d own ret nL : Nat} {cc : ByteArray}
variable {pcs : List Nat} {pc npc : Nat} {L : zXL} {S : List zAV} {I : zMI} {G : zMR}
theorem zcallV {Q : State → Prop} (X : zCx dC dI cI cZ cS ad adV A p R s m args meth c d own ret nL cc) {y : MethodName} {bytes : ByteArray} {mL : Nat} {rt : Option FieldType} {rm : Room} {r : zRS} {As : List Value} {b : Nat} {C : String} {x : Nat}
    (hM : Met l y (.code y bytes mL rt :: zgw) rm (va_Pc (.ref b :: As) (zwd dC dI cI cZ cS ad adV A I G)) (zQ dC dI cI cZ cS ad adV A r) 0 0 A)
    (hw : ∀ w ∈ [Cond.methodLink (zcn own) x y, Cond.instanceMethod y, Cond.selects C y y, Cond.initialized C, Cond.code y bytes mL rt], w ∈ zgw)
    (hrm : rm.cells = 0 ∧ rm.slots = 0 ∧ rm.frames + 1 ≤ R.frames ∧ 8 + (mL + 11) + rm.locals ≤ R.locals)
    (hy : y.cls = C ∧ y.cls ≠ "java/lang/invoke/MethodHandle" ∧ y.cls ≠ "java/lang/invoke/VarHandle" ∧ (parseMethodDescriptor y.desc).map (fun d => d.parameters.length) = some As.length) {S0 : List zAV} (hsh : zshort S0 = true) {H : Heap} {locs : List Loc} {ls : Array Slot}
    (hP : va_P (dC, dI) vwCl (zws cI cZ cS ad I G) H) (hS : va_S A s.heap H locs) (hl : ls.size = nL) (hG : zVG G) (hrecv : ∃ cellB : Cell, H[b]? = some cellB ∧ cellB.vm.isStatics = false ∧ s.vm.findClass C = some cellB.cls) (hdg : decode cc pc = .ok (.invokevirtual x, 3))
    (kk : ∀ (H1 : Heap) (locs1 : List Loc), va_P (dC, dI) vwCl (zws cI cZ cS ad r.2.1 r.2.2) H1 → zVG r.2.2 → zVo r.1 → va_S A s.heap H1 locs1 → W p l e R s m args below meth c H1 locs1 0 0 Q (F0 m (pc + 3) ls ((r.1.map (zcv ad)).toList ++ S0.map (zcv ad)))) :
    W p l e R s m args below meth c H locs 0 0 Q (F0 m pc ls (As.reverse ++ .ref b :: S0.map (zcv ad))) := by
  obtain ⟨hx, hb, hml, hown, hts, hlk, hrt, hK, hSt, hAp, hR⟩ := X
  have hg : GoodIn zgw (wsV (zcn own) x C y (.code y bytes mL rt :: zgw)) := zgood (fun w hw' => by
    rcases List.mem_append.mp hw' with h | h
    · exact hw w (by
        simp only [List.mem_cons, List.not_mem_nil, or_false] at h ⊢
        rcases h with h | h | h | h
        · exact Or.inl h
        · exact Or.inr (Or.inl h)
        · exact Or.inr (Or.inr (Or.inl h))
        · exact Or.inr (Or.inr (Or.inr (Or.inl h))))
    · rcases List.mem_cons.mp h with h | h
      · exact hw w (by rw [h]; simp)
      · exact h)
  exact z_after (va_runV (rest := S0.map (zcv ad)) (As := As) ⟨hx, hb, hml, hown, hts⟩ hM (cwV As.length hts hg rfl hrm.1 hrm.2.1 hy hrm.2.2) ⟨zblind, hrecv, zpre hP hK hSt hS hG _⟩ rfl rfl hl rfl (lv_room (zshort_sum hsh)) hdg ⟨Nat.zero_le _, Nat.zero_le _⟩) hS kk
theorem zcallS {Q : State → Prop} (X : zCx dC dI cI cZ cS ad adV A p R s m args meth c d own ret nL cc) {y : MethodName} {bytes : ByteArray} {mL : Nat} {rt : Option FieldType} {rm : Room} {r : zRS} {As : List Value} {x : Nat}
    (hM : Met l y (.code y bytes mL rt :: zgw) rm (va_Pc As (zwd dC dI cI cZ cS ad adV A I G)) (zQ dC dI cI cZ cS ad adV A r) 0 0 A)
    (hw : ∀ w ∈ [Cond.methodLink (zcn own) x y, Cond.static y, Cond.initialized y.cls, Cond.code y bytes mL rt], w ∈ zgw)
    (hrm : rm.cells = 0 ∧ rm.slots = 0 ∧ rm.frames + 1 ≤ R.frames ∧ 8 + (mL + 11) + rm.locals ≤ R.locals)
    (hy : y.cls ≠ "java/lang/invoke/MethodHandle" ∧ y.cls ≠ "java/lang/invoke/VarHandle" ∧ (parseMethodDescriptor y.desc).map (fun d => d.parameters.length) = some As.length) {S0 : List zAV} (hsh : zshort S0 = true) {H : Heap} {locs : List Loc} {ls : Array Slot}
    (hP : va_P (dC, dI) vwCl (zws cI cZ cS ad I G) H) (hS : va_S A s.heap H locs) (hl : ls.size = nL) (hG : zVG G) (hdg : decode cc pc = .ok (.invokestatic x, 3))
    (kk : ∀ (H1 : Heap) (locs1 : List Loc), va_P (dC, dI) vwCl (zws cI cZ cS ad r.2.1 r.2.2) H1 → zVG r.2.2 → zVo r.1 → va_S A s.heap H1 locs1 → W p l e R s m args below meth c H1 locs1 0 0 Q (F0 m (pc + 3) ls ((r.1.map (zcv ad)).toList ++ S0.map (zcv ad)))) :
    W p l e R s m args below meth c H locs 0 0 Q (F0 m pc ls (As.reverse ++ S0.map (zcv ad))) := by
  obtain ⟨hx, hb, hml, hown, hts, hlk, hrt, hK, hSt, hAp, hR⟩ := X
  have hg : GoodIn zgw (va_wsS (zcn own) x y (.code y bytes mL rt :: zgw)) := zgood (fun w hw' => by
    rcases List.mem_append.mp hw' with h | h
    · exact hw w (by
        simp only [List.mem_cons, List.not_mem_nil, or_false] at h ⊢
        rcases h with h | h | h
        · exact Or.inl h
        · exact Or.inr (Or.inl h)
        · exact Or.inr (Or.inr (Or.inl h)))
    · rcases List.mem_cons.mp h with h | h
      · exact hw w (by rw [h]; simp)
      · exact h)
  exact z_after (va_runS (rest := S0.map (zcv ad)) (As := As) ⟨hx, hb, hml, hown, hts⟩ hM (va_cwS As.length hts hg rfl hrm.1 hrm.2.1 hy hrm.2.2) ⟨zblind, zpre hP hK hSt hS hG _⟩ rfl rfl hl rfl (lv_room (zshort_sum hsh)) hdg ⟨Nat.zero_le _, Nat.zero_le _⟩) hS kk
theorem zsh4 {a : Nat} (h : zsh a = 4) : a = 60 := by
  unfold zsh at h
  by_cases q1 : a ≤ 10
  · rw [if_pos q1] at h; cases h
  rw [if_neg q1] at h
  by_cases q2 : a = 43
  · rw [if_pos q2] at h; cases h
  rw [if_neg q2] at h
  by_cases q3 : a = 51
  · rw [if_pos q3] at h; cases h
  rw [if_neg q3] at h
  by_cases q4 : a = 50
  · rw [if_pos q4] at h; cases h
  rw [if_neg q4] at h
  by_cases q5 : a = 60
  · exact q5
  rw [if_neg q5] at h
  by_cases q6 : a = 61
  · rw [if_pos q6] at h; cases h
  · rw [if_neg q6] at h; cases h
/-- what is asked of the JDK's texts -/
def zTx (dC : Nat → ClassId) (dI : Nat → Nat → Nat) (cI cZ cS : ClassId) (ad : zAD) (adV : Nat → Nat) (A : Nat → Prop) (l : Launch) : Prop :=
  (∀ (j : Nat) (I : zMI) (G : zMR), j < 6 → Met l yJ0_length_8abf5 (.code yJ0_length_8abf5 cJ0_length_8abf5 1 (some .int) :: zgw) zrm0 (va_Pc [.ref (ad 60 j)] (zwd dC dI cI cZ cS ad adV A I G)) (zQ dC dI cI cZ cS ad adV A (some (zi (nI (zst j).length)), I, G)) 0 0 A) ∧
  ∀ (j : Nat) (x : Int32) (I : zMI) (G : zMR), j < 6 → 0 ≤ x → x.toNatClampNeg < (zst j).length → Met l yJ0_charAt_5068e (.code yJ0_charAt_5068e cJ0_charAt_5068e 2 (some .char) :: zgw) zrm0 (va_Pc [.ref (ad 60 j), .int x] (zwd dC dI cI cZ cS ad adV A I G)) (zQ dC dI cI cZ cS ad adV A (some (zi (zgi (zst j) x.toNatClampNeg)), I, G)) 0 0 A
theorem zx_strlen (X : zCx dC dI cI cZ cS ad adV A p R s m args meth c d own ret nL cc) (hT : zTx dC dI cI cZ cS ad adV A l) {x : Nat} (hml0 : (own, x, 3, 0) ∈ zML) (hdg : decode cc pc = .ok (.invokevirtual x, 3)) : zGd pcs pc (pc + 3) (zP dC dI cI cZ cS ad adV A p l e R s m args below meth c nL) L S I G (zex (39, 0, 0, 0) L S I G) := by
  have hSt := X.2.2.2.2.2.2.2.2.1
  have hR := X.2.2.2.2.2.2.2.2.2.2
  rcases S with _ | ⟨v1, S⟩
  · exact trivial
  rcases v1 with y | y | y | ⟨a, j⟩
  · exact trivial
  · exact trivial
  · exact trivial
  show zGd _ _ _ _ _ _ _ _ (if zsh a = 4 ∧ zshort S = true ∧ j < 6 then _ else _)
  by_cases q : zsh a = 4 ∧ zshort S = true ∧ j < 6
  · rw [if_pos q]
    obtain ⟨q1, q2, q3⟩ := q
    have ha := zsh4 q1
    subst ha
    intro r k H locs ls hP hS hl hG hv hL
    refine zcallV (r := (some (zi (nI (zst j).length)), I, G)) (As := []) (C := RJ0) X (hT.1 j I G q3) ?_ ⟨rfl, rfl, by show 6 + 1 ≤ _; omega, by show 8 + (1 + 11) + 400 ≤ _; omega⟩ ⟨rfl, by decide, by decide, by decide +kernel⟩ q2 hP hS hl.2.1 hG (vk_recv hSt.1 q3 hS) hdg (fun H1 locs1 hP1 hG1 _ hS1 => k H1 locs1 ls hP1 hS1 hl hG1 ⟨trivial, hv.2⟩ hL)
    intro w hw
    simp only [List.mem_cons, List.not_mem_nil, or_false] at hw
    rcases hw with rfl | rfl | rfl | rfl | rfl
    · exact zml_in hml0 _ (List.mem_singleton.mpr rfl)
    · exact zot_in _ (by simp [zotW])
    · exact zot_in _ (by simp [zotW])
    · exact zot_in _ (by simp [zotW])
    · exact zc_J0_length_8abf5_in
  · rw [if_neg q]
    exact trivial
theorem zx_charat (X : zCx dC dI cI cZ cS ad adV A p R s m args meth c d own ret nL cc) (hT : zTx dC dI cI cZ cS ad adV A l) {x : Nat} (hml0 : (own, x, 4, 0) ∈ zML) (hdg : decode cc pc = .ok (.invokevirtual x, 3)) : zGd pcs pc (pc + 3) (zP dC dI cI cZ cS ad adV A p l e R s m args below meth c nL) L S I G (zex (40, 0, 0, 0) L S I G) := by
  have hSt := X.2.2.2.2.2.2.2.2.1
  have hR := X.2.2.2.2.2.2.2.2.2.2
  rcases S with _ | ⟨v1, S⟩
  · exact trivial
  rcases v1 with x1 | y | y
  rotate_left
  · exact trivial
  · exact trivial
  rcases S with _ | ⟨v2, S⟩
  · exact trivial
  rcases v2 with y | y | y | ⟨a, j⟩
  · exact trivial
  · exact trivial
  · exact trivial
  show zGd _ _ _ _ _ _ _ _ (if zsh a = 4 ∧ zshort S = true ∧ j < 6 then (if 0 ≤ x1 ∧ x1.toNatClampNeg < (zst j).length then _ else _) else _)
  by_cases q : zsh a = 4 ∧ zshort S = true ∧ j < 6
  · rw [if_pos q]
    by_cases q4 : 0 ≤ x1 ∧ x1.toNatClampNeg < (zst j).length
    · rw [if_pos q4]
      obtain ⟨q1, q2, q3⟩ := q
      have ha := zsh4 q1
      subst ha
      intro r k H locs ls hP hS hl hG hv hL
      refine zcallV (r := (some (zi (zgi (zst j) x1.toNatClampNeg)), I, G)) (As := [.int x1]) (C := RJ0) X (hT.2 j x1 I G q3 q4.1 q4.2) ?_ ⟨rfl, rfl, by show 6 + 1 ≤ _; omega, by show 8 + (2 + 11) + 400 ≤ _; omega⟩ ⟨rfl, by decide, by decide, show (parseMethodDescriptor yJ0_charAt_5068e.desc).map (fun d => d.parameters.length) = some 1 by decide +kernel⟩ q2 hP hS hl.2.1 hG (vk_recv hSt.1 q3 hS) hdg (fun H1 locs1 hP1 hG1 _ hS1 => k H1 locs1 ls hP1 hS1 hl hG1 ⟨trivial, hv.2.2⟩ hL)
      intro w hw
      simp only [List.mem_cons, List.not_mem_nil, or_false] at hw
      rcases hw with rfl | rfl | rfl | rfl | rfl
      · exact zml_in hml0 _ (List.mem_singleton.mpr rfl)
      · exact zot_in _ (by simp [zotW])
      · exact zot_in _ (by simp [zotW])
      · exact zot_in _ (by simp [zotW])
      · exact zc_J0_charAt_5068e_in
    · rw [if_neg q4]
      exact trivial
  · rw [if_neg q]
    exact trivial
/-- every instruction that is no call of ours -/
theorem zx_all (hT : zTx dC dI cI cZ cS ad adV A l) {ai : zAI} {ins : Instr} {len : Nat} (X : zCx dC dI cI cZ cS ad adV A p R s m args meth c d own ret nL cc) (hm : zmc own ret pcs pc ai ins len = true) (hdg : decode cc pc = .ok (ins, len)) :
    zGd pcs pc (pc + len) (zP dC dI cI cZ cS ad adV A p l e R s m args below meth c nL) L S I G (zex ai L S I G) ∨
    (∃ x k, ins = .invokevirtual x ∧ len = 3 ∧ ai = (58, k, 16 * ((zmu k).2.1 + 1) + (zmu k).1, 0) ∧ (own, x, 0, k) ∈ zML ∧ k < zmT.length) ∨
    ∃ x k, ins = .invokestatic x ∧ len = 3 ∧ ai = (23, k, (zmu k).2.1, 0) ∧ (own, x, 1, k) ∈ zML ∧ k < zmT.length := by
  cases ins with
  | iload k =>
    obtain ⟨h1, h2⟩ := of_decide_eq_true hm
    subst h1; subst h2
    exact Or.inl (zx_iload X hdg)
  | iload_n k =>
    obtain ⟨h1, h2⟩ := of_decide_eq_true hm
    subst h1; subst h2
    exact Or.inl (zx_iload_n X hdg)
  | aload k =>
    obtain ⟨h1, h2⟩ := of_decide_eq_true hm
    subst h1; subst h2
    exact Or.inl (zx_aload X hdg)
  | aload_n k =>
    obtain ⟨h1, h2⟩ := of_decide_eq_true hm
    subst h1; subst h2
    exact Or.inl (zx_aload_n X hdg)
  | lload k =>
    obtain ⟨h1, h2⟩ := of_decide_eq_true hm
    subst h1; subst h2
    exact Or.inl (zx_lload X hdg)
  | lload_n k =>
    obtain ⟨h1, h2⟩ := of_decide_eq_true hm
    subst h1; subst h2
    exact Or.inl (zx_lload_n X hdg)
  | istore k =>
    obtain ⟨h1, h2⟩ := of_decide_eq_true hm
    subst h1; subst h2
    exact Or.inl (zx_istore X hdg)
  | istore_n k =>
    obtain ⟨h1, h2⟩ := of_decide_eq_true hm
    subst h1; subst h2
    exact Or.inl (zx_istore_n X hdg)
  | astore k =>
    obtain ⟨h1, h2⟩ := of_decide_eq_true hm
    subst h1; subst h2
    exact Or.inl (zx_astore X hdg)
  | astore_n k =>
    obtain ⟨h1, h2⟩ := of_decide_eq_true hm
    subst h1; subst h2
    exact Or.inl (zx_astore_n X hdg)
  | lstore k =>
    obtain ⟨h1, h2⟩ := of_decide_eq_true hm
    subst h1; subst h2
    exact Or.inl (zx_lstore X hdg)
  | lstore_n k =>
    obtain ⟨h1, h2⟩ := of_decide_eq_true hm
    subst h1; subst h2
    exact Or.inl (zx_lstore_n X hdg)
  | iconst n =>
    obtain ⟨h1, h2⟩ := of_decide_eq_true hm
    subst h1; subst h2
    exact Or.inl (zx_iconst X hdg)
  | bipush n =>
    obtain ⟨h1, h2⟩ := of_decide_eq_true hm
    subst h1; subst h2
    exact Or.inl (zx_bipush X hdg)
  | sipush n =>
    obtain ⟨h1, h2⟩ := of_decide_eq_true hm
    subst h1; subst h2
    exact Or.inl (zx_sipush X hdg)
  | lconst n =>
    obtain ⟨h1, h2⟩ := of_decide_eq_true hm
    subst h1; subst h2
    exact Or.inl (zx_lconst X hdg)
  | iinc k n =>
    obtain ⟨h1, h2⟩ := of_decide_eq_true hm
    subst h1; subst h2
    exact Or.inl (zx_iinc X hdg)
  | iadd =>
    obtain ⟨h1, h2⟩ := of_decide_eq_true hm
    subst h1; subst h2
    exact Or.inl (zx_iadd X hdg)
  | isub =>
    obtain ⟨h1, h2⟩ := of_decide_eq_true hm
    subst h1; subst h2
    exact Or.inl (zx_isub X hdg)
  | imul =>
    obtain ⟨h1, h2⟩ := of_decide_eq_true hm
    subst h1; subst h2
    exact Or.inl (zx_imul X hdg)
  | iand =>
    obtain ⟨h1, h2⟩ := of_decide_eq_true hm
    subst h1; subst h2
    exact Or.inl (zx_iand X hdg)
  | ior =>
    obtain ⟨h1, h2⟩ := of_decide_eq_true hm
    subst h1; subst h2
    exact Or.inl (zx_ior X hdg)
  | ixor =>
    obtain ⟨h1, h2⟩ := of_decide_eq_true hm
    subst h1; subst h2
    exact Or.inl (zx_ixor X hdg)
  | ishl =>
    obtain ⟨h1, h2⟩ := of_decide_eq_true hm
    subst h1; subst h2
    exact Or.inl (zx_ishl X hdg)
  | ishr =>
    obtain ⟨h1, h2⟩ := of_decide_eq_true hm
    subst h1; subst h2
    exact Or.inl (zx_ishr X hdg)
  | idiv =>
    obtain ⟨h1, h2⟩ := of_decide_eq_true hm
    subst h1; subst h2
    exact Or.inl (zx_idiv X hdg)
  | irem =>
    obtain ⟨h1, h2⟩ := of_decide_eq_true hm
    subst h1; subst h2
    exact Or.inl (zx_irem X hdg)
  | ineg =>
    obtain ⟨h1, h2⟩ := of_decide_eq_true hm
    subst h1; subst h2
    exact Or.inl (zx_ineg X hdg)
  | iaload =>
    obtain ⟨h1, h2⟩ := of_decide_eq_true hm
    subst h1; subst h2
    exact Or.inl (zx_iaload X hdg)
  | iastore =>
    obtain ⟨h1, h2⟩ := of_decide_eq_true hm
    subst h1; subst h2
    exact Or.inl (zx_iastore X hdg)
  | baload =>
    obtain ⟨h1, h2⟩ := of_decide_eq_true hm
    subst h1; subst h2
    exact Or.inl (zx_baload X hdg)
  | bastore =>
    obtain ⟨h1, h2⟩ := of_decide_eq_true hm
    subst h1; subst h2
    exact Or.inl (zx_bastore X hdg)
  | arraylength =>
    obtain ⟨h1, h2⟩ := of_decide_eq_true hm
    subst h1; subst h2
    exact Or.inl (zx_arraylength X hdg)
  | aaload =>
    obtain ⟨h1, h2⟩ := of_decide_eq_true hm
    subst h1; subst h2
    exact Or.inl (zx_aaload X hdg)
  | dup =>
    obtain ⟨h1, h2⟩ := of_decide_eq_true hm
    subst h1; subst h2
    exact Or.inl (zx_dup X hdg)
  | dup2 =>
    obtain ⟨h1, h2⟩ := of_decide_eq_true hm
    subst h1; subst h2
    exact Or.inl (zx_dup2 X hdg)
  | pop =>
    obtain ⟨h1, h2⟩ := of_decide_eq_true hm
    subst h1; subst h2
    exact Or.inl (zx_pop X hdg)
  | i2l =>
    obtain ⟨h1, h2⟩ := of_decide_eq_true hm
    subst h1; subst h2
    exact Or.inl (zx_i2l X hdg)
  | ladd =>
    obtain ⟨h1, h2⟩ := of_decide_eq_true hm
    subst h1; subst h2
    exact Or.inl (zx_ladd X hdg)
  | lrem =>
    obtain ⟨h1, h2⟩ := of_decide_eq_true hm
    subst h1; subst h2
    exact Or.inl (zx_lrem X hdg)
  | ldiv =>
    obtain ⟨h1, h2⟩ := of_decide_eq_true hm
    subst h1; subst h2
    exact Or.inl (zx_ldiv X hdg)
  | lcmp =>
    obtain ⟨h1, h2⟩ := of_decide_eq_true hm
    subst h1; subst h2
    exact Or.inl (zx_lcmp X hdg)
  | if_icmp cd off =>
    have hm := Bool.and_eq_true_iff.mp hm
    obtain ⟨h1, h2⟩ := of_decide_eq_true hm.1
    subst h2
    have ht := ztg_of hm.2
    rw [h1]
    cases cd
    · exact Or.inl (zx_icmp_eq X ht hdg)
    · exact Or.inl (zx_icmp_ne X ht hdg)
    · exact Or.inl (zx_icmp_lt X ht hdg)
    · exact Or.inl (zx_icmp_ge X ht hdg)
    · exact Or.inl (zx_icmp_gt X ht hdg)
    · exact Or.inl (zx_icmp_le X ht hdg)
  | ifCond cd off =>
    have hm := Bool.and_eq_true_iff.mp hm
    obtain ⟨h1, h2⟩ := of_decide_eq_true hm.1
    subst h2
    have ht := ztg_of hm.2
    rw [h1]
    cases cd
    · exact Or.inl (zx_if_eq X ht hdg)
    · exact Or.inl (zx_if_ne X ht hdg)
    · exact Or.inl (zx_if_lt X ht hdg)
    · exact Or.inl (zx_if_ge X ht hdg)
    · exact Or.inl (zx_if_gt X ht hdg)
    · exact Or.inl (zx_if_le X ht hdg)
  | goto off =>
    have hm := Bool.and_eq_true_iff.mp hm
    obtain ⟨h1, h2⟩ := of_decide_eq_true hm.1
    subst h2
    have ht := ztg_of hm.2
    rw [h1]
    exact Or.inl (zx_goto X ht hdg)
  | getfield x =>
    have hm := Bool.and_eq_true_iff.mp hm
    obtain ⟨h1, h2⟩ := of_decide_eq_true hm.1
    subst h2
    exact Or.inl (zx_getfield X h1 (of_decide_eq_true hm.2) hdg)
  | putfield x =>
    have hm := Bool.and_eq_true_iff.mp hm
    obtain ⟨h1, h2⟩ := of_decide_eq_true hm.1
    subst h2
    have hm2 := Bool.and_eq_true_iff.mp hm.2
    exact Or.inl (zx_putfield X h1 (of_decide_eq_true hm2.1) (of_decide_eq_true hm2.2) hdg)
  | return_ =>
    obtain ⟨h1, h2, h3⟩ := of_decide_eq_true hm
    subst h1; subst h2; subst h3
    exact Or.inl (zx_return X hdg)
  | ireturn =>
    obtain ⟨h2, h1⟩ := of_decide_eq_true hm
    subst h2
    rcases h1 with ⟨h1, h3⟩ | ⟨h1, h3⟩
    · subst h1; subst h3
      exact Or.inl (zx_ireturn X hdg)
    · subst h1; subst h3
      exact Or.inl (zx_zreturn X hdg)
  | lreturn =>
    obtain ⟨h1, h2, h3⟩ := of_decide_eq_true hm
    subst h1; subst h2; subst h3
    exact Or.inl (zx_lreturn X hdg)
  | areturn =>
    obtain ⟨h1, h2, h3⟩ := of_decide_eq_true hm
    subst h1; subst h2; subst h3
    exact Or.inl (zx_areturn X hdg)
  | tableswitch df lo hi offs =>
    have hm := Bool.and_eq_true_iff.mp hm
    obtain ⟨h1, h2⟩ := of_decide_eq_true hm.1
    have hm2 := Bool.and_eq_true_iff.mp hm.2
    rw [h1]
    exact Or.inl (zx_tableswitch X h2 hm2.1 hm2.2 hdg)
  | lookupswitch df ps =>
    have hm := Bool.and_eq_true_iff.mp hm
    have h1 := of_decide_eq_true hm.1
    have hm2 := Bool.and_eq_true_iff.mp hm.2
    have hm3 := Bool.and_eq_true_iff.mp hm2.2
    rw [h1]
    exact Or.inl (zx_lookupswitch X hm2.1 hm3.1 hm3.2 hdg)
  | ldc x =>
    have hm := Bool.and_eq_true_iff.mp hm
    have h2 := of_decide_eq_true hm.1
    subst h2
    rcases (Bool.or_eq_true _ _).mp hm.2 with h | h
    · obtain ⟨h1, h3⟩ := of_decide_eq_true h
      rw [h1]
      exact Or.inl (zx_ldcs X h3 hdg)
    · obtain ⟨h1, h3, h4⟩ := of_decide_eq_true h
      subst h1; subst h3; subst h4
      exact Or.inl (zx_ldc X hdg)
  | ldc2_w x =>
    obtain ⟨h2, h1⟩ := of_decide_eq_true hm
    subst h2
    rcases h1 with ⟨h1, h3 | h3⟩ | ⟨h1, h3⟩ | ⟨h1, h3⟩
    · subst h1; obtain ⟨h4, h5⟩ := h3; subst h4; subst h5
      exact Or.inl (zx_ldc2a X hdg)
    · subst h1; obtain ⟨h4, h5⟩ := h3; subst h4; subst h5
      exact Or.inl (zx_ldc2b X hdg)
    · subst h1; obtain ⟨h4, h5⟩ := h3; subst h4; subst h5
      exact Or.inl (zx_ldc2c X hdg)
    · subst h1; obtain ⟨h4, h5⟩ := h3; subst h4; subst h5
      exact Or.inl (zx_ldc2d X hdg)
  | getstatic x =>
    obtain ⟨h1, h2, h3, h4⟩ := of_decide_eq_true hm
    subst h1; subst h2; subst h3; subst h4
    exact Or.inl (zx_getstatic X hdg)
  | invokevirtual x =>
    have hm := Bool.and_eq_true_iff.mp hm
    have h2 := of_decide_eq_true hm.1
    subst h2
    rcases (Bool.or_eq_true _ _).mp hm.2 with h | h
    · rcases (Bool.or_eq_true _ _).mp h with h | h
      · obtain ⟨h1, h3, h4⟩ := of_decide_eq_true h
        exact Or.inr (Or.inl ⟨x, ai.2.1, rfl, rfl, h1, h3, h4⟩)
      · obtain ⟨h1, h3⟩ := of_decide_eq_true h
        subst h1
        exact Or.inl (zx_strlen X hT h3 hdg)
    · obtain ⟨h1, h3⟩ := of_decide_eq_true h
      subst h1
      exact Or.inl (zx_charat X hT h3 hdg)
  | invokestatic x =>
    have hm := Bool.and_eq_true_iff.mp hm
    have h2 := of_decide_eq_true hm.1
    subst h2
    rcases (Bool.or_eq_true _ _).mp hm.2 with h | h
    · rcases (Bool.or_eq_true _ _).mp h with h | h
      · rcases (Bool.or_eq_true _ _).mp h with h | h
        · obtain ⟨h1, h3, h4⟩ := of_decide_eq_true h
          exact Or.inr (Or.inr ⟨x, ai.2.1, rfl, rfl, h1, h3, h4⟩)
        · obtain ⟨h1, h3⟩ := of_decide_eq_true h
          subst h1
          exact Or.inl (zx_max X h3 hdg)
      · obtain ⟨h1, h3⟩ := of_decide_eq_true h
        subst h1
        exact Or.inl (zx_min X h3 hdg)
    · obtain ⟨h1, h3⟩ := of_decide_eq_true h
      subst h1
      exact Or.inl (zx_copy X h3 hdg)
  | _ => cases hm
end
end
section
section
variable {dC : Nat → ClassId} {dI : Nat → Nat → Nat} {cI cZ cS : ClassId} {ad : zAD} {adV : Nat → Nat} {A : Nat → Prop}
theorem zckm_ok {k : Nat} (hk : k < zmT.length) : (∀ b, b < (zgp zpcL k).length → zck (zmu k).1 (zmu k).2.2.2 (zgp zpcL k) (zmt k).2.1 (zgn (zgp zpcL k) b) (zblk (zbm k) b) = true) ∧ (parseMethodDescriptor (zmt k).1.desc).map (fun d => d.parameters.length) = some (zmu k).2.1 ∧ zrk (zmu k).2.2.2 (zmt k).2.2.2 = true ∧ ((zmt k).1.cls = zcn (zmu k).1 ∧ (zmu k).1 ≤ 10 ∧ (zmt k).2.2.1 ≤ 40) ∧ zgn (zgp zpcL k) 0 = 0 ∧ plainName (zmt k).1.cls = true ∧ ((zmt k).1.cls ≠ "java/lang/invoke/MethodHandle" ∧ (zmt k).1.cls ≠ "java/lang/invoke/VarHandle") := by
  have h := zgp_zckm k hk
  rw [zckm, Bool.and_eq_true, Bool.and_eq_true, Bool.and_eq_true, Bool.and_eq_true, Bool.and_eq_true, Bool.and_eq_true] at h
  obtain ⟨h1, h2, h3, h4, ⟨h5, h6⟩, h7⟩ := h
  exact ⟨zcb_ok _ _ h1, of_decide_eq_true h2, h3, of_decide_eq_true h4, of_decide_eq_true h5, h6, of_decide_eq_true h7⟩
/-- what n steps come to, the machine comes to -/
def zSnd (dC : Nat → ClassId) (dI : Nat → Nat → Nat) (cI cZ cS : ClassId) (ad : zAD) (adV : Nat → Nat) (A : Nat → Prop) (l : Launch) (n : Nat) : Prop :=
  ∀ (d own ret : Nat) (pcs : List Nat) (cc : ByteArray) (nL : Nat) (B : List (List zAI)), (∀ b, b < pcs.length → zck own ret pcs cc (zgn pcs b) (zblk B b) = true) →
    ∀ (is : List zAI) (pc : Nat) (L : zXL) (S : List zAV) (I : zMI) (G : zMR) (r : zRS), zck own ret pcs cc pc is = true → zrun n d B is L S I G = some r →
    ∀ (p : Program) (e : Env) (R : Room) (s : State) (m : MethodId) (args : Array Value) (below : List Frame) (meth : Method) (c : Code), zCx dC dI cI cZ cS ad adV A p R s m args meth c d own ret nL cc →
      zP dC dI cI cZ cS ad adV A p l e R s m args below meth c nL r pc L S I G
theorem zMet {l : Launch} {n : Nat} (IH : zSnd dC dI cI cZ cS ad adV A l n) (hAp : zAp ad A) {d k : Nat} (hk : k < zmT.length) {a : List zAV} {I : zMI} {G : zMR} {r : zRS} (ha : zVs a) (h : zrun n d (zbm k) (zcode k a) (zent k a) [] I G = some r) :
    Met l (zmt k).1 (zmkW (zmt k) :: zgw) (zrm d) (va_Pc (a.map (zcv ad)) (zwd dC dI cI cZ cS ad adV A I G)) (zQ dC dI cI cZ cS ad adV A r) 0 0 A := by
  obtain ⟨h1, h2, h3, h4, h5, h6, h7⟩ := zckm_ok hk
  have hfit : zfits (zarg a) (zmt k).2.2.1 = true := by
    cases hf : zfits (zarg a) (zmt k).2.2.1 with
    | true => rfl
    | false =>
      have : zcode k a = [] := by unfold zcode; rw [hf]
      rw [this] at h
      cases n <;> cases h
  have hcode : zcode k a = zblk (zbm k) 0 := by unfold zcode; rw [hfit]
  rw [hcode] at h
  have h0 : 0 < (zgp zpcL k).length ∨ zblk (zbm k) 0 = [] := by
    cases hl : (zgp zpcL k) with
    | cons q t => exact Or.inl (by simp)
    | nil =>
      right
      have hz := zgp_zckm k hk
      rw [zckm, Bool.and_eq_true, hl] at hz
      cases hb : zbm k with
      | nil => rfl
      | cons q t => rw [hb] at hz; cases hz.1
  have hck : zck (zmu k).1 (zmu k).2.2.2 (zgp zpcL k) (zmt k).2.1 0 (zblk (zbm k) 0) = true := by
    rcases h0 with h0 | h0
    · have := h1 0 h0
      rw [h5] at this
      exact this
    · rw [h0]; rfl
  refine Met.ofW (cc := (zmt k).2.1) (maxL := (zmt k).2.2.1) (ret := (zmt k).2.2.2) h6 rfl ?_
  intro p e s m args below meth c s₁ B hml hv
  obtain ⟨rfl, hP, hK, hSt, hG⟩ := hv
  have hts := atoms_spec (ws := zmkW (zmt k) :: zgw) B.pre
  rw [lg_entry_eq]
  have hl := lv_entry (a.map (zcv ad)) (n := (zmt k).2.2.1) (by rw [zarg_len]; exact zfits_ok _ _ hfit)
  have hown : s.vm.findClass (zcn (zmu k).1) = some m.cls := by
    have := findClass_of_methodNamed B.named
    rw [h4.1] at this
    exact this
  refine IH d (zmu k).1 (zmu k).2.2.2 (zgp zpcL k) (zmt k).2.1 (zmt k).2.2.1 (zbm k) h1 _ 0 _ _ I G r hck h p e _ s m _ below meth c ⟨B.exec, B.bytes, hml, hown, fun w hw => hts w (List.mem_cons_of_mem _ hw), B.notSynchronized, by rw [B.returns]; exact h3, hK, hSt, hAp, Nat.le_refl _, Nat.le_refl _⟩ s.heap [] _ hP va_S.rf ⟨zpad_len _ _, hl.1, hl.2.1, fun q hq => hl.2.2 q ?_⟩ hG trivial ?_
  · obtain ⟨v, e1, e2⟩ := zla_in.mp hq
    have := zarg_in (ad := ad) a 0 q.1 v (zpad_get _ _ _ _ e1)
    rw [Nat.zero_add] at this
    obtain ⟨q1, q2⟩ := q
    cases e2
    exact this
  · intro j v hj
    exact zarg_V a ha j v (zpad_get _ _ _ _ hj)
theorem zpush_map (v : Option zAV) (S : List zAV) : (v.map (zcv ad)).toList ++ S.map (zcv ad) = (zpush v S).map (zcv ad) := by
  cases v <;> rfl
theorem zVs_push {v : Option zAV} {S : List zAV} (hv : zVo v) (hS : zVs S) : zVs (zpush v S) := by
  cases v with
  | none => exact hS
  | some v => exact ⟨hv, hS⟩
theorem zsnd {l : Launch} (hT : zTx dC dI cI cZ cS ad adV A l) (hAp0 : zAp ad A) : ∀ n, zSnd dC dI cI cZ cS ad adV A l n := by
  intro n
  induction n with
  | zero => intro d own ret pcs cc nL B hB is pc L S I G r hck h; cases h
  | succ n ih =>
    intro d own ret pcs cc nL B hB is pc L S I G r hck h p e R s m args below meth c X
    cases is with
    | nil => cases h
    | cons ai is =>
      rw [zck] at hck
      by_cases h12 : ai.1 = 12
      · rw [if_pos h12] at hck
        obtain ⟨g1, g2⟩ := of_decide_eq_true hck
        obtain ⟨a1, a2, a3, a4⟩ := ai
        have h12 : a1 = 12 := h12
        subst h12
        rw [zrun] at h
        have e0 : zex (12, a2, a3, a4) L S I G = zeJ a2 (L, S, I, G) := rfl
        rw [e0] at h
        have h' : zrun n d B (zblk B a2) L S I G = some r := h
        have := ih d own ret pcs cc nL B hB (zblk B a2) pc L S I G r (by have := hB a2 g1; rw [show zgn pcs a2 = pc from g2] at this; exact this) h' p e R s m args below meth c X
        exact this
      · rw [if_neg h12] at hck
        cases hd : decode cc pc with
        | error x => rw [hd] at hck; cases hck
        | ok q =>
          obtain ⟨ins, len⟩ := q
          rw [hd] at hck
          have hck := Bool.and_eq_true_iff.mp hck
          rw [zrun] at h
          rcases zx_all (e := e) (below := below) (L := L) (S := S) (I := I) (G := G) hT X hck.1 hd with hg | ⟨x, k, rfl, rfl, rfl, hml0, hk⟩ | ⟨x, k, rfl, rfl, rfl, hml0, hk⟩
          · cases he : zex ai L S I G with
            | inl j =>
              obtain ⟨o, L', S', I', G'⟩ := j
              rw [he] at h hg
              cases o with
              | none => exact hg r (ih d own ret pcs cc nL B hB is (pc + len) L' S' I' G' r hck.2 h p e R s m args below meth c X)
              | some b => exact hg.2 r (ih d own ret pcs cc nL B hB (zblk B b) (zgn pcs b) L' S' I' G' r (hB b hg.1) h p e R s m args below meth c X)
            | inr j =>
              rw [he] at h hg
              cases j with
              | inl q => exact hg.elim
              | inr o =>
                cases o with
                | none => cases h
                | some r' => cases h; exact hg
          · obtain ⟨h1, h2, h3, h4, h5, h6, h7⟩ := zckm_ok hk
            have hR := X.2.2.2.2.2.2.2.2.2.2
            have hK := X.2.2.2.2.2.2.2.1
            have e0 : zex (58, k, 16 * ((zmu k).2.1 + 1) + (zmu k).1, 0) L S I G = (match zpop ((16 * ((zmu k).2.1 + 1) + (zmu k).1) / 16) [] S with | some (a, S') => if zshort S' = true ∧ zrcv ((16 * ((zmu k).2.1 + 1) + (zmu k).1) % 16) a = true then zeC k a (L, S', I, G) else zeF | none => zeF) := rfl
            have d1 : (16 * ((zmu k).2.1 + 1) + (zmu k).1) / 16 = (zmu k).2.1 + 1 := by omega
            have d2 : (16 * ((zmu k).2.1 + 1) + (zmu k).1) % 16 = (zmu k).1 := by omega
            rw [d1, d2] at e0
            cases hp : zpop ((zmu k).2.1 + 1) [] S with
            | none => rw [hp] at e0; rw [e0] at h; cases h
            | some q =>
              obtain ⟨a, S'⟩ := q
              rw [hp] at e0
              dsimp only at e0
              by_cases hc : zshort S' = true ∧ zrcv (zmu k).1 a = true
              · rw [if_pos hc] at e0
                rw [e0] at h
                dsimp only at h
                cases d with
                | zero => cases h
                | succ d =>
                  dsimp only at h
                  cases hr : zrun n d (zbm k) (zcode k a) (zent k a) [] I G with
                  | none => rw [hr] at h; cases h
                  | some r1 =>
                    obtain ⟨v, I2, G2⟩ := r1
                    rw [hr] at h
                    obtain ⟨t, t1, t2, t3⟩ := zpop_ok _ _ _ _ _ hp
                    rw [List.append_nil] at t3
                    subst t2
                    subst t3
                    intro H locs ls hP hS hl hG hv hL
                    have hva := (zVs_app.mp hv)
                    have ha := zVs_rev hva.1
                    have hM := zMet (l := l) ih X.2.2.2.2.2.2.2.2.2.1 hk ha hr
                    cases hrv : t.reverse with
                    | nil => rw [hrv] at hc; cases hc.2
                    | cons v0 As =>
                      rw [hrv] at hc hM ha
                      rcases v0 with y | y | y | ⟨c0, j0⟩
                      · cases hc.2
                      · cases hc.2
                      · cases hc.2
                      have hc0 : c0 = (zmu k).1 := by
                        have := hc.2
                        exact eq_of_beq this
                      have hlen : As.length = (zmu k).2.1 := by
                        have := congrArg List.length hrv
                        simp at this
                        omega
                      have hz : (c0, j0) ∈ zo := zzo ha.1 (by omega) (by omega)
                      obtain ⟨q0, hq, he⟩ := zws_at (cI := cI) (cZ := cZ) (cS := cS) (ad := ad) (I := I) (G := G) hz
                      rw [zce_obj (by omega)] at he
                      have ht : t = As.reverse ++ [zr c0 j0] := by
                        have := congrArg List.reverse hrv
                        rw [List.reverse_reverse, List.reverse_cons] at this
                        exact this
                      have hst : (t ++ S').map (zcv ad) = (As.map (zcv ad)).reverse ++ .ref (ad c0 j0) :: S'.map (zcv ad) := by
                        rw [ht]
                        simp [List.map_reverse, zcv]
                      rw [hst]
                      refine zcallV (r := (v, I2, G2)) (As := As.map (zcv ad)) (C := (zmt k).1.cls) X hM ?_ ⟨rfl, rfl, by show d + 8 + 1 ≤ _; omega, by show 8 + (_ + 11) + (64 * d + 512) ≤ _; omega⟩ ⟨rfl, h7.1, h7.2, by rw [List.length_map, hlen]; exact h2⟩ hc.1 hP hS hl.2.1 hG ?_ hd (fun H1 locs1 hP1 hG1 hvo hS1 => ?_)
                      · intro w hw
                        simp only [List.mem_cons, List.not_mem_nil, or_false] at hw
                        rcases hw with rfl | rfl | rfl | rfl | rfl
                        · exact zml_in hml0 _ (by simp [zmlW])
                        · exact zml_in hml0 _ (by simp [zmlW])
                        · exact zml_in hml0 _ (by simp [zmlW])
                        · exact zml_in hml0 _ (by simp [zmlW])
                        · exact zmk_in (zmt_in k hk)
                      · rw [h4.1, ← hc0]
                        exact va_recv hK hP (zvw c0 (by omega)) he
                      · rw [zpush_map]
                        exact ih (d + 1) own ret pcs cc nL B hB is (pc + 3) L (zpush v S') I2 G2 r hck.2 h p e R s m args below meth c X H1 locs1 ls hP1 hS1 hl hG1 (zVs_push hvo hva.2) hL
              · rw [if_neg hc] at e0
                rw [e0] at h
                cases h
          · obtain ⟨h1, h2, h3, h4, h5, h6, h7⟩ := zckm_ok hk
            have hR := X.2.2.2.2.2.2.2.2.2.2
            have e0 : zex (23, k, (zmu k).2.1, 0) L S I G = (match zpop (zmu k).2.1 [] S with | some (a, S') => if zshort S' = true then zeC k a (L, S', I, G) else zeF | none => zeF) := rfl
            cases hp : zpop (zmu k).2.1 [] S with
            | none => rw [hp] at e0; rw [e0] at h; cases h
            | some q =>
              obtain ⟨a, S'⟩ := q
              rw [hp] at e0
              dsimp only at e0
              by_cases hc : zshort S' = true
              · rw [if_pos hc] at e0
                rw [e0] at h
                dsimp only at h
                cases d with
                | zero => cases h
                | succ d =>
                  dsimp only at h
                  cases hr : zrun n d (zbm k) (zcode k a) (zent k a) [] I G with
                  | none => rw [hr] at h; cases h
                  | some r1 =>
                    obtain ⟨v, I2, G2⟩ := r1
                    rw [hr] at h
                    obtain ⟨t, t1, t2, t3⟩ := zpop_ok _ _ _ _ _ hp
                    rw [List.append_nil] at t3
                    subst t2
                    subst t3
                    intro H locs ls hP hS hl hG hv hL
                    have hva := (zVs_app.mp hv)
                    have ha := zVs_rev hva.1
                    have hM := zMet (l := l) ih X.2.2.2.2.2.2.2.2.2.1 hk ha hr
                    have hst : (t ++ S').map (zcv ad) = (t.reverse.map (zcv ad)).reverse ++ S'.map (zcv ad) := by
                      simp [List.map_reverse]
                    rw [hst]
                    refine zcallS (r := (v, I2, G2)) (As := t.reverse.map (zcv ad)) X hM ?_ ⟨rfl, rfl, by show d + 8 + 1 ≤ _; omega, by show 8 + (_ + 11) + (64 * d + 512) ≤ _; omega⟩ ⟨h7.1, h7.2, by rw [List.length_map, List.length_reverse, t1]; exact h2⟩ hc hP hS hl.2.1 hG hd (fun H1 locs1 hP1 hG1 hvo hS1 => ?_)
                    · intro w hw
                      simp only [List.mem_cons, List.not_mem_nil, or_false] at hw
                      rcases hw with rfl | rfl | rfl | rfl
                      · exact zml_in hml0 _ (by simp [zmlW])
                      · exact zml_in hml0 _ (by simp [zmlW])
                      · exact zml_in hml0 _ (by simp [zmlW])
                      · exact zmk_in (zmt_in k hk)
                    · rw [zpush_map]
                      exact ih (d + 1) own ret pcs cc nL B hB is (pc + 3) L (zpush v S') I2 G2 r hck.2 h p e R s m args below meth c X H1 locs1 ls hP1 hS1 hl hG1 (zVs_push hvo hva.2) hL
              · rw [if_neg hc] at e0
                rw [e0] at h
                cases h
/-- a contract for the machine out of a run of the abstract machine -/
theorem zmet {l : Launch} (hT : zTx dC dI cI cZ cS ad adV A l) (hAp : zAp ad A) {d k : Nat} (hk : k < zmT.length) {a : List zAV} {I : zMI} {G : zMR} (ha : zVs a) {Q : zPQ} (h : zWm d k a I G Q) :
    ∃ r : zRS, Q r.1 r.2.1 r.2.2 ∧ Met l (zmt k).1 (zmkW (zmt k) :: zgw) (zrm d) (va_Pc (a.map (zcv ad)) (zwd dC dI cI cZ cS ad adV A I G)) (zQ dC dI cI cZ cS ad adV A r) 0 0 A := by
  obtain ⟨n, v, I', G', h1, h2⟩ := h
  exact ⟨(v, I', G'), h2, zMet (zsnd hT hAp n) hAp hk ha h1⟩
end
end
section
def zjtP : List Nat := [1194, 420, 1195, 436, 416, 417, 418, 426, 427, 428, 430, 431, 433, 434, 438, 439, 74, 75, 76]
def zjtW : List Cond := [.fieldLink RJ0 9 "java/lang/String" "value" "[B", .fieldLink RJ0 38 "java/lang/String" "COMPACT_STRINGS" "Z", .fieldLink RJ0 15 "java/lang/String" "coder" "B", .fieldLink RJ0 1053 "jdk/internal/util/Preconditions" "SIOOBE_FORMATTER" "Ljava/util/function/BiFunction;", .methodLink RJ0 335 yJ0_coder_7d493, .instanceMethod yJ0_coder_7d493, .selects RJ0 yJ0_coder_7d493 yJ0_coder_7d493, .methodLink RJ0 492 yJ0_isLatin1_aae02, .instanceMethod yJ0_isLatin1_aae02, .selects RJ0 yJ0_isLatin1_aae02 yJ0_isLatin1_aae02, .methodLink RJ0 495 yJ1_charAt_3b067, .static yJ1_charAt_3b067, .methodLink RJ1 9 yJ0_checkIndex_df160, .static yJ0_checkIndex_df160, .methodLink RJ0 1059 yJ3_checkIndex_8e157, .static yJ3_checkIndex_8e157, .initialized RJ0, .initialized RJ1, .initialized RJ3]
set_option maxRecDepth 100000 in
theorem zjt_ok : zpk zjtP zjtW = true := by decide +kernel
theorem zjt_in : ∀ w ∈ zjtW, w ∈ zgw := fun w hw => zgw_of (zpk_in zjt_ok w hw)

/-! THE JDK's TEXTS -/
def zrJ (n : Nat) : Room := { frames := n, cells := 0, slots := 0, locals := 50 * n }
section
variable {dC : Nat → ClassId} {dI : Nat → Nat → Nat} {cI cZ cS : ClassId} {ad : zAD} {adV : Nat → Nat} {A : Nat → Prop}
/-- behind a call -/
theorem zj_after {p : Program} {l : Launch} {e : Env} {R : Room} {s : State} {m : MethodId} {args : Array Value} {below : List Frame} {meth : Method} {c : Code} {H : Heap} {locs : List Loc} {cells slots : Nat} {Q : State → Prop} {pc : Nat} {ls : Array Slot} {st0 rest : List Value} {r : zRS} {a : Array Value}
    (hr : va_Run p l e R s m args below meth c H locs cells slots 0 0 (F0 m pc ls st0) rest (zQ dC dI cI cZ cS ad adV A r a) A) (hS : va_S A s.heap H locs)
    (kk : ∀ (H1 : Heap) (locs1 : List Loc), va_P (dC, dI) vwCl (zws cI cZ cS ad r.2.1 r.2.2) H1 → zVG r.2.2 → zVo r.1 → va_S A s.heap H1 locs1 → W p l e R s m args below meth c H1 locs1 cells slots Q (F0 m (pc + 3) ls ((r.1.map (zcv ad)).toList ++ rest))) :
    W p l e R s m args below meth c H locs cells slots Q (F0 m pc ls st0) := by
  intro T hT X
  obtain ⟨v, st₀, t, T', L, h0, X', hL, e1, e2, ⟨⟨hv, hvo, hwd⟩, hz, hk⟩, st⟩ := hr T hT X
  have hv' : v = r.1.map (zcv ad) := by cases hv; rfl
  subst hv'
  rw [h0] at hz hk
  obtain ⟨t2, a1, b1⟩ := kk T'.heap (locs ++ L) (by rw [e1]; exact hwd.1) hwd.2.2.2 hvo
    ⟨Nat.le_trans hS.1 (by rw [e1]; exact hz), fun q h1 h2 => by rw [e1, hk q (Nat.lt_of_lt_of_le h1 hS.1) h2]; exact hS.2.1 q h1 h2, fun q hq => by
      rcases List.mem_append.mp hq with h | h
      · exact hS.2.2 q h
      · exact hL q h⟩ T' rfl X'
  exact ⟨t2, st t2 a1, b1⟩
section
variable {p : Program} {l : Launch} {e : Env} {R : Room} {s : State} {m : MethodId} {args : Array Value} {below : List Frame} {meth : Method} {c : Code} {cells slots : Nat} {Q : State → Prop} {cc : ByteArray} {ow : String} {nL : Nat} {pc : Nat}
theorem zjV (hx : p.tables.exec = Jvm.exec) (hb : c.code = cc) (hml : c.maxLocals = nL) (hown : s.vm.findClass ow = some m.cls) {Ts : List Cond} (hts : ∀ w ∈ Ts, w.before args s = true) (hK : va_K (dC, dI) vwCl (ztys cI cZ cS) s) (hSt : zSt ad adV A s s.heap) {y : MethodName} {bytes : ByteArray} {mL : Nat} {rt : Option FieldType} {rm : Room} {r : zRS} {As : List Value} {b : Nat} {C : String} {x : Nat} {I : zMI} {G : zMR}
    (hM : Met l y (.code y bytes mL rt :: zgw) rm (va_Pc (.ref b :: As) (zwd dC dI cI cZ cS ad adV A I G)) (zQ dC dI cI cZ cS ad adV A r) 0 0 A)
    (hg : GoodIn Ts (wsV ow x C y (.code y bytes mL rt :: zgw)))
    (hrm : rm.cells = 0 ∧ rm.slots = 0 ∧ rm.frames + 1 ≤ R.frames ∧ 8 + (mL + 11) + rm.locals ≤ R.locals)
    (hy : y.cls = C ∧ y.cls ≠ "java/lang/invoke/MethodHandle" ∧ y.cls ≠ "java/lang/invoke/VarHandle" ∧ (parseMethodDescriptor y.desc).map (fun d => d.parameters.length) = some As.length) {rest : List Value} (hsh : (rest.map fun v => v.category).sum ≤ 8) {H : Heap} {locs : List Loc} {ls : Array Slot}
    (hP : va_P (dC, dI) vwCl (zws cI cZ cS ad I G) H) (hS : va_S A s.heap H locs) (hl : ls.size = nL) (hG : zVG G) (hrecv : ∃ cellB : Cell, H[b]? = some cellB ∧ cellB.vm.isStatics = false ∧ s.vm.findClass C = some cellB.cls) (hdg : decode cc pc = .ok (.invokevirtual x, 3)) (hf : cells ≤ R.cells ∧ slots ≤ R.slots)
    (kk : ∀ (H1 : Heap) (locs1 : List Loc), va_P (dC, dI) vwCl (zws cI cZ cS ad r.2.1 r.2.2) H1 → zVG r.2.2 → zVo r.1 → va_S A s.heap H1 locs1 → W p l e R s m args below meth c H1 locs1 cells slots Q (F0 m (pc + 3) ls ((r.1.map (zcv ad)).toList ++ rest))) :
    W p l e R s m args below meth c H locs cells slots Q (F0 m pc ls (As.reverse ++ .ref b :: rest)) :=
  zj_after (va_runV (rest := rest) (As := As) ⟨hx, hb, hml, hown, hts⟩ hM (cwV As.length hts hg rfl hrm.1 hrm.2.1 hy hrm.2.2) ⟨zblind, hrecv, zpre hP hK hSt hS hG _⟩ rfl rfl hl rfl (lv_room hsh) hdg hf) hS kk
theorem zjS (hx : p.tables.exec = Jvm.exec) (hb : c.code = cc) (hml : c.maxLocals = nL) (hown : s.vm.findClass ow = some m.cls) {Ts : List Cond} (hts : ∀ w ∈ Ts, w.before args s = true) (hK : va_K (dC, dI) vwCl (ztys cI cZ cS) s) (hSt : zSt ad adV A s s.heap) {y : MethodName} {bytes : ByteArray} {mL : Nat} {rt : Option FieldType} {rm : Room} {r : zRS} {As : List Value} {x : Nat} {I : zMI} {G : zMR}
    (hM : Met l y (.code y bytes mL rt :: zgw) rm (va_Pc As (zwd dC dI cI cZ cS ad adV A I G)) (zQ dC dI cI cZ cS ad adV A r) 0 0 A)
    (hg : GoodIn Ts (va_wsS ow x y (.code y bytes mL rt :: zgw)))
    (hrm : rm.cells = 0 ∧ rm.slots = 0 ∧ rm.frames + 1 ≤ R.frames ∧ 8 + (mL + 11) + rm.locals ≤ R.locals)
    (hy : y.cls ≠ "java/lang/invoke/MethodHandle" ∧ y.cls ≠ "java/lang/invoke/VarHandle" ∧ (parseMethodDescriptor y.desc).map (fun d => d.parameters.length) = some As.length) {rest : List Value} (hsh : (rest.map fun v => v.category).sum ≤ 8) {H : Heap} {locs : List Loc} {ls : Array Slot}
    (hP : va_P (dC, dI) vwCl (zws cI cZ cS ad I G) H) (hS : va_S A s.heap H locs) (hl : ls.size = nL) (hG : zVG G) (hdg : decode cc pc = .ok (.invokestatic x, 3)) (hf : cells ≤ R.cells ∧ slots ≤ R.slots)
    (kk : ∀ (H1 : Heap) (locs1 : List Loc), va_P (dC, dI) vwCl (zws cI cZ cS ad r.2.1 r.2.2) H1 → zVG r.2.2 → zVo r.1 → va_S A s.heap H1 locs1 → W p l e R s m args below meth c H1 locs1 cells slots Q (F0 m (pc + 3) ls ((r.1.map (zcv ad)).toList ++ rest))) :
    W p l e R s m args below meth c H locs cells slots Q (F0 m pc ls (As.reverse ++ rest)) :=
  zj_after (va_runS (rest := rest) (As := As) ⟨hx, hb, hml, hown, hts⟩ hM (va_cwS As.length hts hg rfl hrm.1 hrm.2.1 hy hrm.2.2) ⟨zblind, zpre hP hK hSt hS hG _⟩ rfl rfl hl rfl (lv_room hsh) hdg hf) hS kk
end
theorem zjgV {ow : String} {x : Nat} {C : String} {y : MethodName} {bytes : ByteArray} {mL : Nat} {rt : Option FieldType} (h : ∀ w ∈ [Cond.methodLink ow x y, Cond.instanceMethod y, Cond.selects C y y, Cond.initialized C], w ∈ zgw) (hc : (.code y bytes mL rt : Cond) ∈ zgw) : GoodIn zgw (wsV ow x C y (.code y bytes mL rt :: zgw)) :=
  zgood (fun w hw => (List.mem_append.mp hw).elim (h w) (fun h2 => (List.mem_cons.mp h2).elim (fun e => e ▸ hc) id))
theorem zjgS {ow : String} {x : Nat} {y : MethodName} {bytes : ByteArray} {mL : Nat} {rt : Option FieldType} (h : ∀ w ∈ [Cond.methodLink ow x y, Cond.static y, Cond.initialized y.cls], w ∈ zgw) (hc : (.code y bytes mL rt : Cond) ∈ zgw) : GoodIn zgw (va_wsS ow x y (.code y bytes mL rt :: zgw)) :=
  zgood (fun w hw => (List.mem_append.mp hw).elim (h w) (fun h2 => (List.mem_cons.mp h2).elim (fun e => e ▸ hc) id))

set_option maxHeartbeats 4000000 in
set_option maxRecDepth 100000 in
theorem zj_coder (l : Launch) {j : Nat} (hj : j < 6) (I : zMI) (G : zMR) : Met l yJ0_coder_7d493 (.code yJ0_coder_7d493 cJ0_coder_7d493 1 (some .byte) :: zgw) (zrJ 0) (va_Pc ([.ref (ad 60 j)]) (zwd dC dI cI cZ cS ad adV A I G)) (zQ dC dI cI cZ cS ad adV A (some (zi 0), I, G)) 0 0 A := by
  refine Met.ofW (cc := cJ0_coder_7d493) (maxL := 1) (ret := (some .byte)) (by decide) rfl ?_
  intro p e s m args below meth c s₁ B hml hv
  obtain ⟨rfl, hP, hK, hSt, hG⟩ := hv
  have hx := B.exec
  have hb := B.bytes
  have hr := B.returns
  have hts0 := atoms_spec (ws := .code yJ0_coder_7d493 cJ0_coder_7d493 1 (some .byte) :: zgw) B.pre
  have hts : ∀ w ∈ zgw, w.before _ s = true := fun w hw => hts0 w (List.mem_cons_of_mem _ hw)
  have hown : s.vm.findClass RJ0 = some m.cls := findClass_of_methodNamed B.named
  have hlocks := B.notSynchronized
  have hl := lv_entry ([.ref (ad 60 j)]) (n := 1) (Nat.le_of_ble_eq_true rfl)
  rw [lg_entry_eq]
  generalize (lg_sl ([.ref (ad 60 j)]) ++ List.replicate (1 - (lg_sl ([.ref (ad 60 j)])).length) Slot.unset).toArray = ls at hl ⊢
  have hl : lv_has ls 1 [(0, .ref (ad 60 j))] := hl
  have hS : va_S A s.heap s.heap [] := va_S.rf
  refine va_gets hx hb hSt.2.2.2.1 hS hown (hts _ (zjt_in (.fieldLink RJ0 38 "java/lang/String" "COMPACT_STRINGS" "Z") (by simp [zjtW]))) (fun _ h => h) (show decode cJ0_coder_7d493 0 = .ok (.getstatic 38, 3) by decide +kernel) ?_
  refine lv_if_eq (tgt := 13) hx hb (show decode cJ0_coder_7d493 3 = .ok (.ifCond .eq 10, 3) by decide +kernel) (by decide) (fun c1 => absurd c1 (by decide)) (fun _ => ?_)
  refine lv_aload_n hx hb (show decode cJ0_coder_7d493 6 = .ok (.aload_n 0, 1) by decide +kernel) rfl (lv_at hl 0 rfl) ?_
  refine vk_getf hx hb (hSt.1.1 j hj).2.1 hS hown (hts _ (zjt_in (.fieldLink RJ0 15 "java/lang/String" "coder" "B") (by simp [zjtW]))) (fun _ h => h) (show decode cJ0_coder_7d493 7 = .ok (.getfield 15, 3) by decide +kernel) ?_
  refine lv_goto (tgt := 14) hx hb (show decode cJ0_coder_7d493 10 = .ok (.goto 4, 3) by decide +kernel) (by decide) ?_
  exact W.zret (v := 0) hx hb hr (by decide) (fun t ht hW => ⟨⟨rfl, trivial, by rw [ht]; exact hP, va_K.moved hW.alike hK, hSt.at hS ht hW, hG⟩, hS.F ht⟩) hS.2.2 (show decode cJ0_coder_7d493 14 = .ok (.ireturn, 1) by decide +kernel) hlocks

set_option maxHeartbeats 4000000 in
set_option maxRecDepth 100000 in
theorem zj_latin (l : Launch) {j : Nat} (hj : j < 6) (I : zMI) (G : zMR) : Met l yJ0_isLatin1_aae02 (.code yJ0_isLatin1_aae02 cJ0_isLatin1_aae02 1 (some .boolean) :: zgw) (zrJ 0) (va_Pc ([.ref (ad 60 j)]) (zwd dC dI cI cZ cS ad adV A I G)) (zQ dC dI cI cZ cS ad adV A (some (zi 1), I, G)) 0 0 A := by
  refine Met.ofW (cc := cJ0_isLatin1_aae02) (maxL := 1) (ret := (some .boolean)) (by decide) rfl ?_
  intro p e s m args below meth c s₁ B hml hv
  obtain ⟨rfl, hP, hK, hSt, hG⟩ := hv
  have hx := B.exec
  have hb := B.bytes
  have hr := B.returns
  have hts0 := atoms_spec (ws := .code yJ0_isLatin1_aae02 cJ0_isLatin1_aae02 1 (some .boolean) :: zgw) B.pre
  have hts : ∀ w ∈ zgw, w.before _ s = true := fun w hw => hts0 w (List.mem_cons_of_mem _ hw)
  have hown : s.vm.findClass RJ0 = some m.cls := findClass_of_methodNamed B.named
  have hlocks := B.notSynchronized
  have hl := lv_entry ([.ref (ad 60 j)]) (n := 1) (Nat.le_of_ble_eq_true rfl)
  rw [lg_entry_eq]
  generalize (lg_sl ([.ref (ad 60 j)]) ++ List.replicate (1 - (lg_sl ([.ref (ad 60 j)])).length) Slot.unset).toArray = ls at hl ⊢
  have hl : lv_has ls 1 [(0, .ref (ad 60 j))] := hl
  have hS : va_S A s.heap s.heap [] := va_S.rf
  refine va_gets hx hb hSt.2.2.2.1 hS hown (hts _ (zjt_in (.fieldLink RJ0 38 "java/lang/String" "COMPACT_STRINGS" "Z") (by simp [zjtW]))) (fun _ h => h) (show decode cJ0_isLatin1_aae02 0 = .ok (.getstatic 38, 3) by decide +kernel) ?_
  refine lv_if_eq (tgt := 17) hx hb (show decode cJ0_isLatin1_aae02 3 = .ok (.ifCond .eq 14, 3) by decide +kernel) (by decide) (fun c1 => absurd c1 (by decide)) (fun _ => ?_)
  refine lv_aload_n hx hb (show decode cJ0_isLatin1_aae02 6 = .ok (.aload_n 0, 1) by decide +kernel) rfl (lv_at hl 0 rfl) ?_
  refine vk_getf hx hb (hSt.1.1 j hj).2.1 hS hown (hts _ (zjt_in (.fieldLink RJ0 15 "java/lang/String" "coder" "B") (by simp [zjtW]))) (fun _ h => h) (show decode cJ0_isLatin1_aae02 7 = .ok (.getfield 15, 3) by decide +kernel) ?_
  refine lv_if_ne (tgt := 17) hx hb (show decode cJ0_isLatin1_aae02 10 = .ok (.ifCond .ne 7, 3) by decide +kernel) (by decide) (fun c1 => absurd rfl c1) (fun _ => ?_)
  refine lv_iconst (v := 1) hx hb (show decode cJ0_isLatin1_aae02 13 = .ok (.iconst 1, 1) by decide +kernel) (by decide) ?_
  refine lv_goto (tgt := 18) hx hb (show decode cJ0_isLatin1_aae02 14 = .ok (.goto 4, 3) by decide +kernel) (by decide) ?_
  exact W.zret (v := 1) hx hb hr (by decide) (fun t ht hW => ⟨⟨rfl, trivial, by rw [ht]; exact hP, va_K.moved hW.alike hK, hSt.at hS ht hW, hG⟩, hS.F ht⟩) hS.2.2 (show decode cJ0_isLatin1_aae02 18 = .ok (.ireturn, 1) by decide +kernel) hlocks

theorem zst_len : ∀ j, j < 6 → (zstL.map List.length).getD j 0 = (zst j).length ∧ (zst j).length < 10 := by decide +kernel

set_option maxHeartbeats 4000000 in
set_option maxRecDepth 100000 in
theorem zj_length (l : Launch) {j : Nat} (hj : j < 6) (I : zMI) (G : zMR) : Met l yJ0_length_8abf5 (.code yJ0_length_8abf5 cJ0_length_8abf5 1 (some .int) :: zgw) zrm0 (va_Pc ([.ref (ad 60 j)]) (zwd dC dI cI cZ cS ad adV A I G)) (zQ dC dI cI cZ cS ad adV A (some (zi (nI (zst j).length)), I, G)) 0 0 A := by
  refine Met.ofW (cc := cJ0_length_8abf5) (maxL := 1) (ret := (some .int)) (by decide) rfl ?_
  intro p e s m args below meth c s₁ B hml hv
  obtain ⟨rfl, hP, hK, hSt, hG⟩ := hv
  have hx := B.exec
  have hb := B.bytes
  have hr := B.returns
  have hts0 := atoms_spec (ws := .code yJ0_length_8abf5 cJ0_length_8abf5 1 (some .int) :: zgw) B.pre
  have hts : ∀ w ∈ zgw, w.before _ s = true := fun w hw => hts0 w (List.mem_cons_of_mem _ hw)
  have hown : s.vm.findClass RJ0 = some m.cls := findClass_of_methodNamed B.named
  have hlocks := B.notSynchronized
  have hl := lv_entry ([.ref (ad 60 j)]) (n := 1) (Nat.le_of_ble_eq_true rfl)
  rw [lg_entry_eq]
  generalize (lg_sl ([.ref (ad 60 j)]) ++ List.replicate (1 - (lg_sl ([.ref (ad 60 j)])).length) Slot.unset).toArray = ls at hl ⊢
  have hl : lv_has ls 1 [(0, .ref (ad 60 j))] := hl
  have hS : va_S A s.heap s.heap [] := va_S.rf
  obtain ⟨hn1, hn2⟩ := zst_len j hj
  refine lv_aload_n hx hb (show decode cJ0_length_8abf5 0 = .ok (.aload_n 0, 1) by decide +kernel) rfl (lv_at hl 0 rfl) ?_
  refine vk_getf hx hb (hSt.1.1 j hj).2.2.1 hS hown (hts _ (zjt_in (.fieldLink RJ0 9 "java/lang/String" "value" "[B") (by simp [zjtW]))) (fun _ h => h) (show decode cJ0_length_8abf5 1 = .ok (.getfield 9, 3) by decide +kernel) ?_
  refine va_tlen hx hb (hSt.1.1 j hj).2.2.2 hS (v := nI (zst j).length) (by rw [hn1]; rfl) (show decode cJ0_length_8abf5 4 = .ok (.arraylength, 1) by decide +kernel) ?_
  refine lv_aload_n hx hb (show decode cJ0_length_8abf5 5 = .ok (.aload_n 0, 1) by decide +kernel) rfl (lv_at hl 0 rfl) ?_
  refine zjV (As := []) (C := RJ0) hx hb hml hown hts hK hSt (zj_coder l hj I G) (zjgV (fun w hw => zjt_in w (by simp only [List.mem_cons, List.not_mem_nil, or_false] at hw; rcases hw with rfl | rfl | rfl | rfl <;> simp [zjtW])) zc_J0_coder_7d493_in) ⟨rfl, rfl, by decide, by decide⟩ ⟨rfl, by decide, by decide, by decide +kernel⟩ (rest := [.int (nI (zst j).length)]) (Nat.le_of_ble_eq_true rfl) hP hS hl.1 hG (vk_recv hSt.1 hj hS) (show decode cJ0_length_8abf5 6 = .ok (.invokevirtual 335, 3) by decide +kernel) ⟨Nat.zero_le _, Nat.zero_le _⟩ (fun H1 locs1 hP hG _ hS => ?_)
  refine lv_ishr hx hb (show decode cJ0_length_8abf5 9 = .ok (.ishr, 1) by decide +kernel) ?_
  have e : nI (zst j).length >>> ((0 : Int32) &&& 31) = nI (zst j).length := sc_shr0 (by omega)
  rw [e]
  exact W.iret (v := nI (zst j).length) hx hb hr (fun t ht hW => ⟨⟨rfl, trivial, by rw [ht]; exact hP, va_K.moved hW.alike hK, hSt.at hS ht hW, hG⟩, hS.F ht⟩) hS.2.2 (show decode cJ0_length_8abf5 10 = .ok (.ireturn, 1) by decide +kernel) hlocks

set_option maxHeartbeats 4000000 in
set_option maxRecDepth 100000 in
theorem zj_pci (l : Launch) {x n : Int32} (h0 : 0 ≤ x) (h1 : x < n) {v : Value} (hv0 : v = .null ∨ ∃ t, v = .ref t) (I : zMI) (G : zMR) : Met l yJ3_checkIndex_8e157 (.code yJ3_checkIndex_8e157 cJ3_checkIndex_8e157 3 (some .int) :: zgw) (zrJ 0) (va_Pc ([.int x, .int n, v]) (zwd dC dI cI cZ cS ad adV A I G)) (zQ dC dI cI cZ cS ad adV A (some (zi x), I, G)) 0 0 A := by
  refine Met.ofW (cc := cJ3_checkIndex_8e157) (maxL := 3) (ret := (some .int)) (by decide) rfl ?_
  intro p e s m args below meth c s₁ B hml hv
  obtain ⟨rfl, hP, hK, hSt, hG⟩ := hv
  have hx := B.exec
  have hb := B.bytes
  have hr := B.returns
  have hts0 := atoms_spec (ws := .code yJ3_checkIndex_8e157 cJ3_checkIndex_8e157 3 (some .int) :: zgw) B.pre
  have hts : ∀ w ∈ zgw, w.before _ s = true := fun w hw => hts0 w (List.mem_cons_of_mem _ hw)
  have hown : s.vm.findClass RJ3 = some m.cls := findClass_of_methodNamed B.named
  have hlocks := B.notSynchronized
  have hc1 : v.category = 1 := by rcases hv0 with rfl | ⟨t, rfl⟩ <;> rfl
  have hl := lv_entry ([.int x, .int n, v]) (n := 3) (by rcases hv0 with rfl | ⟨t, rfl⟩ <;> exact Nat.le_of_ble_eq_true rfl)
  rw [lg_entry_eq]
  generalize (lg_sl ([.int x, .int n, v]) ++ List.replicate (3 - (lg_sl ([.int x, .int n, v])).length) Slot.unset).toArray = ls at hl ⊢
  have hl : lv_has ls 3 [(0, .int x), (1, .int n)] := lv_sub hl [0, 1] rfl
  have hS : va_S A s.heap s.heap [] := va_S.rf
  refine lv_iload_n hx hb (show decode cJ3_checkIndex_8e157 0 = .ok (.iload_n 0, 1) by decide +kernel) rfl (lv_at hl 0 rfl) ?_
  refine lv_if_lt (tgt := 9) hx hb (show decode cJ3_checkIndex_8e157 1 = .ok (.ifCond .lt 8, 3) by decide +kernel) (by decide) (fun c1 => absurd h0 (Int32.not_le.mpr c1)) (fun _ => ?_)
  refine lv_iload_n hx hb (show decode cJ3_checkIndex_8e157 4 = .ok (.iload_n 0, 1) by decide +kernel) rfl (lv_at hl 0 rfl) ?_
  refine lv_iload_n hx hb (show decode cJ3_checkIndex_8e157 5 = .ok (.iload_n 1, 1) by decide +kernel) rfl (lv_at hl 1 rfl) ?_
  refine lv_icmp_lt (tgt := 16) hx hb (show decode cJ3_checkIndex_8e157 6 = .ok (.if_icmp .lt 10, 3) by decide +kernel) (by decide) (fun _ => ?_) (fun c1 => absurd h1 c1)
  refine lv_iload_n hx hb (show decode cJ3_checkIndex_8e157 16 = .ok (.iload_n 0, 1) by decide +kernel) rfl (lv_at hl 0 rfl) ?_
  exact W.iret (v := x) hx hb hr (fun t ht hW => ⟨⟨rfl, trivial, by rw [ht]; exact hP, va_K.moved hW.alike hK, hSt.at hS ht hW, hG⟩, hS.F ht⟩) hS.2.2 (show decode cJ3_checkIndex_8e157 17 = .ok (.ireturn, 1) by decide +kernel) hlocks

set_option maxHeartbeats 4000000 in
set_option maxRecDepth 100000 in
theorem zj_sci (l : Launch) {x n : Int32} (h0 : 0 ≤ x) (h1 : x < n) (I : zMI) (G : zMR) : Met l yJ0_checkIndex_df160 (.code yJ0_checkIndex_df160 cJ0_checkIndex_df160 2 none :: zgw) (zrJ 1) (va_Pc ([.int x, .int n]) (zwd dC dI cI cZ cS ad adV A I G)) (zQ dC dI cI cZ cS ad adV A (none, I, G)) 0 0 A := by
  refine Met.ofW (cc := cJ0_checkIndex_df160) (maxL := 2) (ret := none) (by decide) rfl ?_
  intro p e s m args below meth c s₁ B hml hv
  obtain ⟨rfl, hP, hK, hSt, hG⟩ := hv
  have hx := B.exec
  have hb := B.bytes
  have hr := B.returns
  have hts0 := atoms_spec (ws := .code yJ0_checkIndex_df160 cJ0_checkIndex_df160 2 none :: zgw) B.pre
  have hts : ∀ w ∈ zgw, w.before _ s = true := fun w hw => hts0 w (List.mem_cons_of_mem _ hw)
  have hown : s.vm.findClass RJ0 = some m.cls := findClass_of_methodNamed B.named
  have hlocks := B.notSynchronized
  have hl := lv_entry ([.int x, .int n]) (n := 2) (Nat.le_of_ble_eq_true rfl)
  rw [lg_entry_eq]
  generalize (lg_sl ([.int x, .int n]) ++ List.replicate (2 - (lg_sl ([.int x, .int n])).length) Slot.unset).toArray = ls at hl ⊢
  have hl : lv_has ls 2 [(0, .int x), (1, .int n)] := hl
  have hS : va_S A s.heap s.heap [] := va_S.rf
  refine lv_iload_n hx hb (show decode cJ0_checkIndex_df160 0 = .ok (.iload_n 0, 1) by decide +kernel) rfl (lv_at hl 0 rfl) ?_
  refine lv_iload_n hx hb (show decode cJ0_checkIndex_df160 1 = .ok (.iload_n 1, 1) by decide +kernel) rfl (lv_at hl 1 rfl) ?_
  have key : ∀ v : Value, (v = .null ∨ ∃ t, v = .ref t) → va_Z "jdk/internal/util/Preconditions" "SIOOBE_FORMATTER" "Ljava/util/function/BiFunction;" v A s s.heap → W p l e (zrJ 1) s m ([.int x, .int n] : List Value).toArray below meth c s.heap [] 0 0 (MQ below (zQ dC dI cI cZ cS ad adV A (none, I, G)) ([.int x, .int n] : List Value).toArray s 0 0 A) (F0 m 2 ls [.int n, .int x]) := by
    intro v hv0 hZ
    refine va_gets hx hb hZ hS hown (hts _ (zjt_in (.fieldLink RJ0 1053 "jdk/internal/util/Preconditions" "SIOOBE_FORMATTER" "Ljava/util/function/BiFunction;") (by simp [zjtW]))) (fun _ h => h) (show decode cJ0_checkIndex_df160 2 = .ok (.getstatic 1053, 3) by decide +kernel) ?_
    refine zjS (As := [.int x, .int n, v]) (rest := []) hx hb hml hown hts hK hSt (zj_pci l h0 h1 hv0 I G) (zjgS (fun w hw => zjt_in w (by simp only [List.mem_cons, List.not_mem_nil, or_false] at hw; rcases hw with rfl | rfl | rfl <;> simp [zjtW, yJ3_checkIndex_8e157])) zc_J3_checkIndex_8e157_in) ⟨rfl, rfl, by decide, by decide⟩ ⟨by decide, by decide, show (parseMethodDescriptor yJ3_checkIndex_8e157.desc).map (fun d => d.parameters.length) = some 3 by decide +kernel⟩ (by decide) hP hS hl.1 hG (show decode cJ0_checkIndex_df160 5 = .ok (.invokestatic 1059, 3) by decide +kernel) ⟨Nat.zero_le _, Nat.zero_le _⟩ (fun H1 locs1 hP hG _ hS => ?_)
    refine lv_pop hx hb (show decode cJ0_checkIndex_df160 8 = .ok (.pop, 1) by decide +kernel) rfl ?_
    exact W.vret hx hb hr (fun t ht hW => ⟨⟨rfl, trivial, by rw [ht]; exact hP, va_K.moved hW.alike hK, hSt.at hS ht hW, hG⟩, hS.F ht⟩) hS.2.2 (show decode cJ0_checkIndex_df160 9 = .ok (.return_, 1) by decide +kernel) hlocks
  rcases hSt.2.2.2.2.1 with hZ | ⟨t, hZ⟩
  · exact key _ (Or.inl rfl) hZ
  · exact key _ (Or.inr ⟨t, rfl⟩) hZ

theorem zst_ch : ∀ j, j < 6 → ∀ k, k < (zst j).length → (zstL.getD j []).getD k 0 = zgi (zst j) k ∧ zgi (zst j) k &&& 255 = zgi (zst j) k ∧ ((zgi (zst j) k).toUInt32 % 65536).toInt32 = zgi (zst j) k ∧ narrow .char (.int (zgi (zst j) k)) = .int (zgi (zst j) k) := by decide +kernel

set_option maxHeartbeats 4000000 in
set_option maxRecDepth 100000 in
theorem zj_lca (l : Launch) {j : Nat} (hj : j < 6) {x : Int32} (h0 : 0 ≤ x) (h1 : x.toNatClampNeg < (zst j).length) (I : zMI) (G : zMR) : Met l yJ1_charAt_3b067 (.code yJ1_charAt_3b067 cJ1_charAt_3b067 2 (some .char) :: zgw) (zrJ 2) (va_Pc ([.ref (adV j), .int x]) (zwd dC dI cI cZ cS ad adV A I G)) (zQ dC dI cI cZ cS ad adV A (some (zi (zgi (zst j) x.toNatClampNeg)), I, G)) 0 0 A := by
  refine Met.ofW (cc := cJ1_charAt_3b067) (maxL := 2) (ret := (some .char)) (by decide) rfl ?_
  intro p e s m args below meth c s₁ B hml hv
  obtain ⟨rfl, hP, hK, hSt, hG⟩ := hv
  have hx := B.exec
  have hb := B.bytes
  have hr := B.returns
  have hts0 := atoms_spec (ws := .code yJ1_charAt_3b067 cJ1_charAt_3b067 2 (some .char) :: zgw) B.pre
  have hts : ∀ w ∈ zgw, w.before _ s = true := fun w hw => hts0 w (List.mem_cons_of_mem _ hw)
  have hown : s.vm.findClass RJ1 = some m.cls := findClass_of_methodNamed B.named
  have hlocks := B.notSynchronized
  have hl := lv_entry ([.ref (adV j), .int x]) (n := 2) (Nat.le_of_ble_eq_true rfl)
  rw [lg_entry_eq]
  generalize (lg_sl ([.ref (adV j), .int x]) ++ List.replicate (2 - (lg_sl ([.ref (adV j), .int x])).length) Slot.unset).toArray = ls at hl ⊢
  have hl : lv_has ls 2 [(0, .ref (adV j)), (1, .int x)] := hl
  have hS : va_S A s.heap s.heap [] := va_S.rf
  obtain ⟨hn1, hn2⟩ := zst_len j hj
  obtain ⟨g1, g2, g3, g4⟩ := zst_ch j hj _ h1
  have hlt : x < nI (zst j).length := by
    obtain ⟨k, hk1, hk2⟩ := nI_of (x := x) (Int32.not_lt.mpr h0)
    subst hk2
    rw [nI_clamp hk1] at h1
    exact nI_lt h1 (by omega)
  refine lv_iload_n hx hb (show decode cJ1_charAt_3b067 0 = .ok (.iload_n 1, 1) by decide +kernel) rfl (lv_at hl 1 rfl) ?_
  refine lv_aload_n hx hb (show decode cJ1_charAt_3b067 1 = .ok (.aload_n 0, 1) by decide +kernel) rfl (lv_at hl 0 rfl) ?_
  refine va_tlen hx hb (hSt.1.1 j hj).2.2.2 hS (v := nI (zst j).length) (by rw [hn1]; rfl) (show decode cJ1_charAt_3b067 2 = .ok (.arraylength, 1) by decide +kernel) ?_
  refine zjS (As := [.int x, .int (nI (zst j).length)]) (rest := []) hx hb hml hown hts hK hSt (zj_sci l h0 hlt I G) (zjgS (fun w hw => zjt_in w (by simp only [List.mem_cons, List.not_mem_nil, or_false] at hw; rcases hw with rfl | rfl | rfl <;> simp [zjtW, yJ0_checkIndex_df160])) zc_J0_checkIndex_df160_in) ⟨rfl, rfl, by decide, by decide⟩ ⟨by decide, by decide, show (parseMethodDescriptor yJ0_checkIndex_df160.desc).map (fun d => d.parameters.length) = some 2 by decide +kernel⟩ (by decide) hP hS hl.1 hG (show decode cJ1_charAt_3b067 3 = .ok (.invokestatic 9, 3) by decide +kernel) ⟨Nat.zero_le _, Nat.zero_le _⟩ (fun H1 locs1 hP hG _ hS => ?_)
  refine lv_aload_n hx hb (show decode cJ1_charAt_3b067 6 = .ok (.aload_n 0, 1) by decide +kernel) rfl (lv_at hl 0 rfl) ?_
  refine lv_iload_n hx hb (show decode cJ1_charAt_3b067 7 = .ok (.iload_n 1, 1) by decide +kernel) rfl (lv_at hl 1 rfl) ?_
  refine va_tb hx hb (hSt.1.1 j hj).2.2.2 hS (zvpin ⟨h0, by rw [hn1]; exact h1⟩) (by rw [g1]) (show decode cJ1_charAt_3b067 8 = .ok (.baload, 1) by decide +kernel) ?_
  refine lv_sipush (v := 255) hx hb (show decode cJ1_charAt_3b067 9 = .ok (.sipush 255, 3) by decide +kernel) (by decide) ?_
  refine lv_iand hx hb (show decode cJ1_charAt_3b067 12 = .ok (.iand, 1) by decide +kernel) ?_
  refine lv_i2c (v := zgi (zst j) x.toNatClampNeg) hx hb (show decode cJ1_charAt_3b067 13 = .ok (.i2c, 1) by decide +kernel) (by rw [g2, g3]) ?_
  exact W.zret (v := zgi (zst j) x.toNatClampNeg) hx hb hr g4 (fun t ht hW => ⟨⟨rfl, trivial, by rw [ht]; exact hP, va_K.moved hW.alike hK, hSt.at hS ht hW, hG⟩, hS.F ht⟩) hS.2.2 (show decode cJ1_charAt_3b067 14 = .ok (.ireturn, 1) by decide +kernel) hlocks

set_option maxHeartbeats 4000000 in
set_option maxRecDepth 100000 in
theorem zj_charat (l : Launch) {j : Nat} (hj : j < 6) {x : Int32} (h0 : 0 ≤ x) (h1 : x.toNatClampNeg < (zst j).length) (I : zMI) (G : zMR) : Met l yJ0_charAt_5068e (.code yJ0_charAt_5068e cJ0_charAt_5068e 2 (some .char) :: zgw) zrm0 (va_Pc ([.ref (ad 60 j), .int x]) (zwd dC dI cI cZ cS ad adV A I G)) (zQ dC dI cI cZ cS ad adV A (some (zi (zgi (zst j) x.toNatClampNeg)), I, G)) 0 0 A := by
  refine Met.ofW (cc := cJ0_charAt_5068e) (maxL := 2) (ret := (some .char)) (by decide) rfl ?_
  intro p e s m args below meth c s₁ B hml hv
  obtain ⟨rfl, hP, hK, hSt, hG⟩ := hv
  have hx := B.exec
  have hb := B.bytes
  have hr := B.returns
  have hts0 := atoms_spec (ws := .code yJ0_charAt_5068e cJ0_charAt_5068e 2 (some .char) :: zgw) B.pre
  have hts : ∀ w ∈ zgw, w.before _ s = true := fun w hw => hts0 w (List.mem_cons_of_mem _ hw)
  have hown : s.vm.findClass RJ0 = some m.cls := findClass_of_methodNamed B.named
  have hlocks := B.notSynchronized
  have hl := lv_entry ([.ref (ad 60 j), .int x]) (n := 2) (Nat.le_of_ble_eq_true rfl)
  rw [lg_entry_eq]
  generalize (lg_sl ([.ref (ad 60 j), .int x]) ++ List.replicate (2 - (lg_sl ([.ref (ad 60 j), .int x])).length) Slot.unset).toArray = ls at hl ⊢
  have hl : lv_has ls 2 [(0, .ref (ad 60 j)), (1, .int x)] := hl
  have hS : va_S A s.heap s.heap [] := va_S.rf
  obtain ⟨g1, g2, g3, g4⟩ := zst_ch j hj _ h1
  refine lv_aload_n hx hb (show decode cJ0_charAt_5068e 0 = .ok (.aload_n 0, 1) by decide +kernel) rfl (lv_at hl 0 rfl) ?_
  refine zjV (As := []) (C := RJ0) hx hb hml hown hts hK hSt (zj_latin l hj I G) (zjgV (fun w hw => zjt_in w (by simp only [List.mem_cons, List.not_mem_nil, or_false] at hw; rcases hw with rfl | rfl | rfl | rfl <;> simp [zjtW])) zc_J0_isLatin1_aae02_in) ⟨rfl, rfl, by decide, by decide⟩ ⟨rfl, by decide, by decide, by decide +kernel⟩ (rest := []) (by decide) hP hS hl.1 hG (vk_recv hSt.1 hj hS) (show decode cJ0_charAt_5068e 1 = .ok (.invokevirtual 492, 3) by decide +kernel) ⟨Nat.zero_le _, Nat.zero_le _⟩ (fun H1 locs1 hP hG _ hS => ?_)
  refine lv_if_eq (tgt := 16) hx hb (show decode cJ0_charAt_5068e 4 = .ok (.ifCond .eq 12, 3) by decide +kernel) (by decide) (fun c1 => absurd c1 (by decide)) (fun _ => ?_)
  refine lv_aload_n hx hb (show decode cJ0_charAt_5068e 7 = .ok (.aload_n 0, 1) by decide +kernel) rfl (lv_at hl 0 rfl) ?_
  refine vk_getf hx hb (hSt.1.1 j hj).2.2.1 hS hown (hts _ (zjt_in (.fieldLink RJ0 9 "java/lang/String" "value" "[B") (by simp [zjtW]))) (fun _ h => h) (show decode cJ0_charAt_5068e 8 = .ok (.getfield 9, 3) by decide +kernel) ?_
  refine lv_iload_n hx hb (show decode cJ0_charAt_5068e 11 = .ok (.iload_n 1, 1) by decide +kernel) rfl (lv_at hl 1 rfl) ?_
  refine zjS (As := [.ref (adV j), .int x]) (rest := []) hx hb hml hown hts hK hSt (zj_lca l hj h0 h1 I G) (zjgS (fun w hw => zjt_in w (by simp only [List.mem_cons, List.not_mem_nil, or_false] at hw; rcases hw with rfl | rfl | rfl <;> simp [zjtW, yJ1_charAt_3b067])) zc_J1_charAt_3b067_in) ⟨rfl, rfl, by decide, by decide⟩ ⟨by decide, by decide, show (parseMethodDescriptor yJ1_charAt_3b067.desc).map (fun d => d.parameters.length) = some 2 by decide +kernel⟩ (by decide) hP hS hl.1 hG (show decode cJ0_charAt_5068e 12 = .ok (.invokestatic 495, 3) by decide +kernel) ⟨Nat.zero_le _, Nat.zero_le _⟩ (fun H1 locs1 hP hG _ hS => ?_)
  exact W.zret (v := zgi (zst j) x.toNatClampNeg) hx hb hr g4 (fun t ht hW => ⟨⟨rfl, trivial, by rw [ht]; exact hP, va_K.moved hW.alike hK, hSt.at hS ht hW, hG⟩, hS.F ht⟩) hS.2.2 (show decode cJ0_charAt_5068e 15 = .ok (.ireturn, 1) by decide +kernel) hlocks

theorem zTx_ok (l : Launch) : zTx dC dI cI cZ cS ad adV A l := ⟨fun _ I G hj => zj_length l hj I G, fun _ _ I G hj h0 h1 => zj_charat l hj h0 h1 I G⟩
end
end
section
/-! rules for the methods' walks; the references of the world -/
def zpl : Nat → Bool := fun o => o == 0 || o == 1 || o == 2 || o == 3 || o == 4 || o == 8 || o == 13 || o == 14 || o == 15 || o == 16 || o == 21 || o == 29 || o == 30 || o == 31 || o == 32 || o == 33 || o == 34 || o == 37 || o == 39 || o == 41 || o == 42 || o == 43 || o == 45 || o == 47 || o == 55 || o == 56 || o == 57 || (Nat.ble 60 o && Nat.ble o 67)
def zgC (ev : zEV) (f : zXL → List zAV → zMI → zMR → Option (List zAI × zXS)) : Option (List zAI × zXS) := match ev with
  | .inl (none, (L', (S', (I', G')))) => f L' S' I' G'
  | _ => none
/-- plain steps, as far as they go -/
def zgA : Nat → List zAI → zXL → List zAV → zMI → zMR → Option (List zAI × zXS)
  | 0, is, L, S, I, G => some (is, (L, (S, (I, G))))
  | _ + 1, [], L, S, I, G => some ([], (L, (S, (I, G))))
  | k + 1, i :: is, L, S, I, G => cond (zpl i.1) (zgC (zex i L S I G) (fun L' S' I' G' => zgA k is L' S' I' G')) (some (i :: is, (L, (S, (I, G)))))
theorem zgC_some {ev : zEV} {f : zXL → List zAV → zMI → zMR → Option (List zAI × zXS)} {r : List zAI × zXS} (h : zgC ev f = some r) : ∃ L S I G, ev = zeN (L, S, I, G) ∧ f L S I G = some r := by
  rcases ev with ⟨_ | b, L1, S1, I1, G1⟩ | j
  · exact ⟨L1, S1, I1, G1, rfl, h⟩
  · cases h
  · cases h
theorem z_aut : ∀ (k : Nat) {d : Nat} {B : List (List zAI)} {Q : zPQ} (is is' : List zAI) (L L' : zXL) (S S' : List zAV) (I I' : zMI) (G G' : zMR), zgA k is L S I G = some (is', (L', (S', (I', G')))) → zW d B is' L' S' I' G' Q → zW d B is L S I G Q := by
  intro k
  induction k with
  | zero => intro d B Q is is' L L' S S' I I' G G' h kk; cases h; exact kk
  | succ k ih =>
    intro d B Q is is' L L' S S' I I' G G' h kk
    cases is with
    | nil => cases h; exact kk
    | cons i is =>
      have h : cond (zpl i.1) (zgC (zex i L S I G) (fun L' S' I' G' => zgA k is L' S' I' G')) (some (i :: is, (L, (S, (I, G))))) = some (is', (L', (S', (I', G')))) := h
      generalize zpl i.1 = b at h
      cases b with
      | false => cases h; exact kk
      | true =>
        obtain ⟨L1, S1, I1, G1, e1, e2⟩ := zgC_some h
        exact z_st e1 (ih is is' L1 L' S1 S' I1 I' G1 G' e2 kk)
theorem z_auto {d : Nat} {B : List (List zAI)} {is is' : List zAI} {L L' : zXL} {S S' : List zAV} {I I' : zMI} {G G' : zMR} {Q : zPQ} (h : zgA 200 is L S I G = some (is', (L', (S', (I', G'))))) (kk : zW d B is' L' S' I' G' Q) : zW d B is L S I G Q := z_aut 200 _ _ _ _ _ _ _ _ _ _ h kk
theorem zal_lt : ∀ c, zal c < 1000 := by
  intro c
  have key : ∀ (l : List Nat), (∀ a ∈ l, a < 1000) → ∀ k, zgn l k < 1000 := by
    intro l
    induction l with
    | nil => intro _ k; show 0 < 1000; omega
    | cons a t ih =>
      intro h k
      cases k with
      | zero => exact h a List.mem_cons_self
      | succ k => exact ih (fun b hb => h b (List.mem_cons_of_mem _ hb)) k
  exact key zalL (by decide) c
section
variable {d : Nat} {B : List (List zAI)} {is : List zAI} {L : zXL} {S : List zAV} {I : zMI} {G : zMR} {Q : zPQ} {c j k : Nat} {x v : Int32}
/-- an array's place is read -/
theorem z_ald (hs : zsh c = 1) (hx : x = nI k) (hk : k < zal c) (kk : zW d B is L (zi (I c j k) :: S) I G Q) : zW d B ((17, 0, 0, 0) :: is) L (zi x :: zr c j :: S) I G Q := by
  have hc := zal_lt c
  have e : zex (17, 0, 0, 0) L (zi x :: zr c j :: S) I G = (if zsh c = 1 then (if 0 ≤ x ∧ x.toNatClampNeg < zal c then zeN (L, zi (I c j x.toNatClampNeg) :: S, I, G) else zeF) else if zsh c = 5 then (if 0 ≤ x ∧ x.toNatClampNeg < 7 then zeN (L, zi (ztab x.toNatClampNeg) :: S, I, G) else zeF) else zeF) := rfl
  subst hx
  have hcl : (nI k).toNatClampNeg = k := nI_clamp (by omega)
  rw [if_pos hs, hcl, if_pos ⟨nI_pos' (by omega), hk⟩] at e
  exact z_st e kk
/-- an array's place is written -/
theorem z_ast (hs : zsh c = 1) (hx : x = nI k) (hk : k < zal c) (kk : zW d B is L S (zup I c j k v) G Q) : zW d B ((18, 0, 0, 0) :: is) L (zi v :: zi x :: zr c j :: S) I G Q := by
  have hc := zal_lt c
  have e : zex (18, 0, 0, 0) L (zi v :: zi x :: zr c j :: S) I G = (if zsh c = 1 then (if 0 ≤ x ∧ x.toNatClampNeg < zal c then zeN (L, S, zup I c j x.toNatClampNeg v, G) else zeF) else zeF) := rfl
  subst hx
  have hcl : (nI k).toNatClampNeg = k := nI_clamp (by omega)
  rw [if_pos hs, hcl, if_pos ⟨nI_pos' (by omega), hk⟩] at e
  exact z_st e kk
theorem z_bld (hs : zsh c = 2) (hx : x = nI k) (hk : k < zal c) (kk : zW d B is L (zi (I c j k) :: S) I G Q) : zW d B ((19, 0, 0, 0) :: is) L (zi x :: zr c j :: S) I G Q := by
  have hc := zal_lt c
  have e : zex (19, 0, 0, 0) L (zi x :: zr c j :: S) I G = (if zsh c = 2 then (if 0 ≤ x ∧ x.toNatClampNeg < zal c then zeN (L, zi (I c j x.toNatClampNeg) :: S, I, G) else zeF) else zeF) := rfl
  subst hx
  have hcl : (nI k).toNatClampNeg = k := nI_clamp (by omega)
  rw [if_pos hs, hcl, if_pos ⟨nI_pos' (by omega), hk⟩] at e
  exact z_st e kk
theorem z_bst (hs : zsh c = 2) (hx : x = nI k) (hk : k < zal c) (hv : v = 0 ∨ v = 1) (kk : zW d B is L S (zup I c j k v) G Q) : zW d B ((20, 0, 0, 0) :: is) L (zi v :: zi x :: zr c j :: S) I G Q := by
  have hc := zal_lt c
  have e : zex (20, 0, 0, 0) L (zi v :: zi x :: zr c j :: S) I G = (if zsh c = 2 then (if (0 ≤ x ∧ x.toNatClampNeg < zal c) ∧ (v = 0 ∨ v = 1) then zeN (L, S, zup I c j x.toNatClampNeg v, G) else zeF) else zeF) := rfl
  subst hx
  have hcl : (nI k).toNatClampNeg = k := nI_clamp (by omega)
  rw [if_pos hs, hcl, if_pos ⟨⟨nI_pos' (by omega), hk⟩, hv⟩] at e
  exact z_st e kk
theorem z_sld (hs : zsh c = 3) (hx : x = nI k) (hk : k < zal c) (kk : zW d B is L (.inr (.inr (G c j k)) :: S) I G Q) : zW d B ((22, 0, 0, 0) :: is) L (zi x :: zr c j :: S) I G Q := by
  have hc := zal_lt c
  have e : zex (22, 0, 0, 0) L (zi x :: zr c j :: S) I G = (if zsh c = 3 then (if 0 ≤ x ∧ x.toNatClampNeg < zal c then zeN (L, .inr (.inr (G c j x.toNatClampNeg)) :: S, I, G) else zeF) else zeF) := rfl
  subst hx
  have hcl : (nI k).toNatClampNeg = k := nI_clamp (by omega)
  rw [if_pos hs, hcl, if_pos ⟨nI_pos' (by omega), hk⟩] at e
  exact z_st e kk
end
/-- the references of the world behind the constructors; those of the latest fall and of the reader change -/
def zRR (rl rs : Option (Nat × Nat)) : zMR := fun c i k => match c with
  | 0 => some (35, 0)
  | 1 => (match k with | 0 => some (8, i) | 1 => some (4, i) | 2 => some (2, i) | 3 => some (7, 2 * i) | 4 => some (7, 2 * i + 1) | _ => none)
  | 3 => (match k with | 0 => some (2, 2) | 3 => if i = 0 then rl else none | _ => none)
  | 4 => (match k with | 0 => some (20, i) | 1 => some (21, i) | 2 => some (22, i) | 3 => some (23, i) | 4 => some (24, i) | 5 => some (25, i) | _ => none)
  | 5 => (match k with | 0 => some (6, 0) | 1 => if i = 0 then rs else none | _ => none)
  | 6 => (match k with | 0 => some (30, i) | 1 => some (31, i) | 2 => some (32, i) | 3 => some (33, i) | 4 => some (34, i) | _ => none)
  | 7 => (match k with | 0 => some (26, i) | 1 => some (27, i) | 2 => some (28, i) | _ => none)
  | 8 => some (29, i)
  | 9 => (match k with | 0 => some (1, 0) | 1 => some (1, 1) | 3 => some (50, 0) | 4 => some (5, 0) | 5 => some (3, 0) | 6 => some (0, 0) | 7 => some (51, 0) | _ => none)
  | 10 => (match k with | 1 => some (40, 0) | 2 => some (41, 0) | 9 => some (42, 0) | 10 => some (43, 0) | 20 => some (44, 0) | 21 => some (45, 0) | _ => none)
  | 50 => some (6, k + 1)
  | _ => none
theorem zur_l (rl rs v : Option (Nat × Nat)) : zur (zRR rl rs) 3 0 3 v = zRR v rs := by
  funext c i k
  unfold zur
  by_cases h : c = 3 ∧ i = 0 ∧ k = 3
  · rw [if_pos h]
    obtain ⟨rfl, rfl, rfl⟩ := h
    rfl
  · rw [if_neg h]
    unfold zRR
    split <;> try rfl
    split <;> try rfl
    split
    · rename_i h1
      exact absurd ⟨rfl, h1, rfl⟩ h
    · rfl
theorem zur_s (rl rs v : Option (Nat × Nat)) : zur (zRR rl rs) 5 0 1 v = zRR rl v := by
  funext c i k
  unfold zur
  by_cases h : c = 5 ∧ i = 0 ∧ k = 1
  · rw [if_pos h]
    obtain ⟨rfl, rfl, rfl⟩ := h
    rfl
  · rw [if_neg h]
    unfold zRR
    split <;> try rfl
    split <;> try rfl
    split
    · rename_i h1
      exact absurd ⟨rfl, h1, rfl⟩ h
    · rfl
theorem zup_eq {I : zMI} {c i k : Nat} {v : Int32} : zup I c i k v c i k = v := by
  unfold zup
  rw [if_pos ⟨rfl, rfl, rfl⟩]
theorem zup_c {I : zMI} {c i k c' i' k' : Nat} {v : Int32} (h : c' ≠ c) : zup I c i k v c' i' k' = I c' i' k' := by
  unfold zup
  rw [if_neg (fun z => h z.1)]
theorem zup_i {I : zMI} {c i k c' i' k' : Nat} {v : Int32} (h : i' ≠ i) : zup I c i k v c' i' k' = I c' i' k' := by
  unfold zup
  rw [if_neg (fun z => h z.2.1)]
theorem zup_k {I : zMI} {c i k c' i' k' : Nat} {v : Int32} (h : k' ≠ k) : zup I c i k v c' i' k' = I c' i' k' := by
  unfold zup
  rw [if_neg (fun z => h z.2.2)]
end
section
/-! leaves: Layers, Egg, Tape, Sheet, School, Fall -/
/-- the weight of the first n layers that are not left out -/
def zww (w : Nat → Int32) (set : Int32) : Nat → Int32
  | 0 => 0
  | n + 1 => if (set >>> (nI n &&& 31)) &&& 1 = 0 then zww w set n + w n else zww w set n
section
variable {d : Nat} {I : zMI} {rl rs : Option (Nat × Nat)} {Q : zPQ}
set_option maxHeartbeats 4000000 in
set_option maxRecDepth 100000 in
theorem s_has {x : Int32} {n : Nat} (hn : I 4 0 7 = nI n) (h8 : n ≤ 8) (h1 : ∀ k, k < n → x = nI k → Q (some (zi 1)) I (zRR rl rs)) (h0 : (x < 0 ∨ nI n ≤ x) → Q (some (zi 0)) I (zRR rl rs)) : zWm d 28 [zr 4 0, zi x] I (zRR rl rs) Q := by
  refine z_auto rfl ?_
  refine z_br rfl (fun c => ?_) (fun c => ?_)
  · refine z_auto rfl ?_
    refine z_jp rfl ?_
    refine z_auto rfl ?_
    exact z_rt rfl (h0 (Or.inl c))
  · refine z_auto rfl ?_
    refine z_br rfl (fun c2 => ?_) (fun c2 => ?_)
    · refine z_auto rfl ?_
      refine z_jp rfl ?_
      refine z_auto rfl ?_
      exact z_rt rfl (h0 (Or.inr (by rw [hn] at c2; exact c2)))
    · obtain ⟨k, hk, rfl⟩ := nI_of c
      rw [hn] at c2
      have hkn : k < n := by
        rcases Nat.lt_or_ge k n with q | q
        · exact q
        · exact absurd (nI_le q (by omega)) c2
      refine z_auto rfl ?_
      refine z_br rfl (fun c3 => ?_) (fun c3 => ?_)
      · exact absurd c3 (nI_ge (a := k) (b := 8) (by omega) (by omega))
      · refine z_auto rfl ?_
        refine z_jp rfl ?_
        refine z_auto rfl ?_
        exact z_rt rfl (h1 k hkn rfl)
set_option maxHeartbeats 4000000 in
set_option maxRecDepth 100000 in
theorem s_isBroken {x : Int32} (h1 : (I 4 0 6 >>> (x &&& 31)) &&& 1 = 1 → Q (some (zi 1)) I (zRR rl rs)) (h0 : ¬ (I 4 0 6 >>> (x &&& 31)) &&& 1 = 1 → Q (some (zi 0)) I (zRR rl rs)) : zWm d 29 [zr 4 0, zi x] I (zRR rl rs) Q := by
  refine z_auto rfl ?_
  refine z_br rfl (fun c => ?_) (fun c => ?_)
  · refine z_auto rfl ?_
    refine z_jp rfl ?_
    refine z_auto rfl ?_
    exact z_rt rfl (h0 c)
  · refine z_auto rfl ?_
    refine z_jp rfl ?_
    refine z_auto rfl ?_
    exact z_rt rfl (h1 (Classical.not_not.mp c))
set_option maxHeartbeats 4000000 in
set_option maxRecDepth 100000 in
theorem s_allBits (h : Q (some (zi ((1 <<< (I 4 0 7 &&& 31)) - 1))) I (zRR rl rs)) : zWm d 30 [zr 4 0] I (zRR rl rs) Q := by
  refine z_auto rfl ?_
  exact z_rt rfl h
set_option maxHeartbeats 4000000 in
set_option maxRecDepth 100000 in
theorem s_add {kd v th w sd : Int32} {n : Nat} (hn : I 4 0 7 = nI n) (h8 : n ≤ 8) (hf : n = 8 → Q (some (zi (-4))) I (zRR rl rs)) (h : n < 8 → Q (some (zi (nI n))) (zup (zup (zup (zup (zup (zup I 20 0 n kd) 21 0 n v) 22 0 n th) 23 0 n w) 24 0 n sd) 4 0 7 (nI (n + 1))) (zRR rl rs)) : zWm d 31 [zr 4 0, zi kd, zi v, zi th, zi w, zi sd] I (zRR rl rs) Q := by
  refine z_auto rfl ?_
  refine z_br rfl (fun c => ?_) (fun c => ?_)
  · rw [hn] at c
    exact absurd c (nI_pos (by omega))
  · refine z_auto rfl ?_
    refine z_br rfl (fun c2 => ?_) (fun c2 => ?_)
    · rw [hn] at c2
      have hlt : n < 8 := (nI_ltI (a := n) (b := 8) (by omega) (by omega)).mp c2
      refine z_auto rfl ?_
      refine z_ast (k := n) rfl hn (by show n < 8; omega) ?_
      refine z_auto rfl ?_
      refine z_ast (k := n) rfl hn (by show n < 8; omega) ?_
      refine z_auto rfl ?_
      refine z_ast (k := n) rfl hn (by show n < 8; omega) ?_
      refine z_auto rfl ?_
      refine z_ast (k := n) rfl hn (by show n < 8; omega) ?_
      refine z_auto rfl ?_
      refine z_ast (k := n) rfl hn (by show n < 8; omega) ?_
      have h' := h hlt
      have e : zup (zup (zup (zup (zup I 20 0 n kd) 21 0 n v) 22 0 n th) 23 0 n w) 24 0 n sd 4 0 7 + 1 = nI (n + 1) := by
        rw [zup_c (by decide), zup_c (by decide), zup_c (by decide), zup_c (by decide), zup_c (by decide), hn]
        exact nI_1 n
      rw [← e, ← hn] at h'
      refine z_auto rfl ?_
      exact z_rt rfl h'
    · rw [hn] at c2
      have hn8 : n = 8 := by
        have : ¬ n < 8 := fun q => c2 ((nI_ltI (a := n) (b := 8) (by omega) (by omega)).mpr q)
        omega
      refine z_auto rfl ?_
      refine z_jp rfl ?_
      refine z_auto rfl ?_
      exact z_rt rfl (hf hn8)
set_option maxHeartbeats 4000000 in
set_option maxRecDepth 100000 in
theorem s_mark {x b : Int32} (h1 : ¬ b = 0 → Q none (zup I 4 0 6 (I 4 0 6 ||| (1 <<< (x &&& 31)))) (zRR rl rs)) (h0 : b = 0 → Q none (zup I 4 0 6 (I 4 0 6 &&& ((1 <<< (x &&& 31)) ^^^ (-1)))) (zRR rl rs)) : zWm d 32 [zr 4 0, zi x, zi b] I (zRR rl rs) Q := by
  refine z_auto rfl ?_
  refine z_br rfl (fun c => ?_) (fun c => ?_)
  · refine z_auto rfl ?_
    refine z_jp rfl ?_
    refine z_auto rfl ?_
    exact z_rt rfl (h0 c)
  · refine z_auto rfl ?_
    refine z_jp rfl ?_
    refine z_auto rfl ?_
    exact z_rt rfl (h1 c)
set_option maxHeartbeats 4000000 in
set_option maxRecDepth 100000 in
theorem s_renew {i : Nat} (h : Q none (zup (zup I 2 i 0 0) 2 i 1 1) (zRR rl rs)) : zWm d 12 [zr 2 i] I (zRR rl rs) Q := by
  refine z_auto rfl ?_
  first | refine z_st rfl ?_ | refine z_ck rfl (by decide) ?_
  refine z_auto rfl ?_
  exact z_rt rfl h
/-- what an egg bears, by its cracks -/
def zbr (b cr : Int32) : Int32 := if 0 < b - 3 * cr then b - 3 * cr else 0
set_option maxHeartbeats 4000000 in
set_option maxRecDepth 100000 in
theorem s_land {i : Nat} {f b : Int32} (h0 : I 2 i 1 = 0 → Q none I (zRR rl rs)) (h1 : ¬ I 2 i 1 = 0 → ¬ f ≤ zbr b (I 2 i 0) → Q none (zup I 2 i 1 0) (zRR rl rs)) (h2 : ¬ I 2 i 1 = 0 → f ≤ zbr b (I 2 i 0) → ¬ 2 * f ≤ zbr b (I 2 i 0) → Q none (zup I 2 i 0 (I 2 i 0 + 1)) (zRR rl rs)) (h3 : ¬ I 2 i 1 = 0 → f ≤ zbr b (I 2 i 0) → 2 * f ≤ zbr b (I 2 i 0) → Q none I (zRR rl rs)) : zWm d 13 [zr 2 i, zi f, zi b] I (zRR rl rs) Q := by
  refine z_auto rfl ?_
  refine z_br rfl (fun c => ?_) (fun c => ?_)
  · refine z_auto rfl ?_
    refine z_br rfl (fun c2 => ?_) (fun c2 => ?_)
    · refine z_auto rfl ?_
      refine z_br rfl (fun c3 => ?_) (fun c3 => ?_)
      · refine z_auto rfl ?_
        exact z_rt rfl (h3 c c2 c3)
      · refine z_auto rfl ?_
        refine z_jp rfl ?_
        refine z_auto rfl ?_
        exact z_rt rfl (h2 c c2 c3)
    · refine z_auto rfl ?_
      first | refine z_st rfl ?_ | refine z_ck rfl (by decide) ?_
      refine z_auto rfl ?_
      refine z_jp rfl ?_
      refine z_auto rfl ?_
      exact z_rt rfl (h1 c c2)
  · refine z_auto rfl ?_
    exact z_rt rfl (h0 (Classical.not_not.mp c))
set_option maxHeartbeats 4000000 in
set_option maxRecDepth 100000 in
theorem s_put {i n : Nat} {x : Int32} (hn : I 8 i 1 = nI n) (h8 : n ≤ 100) (hf : n = 100 → Q (some (zi 0)) I (zRR rl rs)) (h : n < 100 → Q (some (zi 1)) (zup (zup I 29 i n x) 8 i 1 (nI (n + 1))) (zRR rl rs)) : zWm d 62 [zr 8 i, zi x] I (zRR rl rs) Q := by
  refine z_auto rfl ?_
  refine z_br rfl (fun c => ?_) (fun c => ?_)
  · rw [hn] at c
    exact absurd c (nI_pos (by omega))
  · refine z_auto rfl ?_
    refine z_br rfl (fun c2 => ?_) (fun c2 => ?_)
    · rw [hn] at c2
      have hlt : n < 100 := (nI_ltI (a := n) (b := 100) (by omega) (by omega)).mp c2
      refine z_auto rfl ?_
      refine z_ast (k := n) rfl hn (by show n < 100; omega) ?_
      have h' := h hlt
      have e : zup I 29 i n x 8 i 1 + 1 = nI (n + 1) := by
        rw [zup_c (by decide), hn]
        exact nI_1 n
      rw [← e] at h'
      refine z_auto rfl ?_
      exact z_rt rfl h'
    · rw [hn] at c2
      have hn8 : n = 100 := by
        have : ¬ n < 100 := fun q => c2 ((nI_ltI (a := n) (b := 100) (by omega) (by omega)).mpr q)
        omega
      refine z_auto rfl ?_
      refine z_jp rfl ?_
      refine z_auto rfl ?_
      exact z_rt rfl (hf hn8)
set_option maxHeartbeats 4000000 in
set_option maxRecDepth 100000 in
theorem s_sadd {i n : Nat} {x y z : Int32} (hn : I 7 i 3 = nI n) (h8 : n ≤ 8) (hf : n = 8 → Q (some (zi 0)) I (zRR rl rs)) (h : n < 8 → Q (some (zi 1)) (zup (zup (zup (zup I 26 i n x) 27 i n y) 28 i n z) 7 i 3 (nI (n + 1))) (zRR rl rs)) : zWm d 59 [zr 7 i, zi x, zi y, zi z] I (zRR rl rs) Q := by
  refine z_auto rfl ?_
  refine z_br rfl (fun c => ?_) (fun c => ?_)
  · rw [hn] at c
    exact absurd c (nI_pos (by omega))
  · refine z_auto rfl ?_
    refine z_br rfl (fun c2 => ?_) (fun c2 => ?_)
    · rw [hn] at c2
      have hlt : n < 8 := (nI_ltI (a := n) (b := 8) (by omega) (by omega)).mp c2
      refine z_auto rfl ?_
      refine z_ast (k := n) rfl hn (by show n < 8; omega) ?_
      refine z_auto rfl ?_
      refine z_ast (k := n) rfl (by rw [zup_c (by decide)]; exact hn) (by show n < 8; omega) ?_
      refine z_auto rfl ?_
      refine z_ast (k := n) rfl (by rw [zup_c (by decide), zup_c (by decide)]; exact hn) (by show n < 8; omega) ?_
      have h' := h hlt
      have e : zup (zup (zup I 26 i n x) 27 i n y) 28 i n z 7 i 3 + 1 = nI (n + 1) := by
        rw [zup_c (by decide), zup_c (by decide), zup_c (by decide), hn]
        exact nI_1 n
      rw [← e] at h'
      refine z_auto rfl ?_
      exact z_rt rfl h'
    · rw [hn] at c2
      have hn8 : n = 8 := by
        have : ¬ n < 8 := fun q => c2 ((nI_ltI (a := n) (b := 8) (by omega) (by omega)).mpr q)
        omega
      refine z_auto rfl ?_
      refine z_jp rfl ?_
      refine z_auto rfl ?_
      exact z_rt rfl (hf hn8)
set_option maxHeartbeats 4000000 in
set_option maxRecDepth 100000 in
theorem s_weight {n : Nat} {set : Int32} (hn : I 4 0 7 = nI n) (h8 : n ≤ 8) (h : Q (some (zi (zww (I 23 0) set n))) I (zRR rl rs)) : zWm d 33 [zr 4 0, zi set] I (zRR rl rs) Q := by
  have loop : ∀ k j, j + k = n → zW d kX4_weightWithout (zblk kX4_weightWithout 1) [some (zr 4 0), some (zi set), some (zi (zww (I 23 0) set j)), some (zi (nI j))] [] I (zRR rl rs) Q := by
    intro k
    induction k with
    | zero =>
      intro j hj
      refine z_auto rfl ?_
      refine z_br rfl (fun c => ?_) (fun c => ?_)
      · have : j = n := by omega
        subst this
        refine z_auto rfl ?_
        exact z_rt rfl h
      · exact absurd (by rw [hn]; exact nI_le (by omega) (by omega)) c
    | succ k ih =>
      intro j hj
      refine z_auto rfl ?_
      refine z_br rfl (fun c => ?_) (fun c => ?_)
      · rw [hn] at c
        exact absurd c (nI_ge (by omega) (by omega))
      · refine z_auto rfl ?_
        refine z_br rfl (fun c => ?_) (fun c => ?_)
        · exact absurd c (nI_ge (a := j) (b := 8) (by omega) (by omega))
        · have h2 := ih (j + 1) (by omega)
          rw [zww, nI_succ] at h2
          refine z_auto rfl ?_
          refine z_br rfl (fun c => ?_) (fun c => ?_)
          · rw [if_neg c] at h2
            refine z_auto rfl ?_
            refine z_jp rfl ?_
            exact h2
          · rw [if_pos (Classical.not_not.mp c)] at h2
            refine z_auto rfl ?_
            refine z_ald (k := j) rfl rfl (by show j < 8; omega) ?_
            refine z_auto rfl ?_
            refine z_jp rfl ?_
            refine z_auto rfl ?_
            refine z_jp rfl ?_
            exact h2
  refine z_auto rfl ?_
  refine z_jp rfl ?_
  exact loop n 0 (by omega)
end
end
section
/-! SCHOOLS: a clause is (word, number, steps); a step below 1500 is a test (300 letter + 100 sign + number), 1500 not, 1501 and, 1502 or -/
abbrev zCl : Type := Nat × (Nat × List Nat)
def zcs (t : Nat) : Int32 := if t < 1500 then nI t else -nI (t - 1499)
def ztest (v : Nat → Int32) (t : Nat) : Bool := if t % 300 / 100 = 0 then decide (v (t / 300) < nI (t % 100)) else if t % 300 / 100 = 1 then decide (v (t / 300) = nI (t % 100)) else decide (nI (t % 100) < v (t / 300))
def zev1 (v : Nat → Int32) (t : Nat) : List Bool → List Bool
  | [] => if t < 1500 then [ztest v t] else []
  | [a] => if t < 1500 then [ztest v t, a] else if t = 1500 then [!a] else [a]
  | b :: a :: r => if t < 1500 then ztest v t :: b :: a :: r else if t = 1500 then (!b) :: a :: r else if t = 1501 then (a && b) :: r else (a || b) :: r
def zev (v : Nat → Int32) : List Nat → List Bool → List Bool
  | [], st => st
  | t :: p, st => zev v p (zev1 v t st)
/-- the height of the stack behind a step, if it fits -/
def zok1 (h t : Nat) : Option Nat := if t < 1500 then (if h < 30 then some (h + 1) else none) else if t = 1500 then (if 1 ≤ h then some h else none) else if t = 1501 ∨ t = 1502 then (if 2 ≤ h then some (h - 1) else none) else none
def zok : Nat → List Nat → Option Nat
  | h, [] => some h
  | h, t :: p => match zok1 h t with
    | some h' => zok h' p
    | none => none
def zcB (v : Nat → Int32) (p : List Nat) : Bool := (zev v p []).headD false
/-- where the steps of the first clauses end -/
def zend : List zCl → Nat → Nat
  | _, 0 => 0
  | [], _ + 1 => 0
  | c :: C, i + 1 => c.2.2.length + zend C i
def zflat (C : List zCl) : List Nat := C.flatMap (fun c => c.2.2)
def zwf (c : zCl) : Prop := c.1 ≤ 3 ∧ c.2.1 ≤ 99 ∧ ((c.1 ≤ 1 ∧ c.2.2 = []) ∨ (2 ≤ c.1 ∧ zok 0 c.2.2 = some 1))
/-- school j of the class holds these clauses -/
def zES (I : zMI) (j : Nat) (C : List zCl) : Prop := I 6 j 5 = nI C.length ∧ C.length ≤ 10 ∧ (zflat C).length ≤ 100 ∧ (∀ c ∈ C, zwf c) ∧
  (∀ i c, C[i]? = some c → I 30 j i = nI c.1 ∧ I 31 j i = nI c.2.1 ∧ I 32 j i = nI (zend C (i + 1))) ∧ ∀ k t, (zflat C)[k]? = some t → I 33 j k = zcs t
/-- the last number of a word -/
def zlast : List zCl → Nat → Int32 → Int32
  | [], _, n => n
  | c :: C, w, n => zlast C w (if c.1 = w then nI c.2.1 else n)
/-- the numbers of a word whose condition holds -/
def zcsum (v : Nat → Int32) : List zCl → Nat → Nat
  | [], _ => 0
  | c :: C, w => (if c.1 = w ∧ zcB v c.2.2 = true then c.2.1 else 0) + zcsum v C w
section
variable {d : Nat} {I : zMI} {rl rs : Option (Nat × Nat)} {Q : zPQ} {j : Nat}
set_option maxHeartbeats 4000000 in
set_option maxRecDepth 100000 in
theorem s_clear (h : Q none (zup (zup I 6 j 5 0) 6 j 6 0) (zRR rl rs)) : zWm d 49 [zr 6 j] I (zRR rl rs) Q := by
  refine z_auto rfl ?_
  exact z_rt rfl h
set_option maxHeartbeats 4000000 in
set_option maxRecDepth 100000 in
theorem s_addStep {x : Int32} {n : Nat} (hn : I 6 j 6 = nI n) (h8 : n < 100) (h : Q none (zup (zup I 33 j n x) 6 j 6 (nI (n + 1))) (zRR rl rs)) : zWm d 51 [zr 6 j, zi x] I (zRR rl rs) Q := by
  refine z_auto rfl ?_
  refine z_br rfl (fun c => ?_) (fun c => ?_)
  · rw [hn] at c
    exact absurd c (nI_pos (by omega))
  · refine z_auto rfl ?_
    refine z_br rfl (fun c2 => ?_) (fun c2 => ?_)
    · rw [hn] at c2
      exact absurd c2 (nI_ge (a := n) (b := 100) (by omega) (by omega))
    · refine z_auto rfl ?_
      refine z_ast (k := n) rfl hn (by show n < 100; omega) ?_
      have e : zup I 33 j n x 6 j 6 + 1 = nI (n + 1) := by
        rw [zup_c (by decide), hn]
        exact nI_1 n
      rw [← e] at h
      refine z_auto rfl ?_
      refine z_jp rfl ?_
      refine z_auto rfl ?_
      exact z_rt rfl h
set_option maxHeartbeats 4000000 in
set_option maxRecDepth 100000 in
theorem s_addClause {w x : Int32} {n : Nat} (hn : I 6 j 5 = nI n) (h8 : n < 10) (h : Q none (zup (zup (zup (zup I 30 j n w) 31 j n x) 32 j n (I 6 j 6)) 6 j 5 (nI (n + 1))) (zRR rl rs)) : zWm d 52 [zr 6 j, zi w, zi x] I (zRR rl rs) Q := by
  refine z_auto rfl ?_
  refine z_br rfl (fun c => ?_) (fun c => ?_)
  · rw [hn] at c
    exact absurd c (nI_pos (by omega))
  · refine z_auto rfl ?_
    refine z_br rfl (fun c2 => ?_) (fun c2 => ?_)
    · rw [hn] at c2
      exact absurd c2 (nI_ge (a := n) (b := 10) (by omega) (by omega))
    · refine z_auto rfl ?_
      refine z_ast (k := n) rfl hn (by show n < 10; omega) ?_
      refine z_auto rfl ?_
      refine z_ast (k := n) rfl (by rw [zup_c (by decide)]; exact hn) (by show n < 10; omega) ?_
      refine z_auto rfl ?_
      refine z_ast (k := n) rfl (by rw [zup_c (by decide), zup_c (by decide)]; exact hn) (by show n < 10; omega) ?_
      have e : zup (zup (zup I 30 j n w) 31 j n x) 32 j n (I 6 j 6) 6 j 5 + 1 = nI (n + 1) := by
        rw [zup_c (by decide), zup_c (by decide), zup_c (by decide), hn]
        exact nI_1 n
      have e2 : zup (zup I 30 j n w) 31 j n x 6 j 6 = I 6 j 6 := by
        rw [zup_c (by decide), zup_c (by decide)]
      rw [← e] at h
      rw [e2]
      refine z_auto rfl ?_
      refine z_jp rfl ?_
      refine z_auto rfl ?_
      exact z_rt rfl h
theorem zlast_snoc (C : List zCl) (c : zCl) (w : Nat) (n : Int32) : zlast (C ++ [c]) w n = if c.1 = w then nI c.2.1 else zlast C w n := by
  induction C generalizing n with
  | nil => rfl
  | cons a C ih => exact ih _
set_option maxHeartbeats 4000000 in
set_option maxRecDepth 100000 in
theorem s_last {C : List zCl} (hE : zES I j C) {w : Nat} (hw : w ≤ 3) {n0 : Int32} (h : Q (some (zi (zlast C w n0))) I (zRR rl rs)) : zWm d 53 [zr 6 j, zi (nI w), zi n0] I (zRR rl rs) Q := by
  obtain ⟨e1, e2, e3, e4, e5, e6⟩ := hE
  have loop : ∀ k i, i + k = C.length → zW d kX6_last (zblk kX6_last 1) [some (zr 6 j), some (zi (nI w)), some (zi n0), some (zi (zlast (C.take i) w n0)), some (zi (nI i))] [] I (zRR rl rs) Q := by
    intro k
    induction k with
    | zero =>
      intro i hi
      refine z_auto rfl ?_
      refine z_br rfl (fun c => ?_) (fun c => ?_)
      · have : i = C.length := by omega
        subst this
        rw [List.take_length]
        refine z_auto rfl ?_
        exact z_rt rfl h
      · exact absurd (by rw [e1]; exact nI_le (by omega) (by omega)) c
    | succ k ih =>
      intro i hi
      refine z_auto rfl ?_
      refine z_br rfl (fun c => ?_) (fun c => ?_)
      · rw [e1] at c
        exact absurd c (nI_ge (by omega) (by omega))
      · refine z_auto rfl ?_
        refine z_br rfl (fun c2 => ?_) (fun c2 => ?_)
        · exact absurd c2 (nI_ge (a := i) (b := 10) (by omega) (by omega))
        · have hlt : i < C.length := by omega
          have hg : C[i]? = some C[i] := List.getElem?_eq_getElem hlt
          obtain ⟨g1, g2, g3⟩ := e5 i _ hg
          have hw1 := (e4 _ (List.getElem_mem hlt)).1
          have h2 := ih (i + 1) (by omega)
          rw [List.take_succ, hg, Option.toList_some, zlast_snoc, nI_succ] at h2
          refine z_auto rfl ?_
          refine z_ald (k := i) rfl rfl (by show i < 10; omega) ?_
          rw [g1]
          refine z_auto rfl ?_
          refine z_br rfl (fun c3 => ?_) (fun c3 => ?_)
          · rw [if_neg (fun q => c3 (by rw [q]))] at h2
            refine z_auto rfl ?_
            refine z_jp rfl ?_
            exact h2
          · have hq : C[i].1 = w := (nI_eq (by omega) (by omega)).mp (Classical.not_not.mp c3)
            rw [if_pos hq, ← g2] at h2
            refine z_auto rfl ?_
            refine z_ald (k := i) rfl rfl (by show i < 10; omega) ?_
            refine z_auto rfl ?_
            refine z_jp rfl ?_
            refine z_auto rfl ?_
            refine z_jp rfl ?_
            exact h2
  refine z_auto rfl ?_
  refine z_jp rfl ?_
  exact loop C.length 0 (by omega)
set_option maxHeartbeats 4000000 in
set_option maxRecDepth 100000 in
theorem s_setTest {a b c e f : Int32} (h : Q none (zup (zup (zup (zup (zup I 34 j 0 a) 34 j 1 b) 34 j 2 c) 34 j 3 e) 34 j 4 f) (zRR rl rs)) : zWm d 54 [zr 6 j, zi a, zi b, zi c, zi e, zi f] I (zRR rl rs) Q := by
  refine z_auto rfl ?_
  refine z_ast (k := 0) rfl rfl (by decide) ?_
  refine z_auto rfl ?_
  refine z_ast (k := 1) rfl rfl (by decide) ?_
  refine z_auto rfl ?_
  refine z_ast (k := 2) rfl rfl (by decide) ?_
  refine z_auto rfl ?_
  refine z_ast (k := 3) rfl rfl (by decide) ?_
  refine z_auto rfl ?_
  refine z_ast (k := 4) rfl rfl (by decide) ?_
  refine z_auto rfl ?_
  exact z_rt rfl h
set_option maxHeartbeats 4000000 in
set_option maxRecDepth 100000 in
theorem s_passes {t : Nat} (ht : t < 1500) (h1 : ztest (I 34 j) t = true → Q (some (zi 1)) I (zRR rl rs)) (h0 : ztest (I 34 j) t = false → Q (some (zi 0)) I (zRR rl rs)) : zWm d 57 [zr 6 j, zi (nI t)] I (zRR rl rs) Q := by
  have d1 : nI t / 300 = nI (t / 300) := pk_div (a := t) (d := 300) (by omega) (by omega) (by omega)
  have d2 : nI t - nI t / 300 * 300 = nI (t % 300) := pk_rem (a := t) (d := 300) (by omega) (by omega) (by omega)
  have d3 : nI (t % 300) / 100 = nI (t % 300 / 100) := pk_div (a := t % 300) (d := 100) (by omega) (by omega) (by omega)
  have d4 : nI t - nI t / 100 * 100 = nI (t % 100) := pk_rem (a := t) (d := 100) (by omega) (by omega) (by omega)
  have hl : t / 300 < 5 := by omega
  refine z_auto rfl ?_
  first | refine z_st rfl ?_ | refine z_ck rfl (by decide) ?_
  rw [d1]
  refine z_auto rfl ?_
  refine z_br rfl (fun c => ?_) (fun c => ?_)
  · exact absurd c (nI_pos (by omega))
  · refine z_auto rfl ?_
    refine z_br rfl (fun c2 => ?_) (fun c2 => ?_)
    · refine z_auto rfl ?_
      first | refine z_st rfl ?_ | refine z_ck rfl (by decide) ?_
      rw [d2]
      refine z_auto rfl ?_
      first | refine z_st rfl ?_ | refine z_ck rfl (by decide) ?_
      rw [d3]
      refine z_auto rfl ?_
      first | refine z_st rfl ?_ | refine z_ck rfl (by decide) ?_
      rw [d4]
      refine z_auto rfl ?_
      refine z_br rfl (fun c3 => ?_) (fun c3 => ?_)
      · have q0 : ¬ t % 300 / 100 = 0 := fun q => c3 (by rw [q]; rfl)
        refine z_auto rfl ?_
        refine z_br rfl (fun c4 => ?_) (fun c4 => ?_)
        · have q1 : ¬ t % 300 / 100 = 1 := fun q => c4 (by rw [q]; rfl)
          refine z_auto rfl ?_
          refine z_ald (k := (t / 300)) rfl rfl (by show t / 300 < 5; omega) ?_
          refine z_auto rfl ?_
          refine z_br rfl (fun c5 => ?_) (fun c5 => ?_)
          · refine z_auto rfl ?_
            refine z_jp rfl ?_
            refine z_auto rfl ?_
            exact z_rt rfl (h0 (by unfold ztest; rw [if_neg q0, if_neg q1]; exact decide_eq_false (Int32.not_lt.mpr c5)))
          · refine z_auto rfl ?_
            refine z_jp rfl ?_
            refine z_auto rfl ?_
            exact z_rt rfl (h1 (by unfold ztest; rw [if_neg q0, if_neg q1]; exact decide_eq_true (Int32.not_le.mp c5)))
        · have q1 : t % 300 / 100 = 1 := (nI_eq (a := t % 300 / 100) (b := 1) (by omega) (by omega)).mp (Classical.not_not.mp c4)
          refine z_auto rfl ?_
          refine z_ald (k := (t / 300)) rfl rfl (by show t / 300 < 5; omega) ?_
          refine z_auto rfl ?_
          refine z_br rfl (fun c5 => ?_) (fun c5 => ?_)
          · refine z_auto rfl ?_
            refine z_jp rfl ?_
            refine z_auto rfl ?_
            exact z_rt rfl (h0 (by unfold ztest; rw [if_neg q0, if_pos q1]; exact decide_eq_false c5))
          · refine z_auto rfl ?_
            refine z_jp rfl ?_
            refine z_auto rfl ?_
            exact z_rt rfl (h1 (by unfold ztest; rw [if_neg q0, if_pos q1]; exact decide_eq_true (Classical.not_not.mp c5)))
      · have q0 : t % 300 / 100 = 0 := (nI_eq (a := t % 300 / 100) (b := 0) (by omega) (by omega)).mp (Classical.not_not.mp c3)
        refine z_auto rfl ?_
        refine z_ald (k := (t / 300)) rfl rfl (by show t / 300 < 5; omega) ?_
        refine z_auto rfl ?_
        refine z_br rfl (fun c5 => ?_) (fun c5 => ?_)
        · refine z_auto rfl ?_
          refine z_jp rfl ?_
          refine z_auto rfl ?_
          exact z_rt rfl (h0 (by unfold ztest; rw [if_pos q0]; exact decide_eq_false (Int32.not_lt.mpr c5)))
        · refine z_auto rfl ?_
          refine z_jp rfl ?_
          refine z_auto rfl ?_
          exact z_rt rfl (h1 (by unfold ztest; rw [if_pos q0]; exact decide_eq_true (Int32.not_le.mp c5)))
    · exact absurd ((nI_ltI (a := t / 300) (b := 5) (by omega) (by omega)).mpr hl) c2
end
end
section
/-! bits (rows of kit/laws/BITS.to-paste, and more) -/
def bt (x : Int32) (i : Nat) : Bool := x.toBitVec.getLsbD i
theorem b_ext {x y : Int32} (h : ∀ i, i < 32 → bt x i = bt y i) : x = y := Int32.toBitVec_inj.mp (BitVec.eq_of_getLsbD_eq (fun i hi => h i hi))
theorem b_or (x y : Int32) (i : Nat) : bt (x ||| y) i = (bt x i || bt y i) := by unfold bt; rw [Int32.toBitVec_or, BitVec.getLsbD_or]
theorem b_and (x y : Int32) (i : Nat) : bt (x &&& y) i = (bt x i && bt y i) := by unfold bt; rw [Int32.toBitVec_and, BitVec.getLsbD_and]
theorem b_xor (x y : Int32) (i : Nat) : bt (x ^^^ y) i = (bt x i ^^ bt y i) := by unfold bt; rw [Int32.toBitVec_xor, BitVec.getLsbD_xor]
theorem b_big {x : Int32} {i : Nat} (h : 32 ≤ i) : bt x i = false := BitVec.getLsbD_of_ge _ _ h
theorem b_m1 : ∀ i, i < 32 → bt (-1) i = true := by decide +kernel
theorem b_0 (i : Nat) : bt 0 i = false := BitVec.getLsbD_zero
theorem s_l : ∀ n, n < 32 → ((nI n &&& 31).toBitVec.smod 32).toNat = n := by decide +kernel
theorem b_shl (n : Nat) (hn : n < 32) (x : Int32) {i : Nat} (hi : i < 32) : bt (x <<< (nI n &&& 31)) i = (decide (n ≤ i) && bt x (i - n)) := by
  unfold bt
  rw [Int32.toBitVec_shiftLeft]
  show (x.toBitVec <<< ((nI n &&& 31).toBitVec.smod 32).toNat).getLsbD i = _
  rw [s_l n hn, BitVec.getLsbD_shiftLeft]
  rcases Nat.lt_or_ge i n with h | h
  · simp [h, Nat.not_le.mpr h]
  · simp [hi, h, Nat.not_lt.mpr h]
theorem b_sshr (n : Nat) (hn : n < 32) (x : Int32) {i : Nat} (hi : i < 32) : bt (x >>> (nI n &&& 31)) i = if n + i < 32 then bt x (n + i) else bt x 31 := by
  unfold bt
  rw [Int32.toBitVec_shiftRight]
  show (x.toBitVec.sshiftRight ((nI n &&& 31).toBitVec.smod 32).toNat).getLsbD i = _
  rw [s_l n hn, BitVec.getLsbD_sshiftRight, BitVec.msb_eq_getLsbD_last]
  simp [hi]
theorem b_one : ∀ i, i < 32 → bt 1 i = decide (i = 0) := by decide +kernel
theorem b_m2 : ∀ i, i < 32 → bt (-2) i = decide (0 < i) := by decide +kernel
theorem b_a1 (x : Int32) : x &&& 1 = if bt x 0 = true then 1 else 0 := by
  apply b_ext
  intro i hi
  rw [b_and, b_one i hi]
  by_cases h0 : i = 0
  · subst h0
    cases bt x 0 <;> rfl
  · rw [decide_eq_false h0, Bool.and_false]
    cases bt x 0
    · exact (b_0 i).symm
    · show false = bt 1 i
      rw [b_one i hi, decide_eq_false h0]
theorem b_bit0 (x : Int32) {k : Nat} (hk : k < 32) : (x >>> (nI k &&& 31)) &&& 1 = 0 ↔ bt x k = false := by
  rw [b_a1, b_sshr k hk x (i := 0) (by omega), Nat.add_zero, if_pos hk]
  cases bt x k <;> decide
theorem b_bit1 (x : Int32) {k : Nat} (hk : k < 32) : (x >>> (nI k &&& 31)) &&& 1 = 1 ↔ bt x k = true := by
  rw [b_a1, b_sshr k hk x (i := 0) (by omega), Nat.add_zero, if_pos hk]
  cases bt x k <;> decide
theorem b_sh1 (k : Nat) (hk : k < 32) {i : Nat} (hi : i < 32) : bt ((1 : Int32) <<< (nI k &&& 31)) i = decide (i = k) := by
  rw [b_shl k hk 1 hi]
  rcases Nat.lt_or_ge i k with h | h
  · rw [decide_eq_false (by omega), Bool.false_and, decide_eq_false (by omega)]
  · rw [b_one _ (by omega), decide_eq_true h, Bool.true_and]
    by_cases e : i = k
    · rw [decide_eq_true (by omega), decide_eq_true e]
    · rw [decide_eq_false (by omega), decide_eq_false e]
/-- the low bits of x are the stack, its top first -/
def zrep (st : List Bool) (x : Int32) : Prop := st.length ≤ 31 ∧ ∀ i b, st[i]? = some b → bt x i = b
theorem zix {α : Type} {st : List α} {i : Nat} {b : α} (h : st[i]? = some b) : i < st.length := (List.getElem?_eq_some_iff.mp h).1
theorem zrep_push {st : List Bool} {x : Int32} (h : zrep st x) (hl : st.length < 31) (b : Bool) : zrep (b :: st) ((x <<< ((1 : Int32) &&& 31)) ||| (if b = true then 1 else 0)) := by
  refine ⟨by simp; omega, fun i c hc => ?_⟩
  have hi := zix hc
  simp only [List.length_cons] at hi
  have hs : bt (x <<< ((1 : Int32) &&& 31)) i = (decide (1 ≤ i) && bt x (i - 1)) := b_shl 1 (by omega) x (by omega)
  rw [b_or, hs]
  cases i with
  | zero =>
    cases hc
    cases b
    · simp [b_0]
    · simp [b_one 0 (by omega)]
  | succ i =>
    have h1 := h.2 i c hc
    have h2 : bt (if b = true then (1 : Int32) else 0) (i + 1) = false := by
      cases b
      · exact b_0 _
      · exact (b_one (i + 1) (by omega)).trans (decide_eq_false (by omega))
    rw [h2, Bool.or_false, decide_eq_true (by omega), Bool.true_and]
    exact h1
theorem zrep_not {b : Bool} {st : List Bool} {x : Int32} (h : zrep (b :: st) x) : zrep ((!b) :: st) (x ^^^ 1) := by
  refine ⟨h.1, fun i c hc => ?_⟩
  have hi := zix hc
  have hl := h.1
  simp only [List.length_cons] at hi hl
  rw [b_xor, b_one i (by omega)]
  cases i with
  | zero =>
    cases hc
    rw [h.2 0 b rfl]
    cases b <;> rfl
  | succ i =>
    rw [h.2 (i + 1) c hc, decide_eq_false (by omega)]
    cases c <;> rfl
theorem zrep_shr {b a : Bool} {st : List Bool} {x : Int32} (h : zrep (b :: a :: st) x) : zrep (a :: st) (x >>> ((1 : Int32) &&& 31)) := by
  have hl := h.1
  simp only [List.length_cons] at hl
  refine ⟨by simp; omega, fun i c hc => ?_⟩
  have hi := zix hc
  simp only [List.length_cons] at hi
  have hs : bt (x >>> ((1 : Int32) &&& 31)) i = if 1 + i < 32 then bt x (1 + i) else bt x 31 := b_sshr 1 (by omega) x (by omega)
  rw [hs, if_pos (by omega), Nat.add_comm]
  exact h.2 (i + 1) c hc
theorem zrep_and {b a : Bool} {st : List Bool} {x : Int32} (h : zrep (b :: a :: st) x) : zrep ((a && b) :: st) ((x >>> ((1 : Int32) &&& 31)) &&& ((x &&& 1) ||| (-2))) := by
  have h2 := zrep_shr h
  have hl := h.1
  simp only [List.length_cons] at hl
  refine ⟨by simp; omega, fun i c hc => ?_⟩
  have hi := zix hc
  simp only [List.length_cons] at hi
  rw [b_and, b_or, b_and, b_one i (by omega), b_m2 i (by omega)]
  cases i with
  | zero =>
    cases hc
    rw [h2.2 0 a rfl, h.2 0 b rfl]
    cases a <;> cases b <;> rfl
  | succ i =>
    rw [h2.2 (i + 1) c hc]
    simp
theorem zrep_or {b a : Bool} {st : List Bool} {x : Int32} (h : zrep (b :: a :: st) x) : zrep ((a || b) :: st) ((x >>> ((1 : Int32) &&& 31)) ||| (x &&& 1)) := by
  have h2 := zrep_shr h
  have hl := h.1
  simp only [List.length_cons] at hl
  refine ⟨by simp; omega, fun i c hc => ?_⟩
  have hi := zix hc
  simp only [List.length_cons] at hi
  rw [b_or, b_and, b_one i (by omega)]
  cases i with
  | zero =>
    cases hc
    rw [h2.2 0 a rfl, h.2 0 b rfl]
    cases a <;> cases b <;> rfl
  | succ i =>
    rw [h2.2 (i + 1) c hc]
    simp
theorem zok1_len {v : Nat → Int32} {st : List Bool} {t h : Nat} (hk : zok1 st.length t = some h) : (zev1 v t st).length = h ∧ (t < 1500 ∨ t = 1500 ∨ t = 1501 ∨ t = 1502) := by
  unfold zok1 at hk
  by_cases h1 : t < 1500
  · rw [if_pos h1] at hk
    by_cases h2 : st.length < 30
    · rw [if_pos h2] at hk
      cases hk
      refine ⟨?_, Or.inl h1⟩
      rcases st with _ | ⟨b, _ | ⟨a, r⟩⟩ <;> simp [zev1, h1]
    · rw [if_neg h2] at hk; cases hk
  · rw [if_neg h1] at hk
    by_cases h2 : t = 1500
    · rw [if_pos h2] at hk
      by_cases h3 : 1 ≤ st.length
      · rw [if_pos h3] at hk
        cases hk
        refine ⟨?_, Or.inr (Or.inl h2)⟩
        subst h2
        rcases st with _ | ⟨b, _ | ⟨a, r⟩⟩
        · simp at h3
        · simp [zev1]
        · simp [zev1]
      · rw [if_neg h3] at hk; cases hk
    · rw [if_neg h2] at hk
      by_cases h3 : t = 1501 ∨ t = 1502
      · rw [if_pos h3] at hk
        by_cases h4 : 2 ≤ st.length
        · rw [if_pos h4] at hk
          cases hk
          refine ⟨?_, Or.inr (Or.inr h3)⟩
          rcases st with _ | ⟨b, _ | ⟨a, r⟩⟩
          · simp at h4
          · simp at h4
          · rcases h3 with rfl | rfl <;> simp [zev1]
        · rw [if_neg h4] at hk; cases hk
      · rw [if_neg h3] at hk; cases hk
section
variable {d : Nat} {I : zMI} {rl rs : Option (Nat × Nat)} {Q : zPQ} {j : Nat}
set_option maxHeartbeats 4000000 in
set_option maxRecDepth 100000 in
theorem s_holds {p : List Nat} {o0 e : Nat} (hp : ∀ k t, p[k]? = some t → I 33 j (o0 + k) = zcs t) (he : o0 + p.length = e) (he2 : e ≤ 100) (hk : zok 0 p = some 1) (h1 : zcB (I 34 j) p = true → Q (some (zi 1)) I (zRR rl rs)) (h0 : zcB (I 34 j) p = false → Q (some (zi 0)) I (zRR rl rs)) : zWm (d + 1) 56 [zr 6 j, zi (nI o0), zi (nI e)] I (zRR rl rs) Q := by
  have loop : ∀ (q : List Nat) (o : Nat) (st : List Bool) (x : Int32) (u5 u6 : Option zAV), zrep st x → zok st.length q = some 1 → (∀ k t, q[k]? = some t → I 33 j (o + k) = zcs t) → o + q.length = e → zev (I 34 j) q st = zev (I 34 j) p [] → zW (d + 1) kX6_holds (zblk kX6_holds 1) [some (zr 6 j), some (zi (nI o0)), some (zi (nI e)), some (zi x), some (zi (nI o)), u5, u6] [] I (zRR rl rs) Q := by
    intro q
    induction q with
    | nil =>
      intro o st x u5 u6 hr hz hq ho hv
      have hoe : o = e := by simpa using ho
      subst hoe
      have hz : st.length = 1 := Option.some.inj hz
      obtain ⟨b, rfl⟩ : ∃ b, st = [b] := by
        rcases st with _ | ⟨b, _ | ⟨a, r⟩⟩
        · cases hz
        · exact ⟨b, rfl⟩
        · simp at hz
      have hb : zcB (I 34 j) p = b := by
        unfold zcB
        rw [← hv]
        rfl
      have hx := hr.2 0 b rfl
      refine z_auto rfl ?_
      refine z_br rfl (fun c => ?_) (fun c => ?_)
      · exact absurd c (nI_pos (by omega))
      · refine z_auto rfl ?_
        refine z_br rfl (fun c2 => ?_) (fun c2 => ?_)
        · refine z_auto rfl ?_
          refine z_br rfl (fun c3 => ?_) (fun c3 => ?_)
          · rw [b_a1, hx] at c3
            refine z_auto rfl ?_
            refine z_jp rfl ?_
            refine z_auto rfl ?_
            exact z_rt rfl (h0 (by
              rw [hb]
              cases b
              · rfl
              · exact absurd rfl c3))
          · rw [b_a1, hx] at c3
            refine z_auto rfl ?_
            refine z_jp rfl ?_
            refine z_auto rfl ?_
            exact z_rt rfl (h1 (by
              rw [hb]
              cases b
              · exact absurd (by decide) c3
              · rfl))
        · exact absurd (nI_le (Nat.le_refl _) (by omega)) c2
    | cons t q ih =>
      intro o st x u5 u6 hr hz hq ho hv
      have ho2 : o + 1 + q.length = e := by simp only [List.length_cons] at ho; omega
      have ht := hq 0 t rfl
      rw [Nat.add_zero] at ht
      have hq2 : ∀ k u, q[k]? = some u → I 33 j (o + 1 + k) = zcs u := by
        intro k u hku
        have := hq (k + 1) u hku
        rw [show o + (k + 1) = o + 1 + k by omega] at this
        exact this
      have hv2 : zev (I 34 j) q (zev1 (I 34 j) t st) = zev (I 34 j) p [] := hv
      obtain ⟨h', hz1, hz2⟩ : ∃ h', zok1 st.length t = some h' ∧ zok h' q = some 1 := by
        rw [zok] at hz
        cases hh : zok1 st.length t with
        | none => rw [hh] at hz; cases hz
        | some h' => rw [hh] at hz; exact ⟨h', rfl, hz⟩
      obtain ⟨hl, ht4⟩ := zok1_len (v := I 34 j) hz1
      rw [← hl] at hz2
      refine z_auto rfl ?_
      refine z_br rfl (fun c => ?_) (fun c => ?_)
      · exact absurd c (nI_pos (by omega))
      · refine z_auto rfl ?_
        refine z_br rfl (fun c2 => ?_) (fun c2 => ?_)
        · exact absurd c2 (nI_ge (by omega) (by omega))
        · refine z_auto rfl ?_
          refine z_br rfl (fun c3 => ?_) (fun c3 => ?_)
          · exact absurd c3 (nI_ge (a := o) (b := 100) (by omega) (by omega))
          · refine z_auto rfl ?_
            refine z_ald (k := o) rfl rfl (by show o < 100; omega) ?_
            rw [ht]
            rcases ht4 with h4 | rfl | rfl | rfl
            · have e1 : zcs t = nI t := by unfold zcs; rw [if_pos h4]
              have hl30 : st.length < 30 := by
                unfold zok1 at hz1
                rw [if_pos h4] at hz1
                by_cases q : st.length < 30
                · exact q
                · rw [if_neg q] at hz1; cases hz1
              have e2 : zev1 (I 34 j) t st = ztest (I 34 j) t :: st := by
                rcases st with _ | ⟨b, _ | ⟨a, r⟩⟩ <;> simp [zev1, h4]
              rw [e1]
              refine z_auto rfl ?_
              refine z_br rfl (fun c4 => ?_) (fun c4 => ?_)
              · exact absurd c4 (nI_pos (by omega))
              · refine z_auto rfl ?_
                refine z_cl rfl (s_passes h4 (fun hb => ?_) (fun hb => ?_))
                · refine z_auto rfl ?_
                  refine z_st rfl ?_
                  refine z_auto rfl ?_
                  refine z_jp rfl ?_
                  refine z_auto rfl ?_
                  refine z_jp rfl ?_
                  refine z_auto rfl ?_
                  refine z_jp rfl ?_
                  have h5 := ih (o + 1) _ ((x <<< ((1 : Int32) &&& 31)) ||| 1) (some (zi (nI t))) (some (zi (x &&& 1))) (by
                    have := zrep_push hr (by omega) true
                    rw [e2, hb]
                    exact this) hz2 hq2 ho2 hv2
                  rw [nI_succ] at h5
                  exact h5
                · refine z_auto rfl ?_
                  refine z_jp rfl ?_
                  refine z_auto rfl ?_
                  refine z_jp rfl ?_
                  refine z_auto rfl ?_
                  refine z_jp rfl ?_
                  refine z_auto rfl ?_
                  refine z_jp rfl ?_
                  have h5 := ih (o + 1) _ ((x <<< ((1 : Int32) &&& 31)) ||| 0) (some (zi (nI t))) (some (zi (x &&& 1))) (by
                    have := zrep_push hr (by omega) false
                    rw [e2, hb]
                    exact this) hz2 hq2 ho2 hv2
                  rw [nI_succ] at h5
                  exact h5
            · have e1 : zcs 1500 = -1 := by decide
              rw [e1]
              obtain ⟨b, r, rfl⟩ : ∃ b r, st = b :: r := by
                rcases st with _ | ⟨b, r⟩
                · simp [zok1] at hz1
                · exact ⟨b, r, rfl⟩
              have e2 : zev1 (I 34 j) 1500 (b :: r) = (!b) :: r := by
                rcases r with _ | ⟨a, r⟩ <;> simp [zev1]
              refine z_auto rfl ?_
              refine z_jp rfl ?_
              refine z_auto rfl ?_
              refine z_st rfl ?_
              refine z_auto rfl ?_
              refine z_jp rfl ?_
              refine z_auto rfl ?_
              refine z_jp rfl ?_
              have h5 := ih (o + 1) _ (x ^^^ 1) (some (zi (-1))) (some (zi (x &&& 1))) (by rw [e2]; exact zrep_not hr) hz2 hq2 ho2 hv2
              rw [nI_succ] at h5
              exact h5
            · have e1 : zcs 1501 = -2 := by decide
              rw [e1]
              obtain ⟨b, a, r, rfl⟩ : ∃ b a r, st = b :: a :: r := by
                rcases st with _ | ⟨b, _ | ⟨a, r⟩⟩
                · simp [zok1] at hz1
                · simp [zok1] at hz1
                · exact ⟨b, a, r, rfl⟩
              have e2 : zev1 (I 34 j) 1501 (b :: a :: r) = (a && b) :: r := by simp [zev1]
              refine z_auto rfl ?_
              refine z_jp rfl ?_
              refine z_auto rfl ?_
              refine z_jp rfl ?_
              refine z_auto rfl ?_
              refine z_st rfl ?_
              refine z_auto rfl ?_
              refine z_jp rfl ?_
              refine z_auto rfl ?_
              refine z_jp rfl ?_
              have h5 := ih (o + 1) _ ((x >>> ((1 : Int32) &&& 31)) &&& ((x &&& 1) ||| (-2))) (some (zi (-2))) (some (zi (x &&& 1))) (by rw [e2]; exact zrep_and hr) hz2 hq2 ho2 hv2
              rw [nI_succ] at h5
              exact h5
            · have e1 : zcs 1502 = -3 := by decide
              rw [e1]
              obtain ⟨b, a, r, rfl⟩ : ∃ b a r, st = b :: a :: r := by
                rcases st with _ | ⟨b, _ | ⟨a, r⟩⟩
                · simp [zok1] at hz1
                · simp [zok1] at hz1
                · exact ⟨b, a, r, rfl⟩
              have e2 : zev1 (I 34 j) 1502 (b :: a :: r) = (a || b) :: r := by simp [zev1]
              refine z_auto rfl ?_
              refine z_jp rfl ?_
              refine z_auto rfl ?_
              refine z_jp rfl ?_
              refine z_auto rfl ?_
              refine z_jp rfl ?_
              refine z_auto rfl ?_
              refine z_jp rfl ?_
              refine z_auto rfl ?_
              refine z_jp rfl ?_
              have h5 := ih (o + 1) _ ((x >>> ((1 : Int32) &&& 31)) ||| (x &&& 1)) (some (zi (-3))) (some (zi (x &&& 1))) (by rw [e2]; exact zrep_or hr) hz2 hq2 ho2 hv2
              rw [nI_succ] at h5
              exact h5
  refine z_auto rfl ?_
  refine z_jp rfl ?_
  exact loop p o0 [] 0 none none ⟨by simp, fun i b h => by simp at h⟩ hk hp he rfl
theorem zend_0 (C : List zCl) : zend C 0 = 0 := by cases C <;> rfl
theorem zend_le : ∀ (C : List zCl) (i : Nat), zend C i ≤ (zflat C).length := by
  intro C
  induction C with
  | nil => intro i; cases i <;> simp [zend]
  | cons c C ih =>
    intro i
    cases i with
    | zero => simp [zend]
    | succ i => have := ih i; simp [zend, zflat] at this ⊢; omega
theorem zflat_at : ∀ (C : List zCl) (i : Nat) (c : zCl), C[i]? = some c → zend C (i + 1) = zend C i + c.2.2.length ∧ ∀ k t, c.2.2[k]? = some t → (zflat C)[zend C i + k]? = some t := by
  intro C
  induction C with
  | nil => intro i c h; simp at h
  | cons a C ih =>
    intro i c h
    cases i with
    | zero =>
      cases h
      refine ⟨by simp [zend], fun k t hk => ?_⟩
      have hlt := zix hk
      simp only [zend, zflat, List.flatMap_cons, Nat.zero_add]
      rw [List.getElem?_append_left hlt]
      exact hk
    | succ i =>
      obtain ⟨h1, h2⟩ := ih i c h
      refine ⟨by simp only [zend] at h1 ⊢; omega, fun k t hk => ?_⟩
      have := h2 k t hk
      simp only [zend, zflat, List.flatMap_cons] at this ⊢
      rw [List.getElem?_append_right (by omega), show a.2.2.length + zend C i + k - a.2.2.length = zend C i + k by omega]
      exact this
theorem zcsum_snoc (v : Nat → Int32) (C : List zCl) (c : zCl) (w : Nat) : zcsum v (C ++ [c]) w = zcsum v C w + (if c.1 = w ∧ zcB v c.2.2 = true then c.2.1 else 0) := by
  induction C with
  | nil => simp [zcsum]
  | cons a C ih => simp only [List.cons_append, zcsum, ih]; omega
set_option maxHeartbeats 4000000 in
set_option maxRecDepth 100000 in
theorem s_sum {C : List zCl} (hE : zES I j C) {w : Nat} (hw : 2 ≤ w) (hw3 : w ≤ 3) (h : Q (some (zi (nI (zcsum (I 34 j) C w)))) I (zRR rl rs)) : zWm (d + 2) 55 [zr 6 j, zi (nI w)] I (zRR rl rs) Q := by
  obtain ⟨e1, e2, e3, e4, e5, e6⟩ := hE
  have loop : ∀ k i, i + k = C.length → zW (d + 2) kX6_sum (zblk kX6_sum 1) [some (zr 6 j), some (zi (nI w)), some (zi (nI (zcsum (I 34 j) (C.take i) w))), some (zi (nI (zend C i))), some (zi (nI i))] [] I (zRR rl rs) Q := by
    intro k
    induction k with
    | zero =>
      intro i hi
      refine z_auto rfl ?_
      refine z_br rfl (fun c => ?_) (fun c => ?_)
      · have : i = C.length := by omega
        subst this
        rw [List.take_length]
        refine z_auto rfl ?_
        exact z_rt rfl h
      · exact absurd (by rw [e1]; exact nI_le (by omega) (by omega)) c
    | succ k ih =>
      intro i hi
      refine z_auto rfl ?_
      refine z_br rfl (fun c => ?_) (fun c => ?_)
      · rw [e1] at c
        exact absurd c (nI_ge (by omega) (by omega))
      · refine z_auto rfl ?_
        refine z_br rfl (fun c2 => ?_) (fun c2 => ?_)
        · exact absurd c2 (nI_ge (a := i) (b := 10) (by omega) (by omega))
        · have hlt : i < C.length := by omega
          have hg : C[i]? = some C[i] := List.getElem?_eq_getElem hlt
          obtain ⟨g1, g2, g3⟩ := e5 i _ hg
          obtain ⟨w1, w2, w3⟩ := e4 _ (List.getElem_mem hlt)
          obtain ⟨f1, f2⟩ := zflat_at C i _ hg
          have f3 := zend_le C (i + 1)
          have h2 := ih (i + 1) (by omega)
          rw [List.take_succ, hg, Option.toList_some, zcsum_snoc, nI_succ i] at h2
          refine z_auto rfl ?_
          refine z_ald (k := i) rfl rfl (by show i < 10; omega) ?_
          rw [g1]
          refine z_auto rfl ?_
          refine z_br rfl (fun c3 => ?_) (fun c3 => ?_)
          · rw [if_neg (fun q => c3 (by rw [q.1])), Nat.add_zero] at h2
            refine z_auto rfl ?_
            refine z_ald (k := i) rfl rfl (by show i < 10; omega) ?_
            rw [g3]
            refine z_auto rfl ?_
            refine z_jp rfl ?_
            exact h2
          · have hq : C[i].1 = w := (nI_eq (by omega) (by omega)).mp (Classical.not_not.mp c3)
            refine z_auto rfl ?_
            refine z_ald (k := i) rfl rfl (by show i < 10; omega) ?_
            rw [g3]
            have hz : zok 0 C[i].2.2 = some 1 := by
              rcases w3 with w3 | w3
              · omega
              · exact w3.2
            refine z_auto rfl ?_
            refine z_cl rfl (s_holds (p := C[i].2.2) (fun k t hk => e6 _ _ (f2 k t hk)) (by omega) (by omega) hz (fun hb => ?_) (fun hb => ?_))
            · rw [if_pos ⟨hq, hb⟩] at h2
              refine z_auto rfl ?_
              refine z_st rfl ?_
              refine z_auto rfl ?_
              refine z_ald (k := i) rfl rfl (by show i < 10; omega) ?_
              rw [g2]
              refine z_auto rfl ?_
              refine z_jp rfl ?_
              refine z_auto rfl ?_
              refine z_ald (k := i) rfl rfl (by show i < 10; omega) ?_
              rw [g3, nI_add]
              refine z_auto rfl ?_
              refine z_jp rfl ?_
              exact h2
            · rw [if_neg (fun q => by rw [hb] at q; exact absurd q.2 (by decide)), Nat.add_zero] at h2
              refine z_auto rfl ?_
              refine z_jp rfl ?_
              refine z_auto rfl ?_
              refine z_ald (k := i) rfl rfl (by show i < 10; omega) ?_
              rw [g3]
              refine z_auto rfl ?_
              refine z_jp rfl ?_
              exact h2
  have h5 := loop C.length 0 (by omega)
  rw [zend_0, List.take_zero] at h5
  refine z_auto rfl ?_
  refine z_jp rfl ?_
  exact h5
end
end
section
/-! A FALL: what layers take, what comes through -/
theorem zup_zup {I : zMI} {c i k : Nat} {v w : Int32} : zup (zup I c i k v) c i k w = zup I c i k w := by
  funext c' i' k'
  unfold zup
  by_cases h : c' = c ∧ i' = i ∧ k' = k
  · rw [if_pos h, if_pos h]
  · rw [if_neg h, if_neg h, if_neg h]
theorem zup_self {I : zMI} {c i k : Nat} : zup I c i k (I c i k) = I := by
  funext c' i' k'
  unfold zup
  by_cases h : c' = c ∧ i' = i ∧ k' = k
  · rw [if_pos h, h.1, h.2.1, h.2.2]
  · rw [if_neg h]
def zhu (t l : Int32) : Int32 := if 10 * t < l then t else l / 2
def zcr (t l : Int32) : Int32 := if l ≤ 20 then t else 2 * t
/-- what a layer takes: kind, v, thick, floor, what is left, its row's number -/
def ztak (kd v t fl l rw : Int32) : Int32 :=
  if kd = 1 then zcr t l else if kd = 2 then 3 * t else if kd = 3 then zhu t l else if kd = 4 then (if fl - fl / 2 * 2 = 1 then 0 else zcr t l) else if kd = 5 then (if l ≤ 10 * v then 3 * t + v else 3 * t) else if kd = 6 then zhu t l + rw else t
def zbrk (kd v l : Int32) : Prop := (kd = 2 ∨ kd = 5) ∧ ¬ l ≤ 10 * v
/-- the layers' numbers: kind, v, thick, side, row -/
def zLy (I : zMI) (tr : Nat) : Nat → Nat → Int32 := fun a k => match a with
  | 0 => I 20 0 k
  | 1 => I 21 0 k
  | 2 => I 22 0 k
  | 3 => I 24 0 k
  | _ => I 25 0 (k * 3 + tr % 3)
noncomputable def gFs (A : Nat → Nat → Int32) (fl sd out : Int32) (k : Nat) (s : Int32 × Int32) : Int32 × Int32 :=
  if ((s.2 ||| out) >>> (nI k &&& 31)) &&& 1 = 0 ∧ A 3 k = sd then
    (if 0 < s.1 - ztak (A 0 k) (A 1 k) (A 2 k) fl s.1 (A 4 k) then s.1 - ztak (A 0 k) (A 1 k) (A 2 k) fl s.1 (A 4 k) else 0, @ite _ (zbrk (A 0 k) (A 1 k) s.1) (Classical.propDecidable _) (s.2 ||| (1 <<< (nI k &&& 31))) s.2)
  else s
noncomputable def gFt (A : Nat → Nat → Int32) (fl sd out : Int32) : Nat → Int32 × Int32 → Int32 × Int32
  | 0, s => s
  | k + 1, s => gFs A fl sd out k (gFt A fl sd out k s)
section
variable {d : Nat} {I : zMI} {rs : Option (Nat × Nat)} {Q : zPQ} {G : zMR}
set_option maxHeartbeats 4000000 in
set_option maxRecDepth 100000 in
theorem s_crumpled {t l : Int32} (h : Q (some (zi (zcr t l))) I G) : zWm d 23 [zi t, zi l] I G Q := by
  refine z_auto rfl ?_
  refine z_br rfl (fun c => ?_) (fun c => ?_)
  · rw [zcr, if_pos c] at h
    refine z_auto rfl ?_
    refine z_jp rfl ?_
    refine z_auto rfl ?_
    exact z_rt rfl h
  · rw [zcr, if_neg c] at h
    refine z_auto rfl ?_
    refine z_jp rfl ?_
    refine z_auto rfl ?_
    exact z_rt rfl h
set_option maxHeartbeats 4000000 in
set_option maxRecDepth 100000 in
theorem s_hung {t l : Int32} (h : Q (some (zi (zhu t l))) I G) : zWm d 24 [zi t, zi l] I G Q := by
  refine z_auto rfl ?_
  refine z_br rfl (fun c => ?_) (fun c => ?_)
  · rw [zhu, if_pos c] at h
    refine z_auto rfl ?_
    refine z_jp rfl ?_
    refine z_auto rfl ?_
    exact z_rt rfl h
  · rw [zhu, if_neg c] at h
    refine z_auto rfl ?_
    first | refine z_st rfl ?_ | refine z_ck rfl (by decide) ?_
    refine z_auto rfl ?_
    refine z_jp rfl ?_
    refine z_auto rfl ?_
    exact z_rt rfl h
set_option maxHeartbeats 4000000 in
set_option maxRecDepth 100000 in
theorem s_standing {k : Nat} (hk : k < 8) {l m : Int32} (h1 : ¬ l ≤ 10 * I 21 0 k → Q (some (zi (3 * I 22 0 k))) (zup I 3 0 2 (I 3 0 2 ||| (1 <<< (nI k &&& 31)))) (zRR (some (4, 0)) rs)) (h0 : l ≤ 10 * I 21 0 k → Q (some (zi (3 * I 22 0 k + m))) I (zRR (some (4, 0)) rs)) : zWm d 25 [zr 3 0, zi (nI k), zi l, zi m] I (zRR (some (4, 0)) rs) Q := by
  refine z_auto rfl ?_
  refine z_ald (k := k) rfl rfl (by show k < 8; omega) ?_
  refine z_auto rfl ?_
  refine z_ald (k := k) rfl rfl (by show k < 8; omega) ?_
  refine z_auto rfl ?_
  refine z_br rfl (fun c => ?_) (fun c => ?_)
  · refine z_auto rfl ?_
    exact z_rt rfl (h0 c)
  · refine z_auto rfl ?_
    exact z_rt rfl (h1 c)
set_option maxHeartbeats 4000000 in
set_option maxRecDepth 100000 in
theorem s_takenBy {k t : Nat} (hk : k < 8) (ht : t < 100000) (hty : I 3 0 4 = nI t) {l : Int32} (h1 : zbrk (I 20 0 k) (I 21 0 k) l → Q (some (zi (ztak (I 20 0 k) (I 21 0 k) (I 22 0 k) (I 3 0 5) l (I 25 0 (k * 3 + t % 3))))) (zup I 3 0 2 (I 3 0 2 ||| (1 <<< (nI k &&& 31)))) (zRR (some (4, 0)) rs)) (h0 : ¬ zbrk (I 20 0 k) (I 21 0 k) l → Q (some (zi (ztak (I 20 0 k) (I 21 0 k) (I 22 0 k) (I 3 0 5) l (I 25 0 (k * 3 + t % 3))))) I (zRR (some (4, 0)) rs)) : zWm (d + 1) 22 [zr 3 0, zi (nI k), zi l] I (zRR (some (4, 0)) rs) Q := by
  have hr : nI k * 3 + (I 3 0 4 - I 3 0 4 / 3 * 3) = nI (k * 3 + t % 3) := by
    rw [hty, show nI t - nI t / 3 * 3 = nI (t % 3) from pk_rem (a := t) (d := 3) (by omega) (by omega) (by omega), show nI k * 3 = nI (k * 3) from pk_mul k 3]
    exact nI_add _ _
  refine z_auto rfl ?_
  refine z_ald (k := k) rfl rfl (by show k < 8; omega) ?_
  refine z_auto rfl ?_
  refine z_ald (k := k) rfl rfl (by show k < 8; omega) ?_
  refine z_auto rfl ?_
  refine z_sw rfl (fun q hq hx => ?_) (fun hn => ?_)
  · rcases List.mem_cons.mp hq with rfl | hq
    · have hx : I 20 0 k = 1 := hx
      refine z_auto rfl ?_
      refine z_cl rfl (s_crumpled ?_)
      have h := h0 (fun q => by rcases q.1 with q | q <;> (rw [hx] at q; revert q; decide))
      rw [hx, ztak, if_pos rfl] at h
      refine z_auto rfl ?_
      exact z_rt rfl h
    rcases List.mem_cons.mp hq with rfl | hq
    · have hx : I 20 0 k = 2 := hx
      refine z_auto rfl ?_
      refine z_cl rfl (s_standing hk (fun hc => ?_) (fun hc => ?_))
      · have h := h1 ⟨Or.inl hx, hc⟩
        rw [hx, ztak, if_neg (by decide), if_pos rfl] at h
        refine z_auto rfl ?_
        exact z_rt rfl h
      · have h := h0 (fun q => q.2 hc)
        rw [hx, ztak, if_neg (by decide), if_pos rfl] at h
        rw [Int32.add_zero]
        refine z_auto rfl ?_
        exact z_rt rfl h
    rcases List.mem_cons.mp hq with rfl | hq
    · have hx : I 20 0 k = 3 := hx
      refine z_auto rfl ?_
      refine z_cl rfl (s_hung ?_)
      have h := h0 (fun q => by rcases q.1 with q | q <;> (rw [hx] at q; revert q; decide))
      rw [hx, ztak, if_neg (by decide), if_neg (by decide), if_pos rfl] at h
      refine z_auto rfl ?_
      exact z_rt rfl h
    rcases List.mem_cons.mp hq with rfl | hq
    · have hx : I 20 0 k = 4 := hx
      have h := h0 (fun q => by rcases q.1 with q | q <;> (rw [hx] at q; revert q; decide))
      rw [hx, ztak, if_neg (by decide), if_neg (by decide), if_neg (by decide), if_pos rfl] at h
      refine z_auto rfl ?_
      first | refine z_st rfl ?_ | refine z_ck rfl (by decide) ?_
      refine z_auto rfl ?_
      refine z_br rfl (fun c => ?_) (fun c => ?_)
      · rw [if_neg c] at h
        refine z_auto rfl ?_
        refine z_cl rfl (s_crumpled ?_)
        refine z_auto rfl ?_
        refine z_jp rfl ?_
        refine z_auto rfl ?_
        exact z_rt rfl h
      · rw [if_pos (Classical.not_not.mp c)] at h
        refine z_auto rfl ?_
        refine z_jp rfl ?_
        refine z_auto rfl ?_
        exact z_rt rfl h
    rcases List.mem_cons.mp hq with rfl | hq
    · have hx : I 20 0 k = 5 := hx
      refine z_auto rfl ?_
      refine z_ald (k := k) rfl rfl (by show k < 8; omega) ?_
      refine z_auto rfl ?_
      refine z_cl rfl (s_standing hk (fun hc => ?_) (fun hc => ?_))
      · have h := h1 ⟨Or.inr hx, hc⟩
        rw [hx, ztak, if_neg (by decide), if_neg (by decide), if_neg (by decide), if_neg (by decide), if_pos rfl, if_neg hc] at h
        refine z_auto rfl ?_
        exact z_rt rfl h
      · have h := h0 (fun q => q.2 hc)
        rw [hx, ztak, if_neg (by decide), if_neg (by decide), if_neg (by decide), if_neg (by decide), if_pos rfl, if_pos hc] at h
        refine z_auto rfl ?_
        exact z_rt rfl h
    rcases List.mem_cons.mp hq with rfl | hq
    · have hx : I 20 0 k = 6 := hx
      have h := h0 (fun q => by rcases q.1 with q | q <;> (rw [hx] at q; revert q; decide))
      rw [hx, ztak, if_neg (by decide), if_neg (by decide), if_neg (by decide), if_neg (by decide), if_neg (by decide), if_pos rfl] at h
      refine z_auto rfl ?_
      refine z_cl rfl (s_hung ?_)
      refine z_auto rfl ?_
      first | refine z_st rfl ?_ | refine z_ck rfl (by decide) ?_
      refine z_auto rfl ?_
      refine z_ald (k := (k * 3 + t % 3)) rfl hr (by show k * 3 + t % 3 < 24; omega) ?_
      refine z_auto rfl ?_
      exact z_rt rfl h
    · exact absurd hq List.not_mem_nil
  · have e1 : ¬ I 20 0 k = 1 := hn (1, 1) (by decide)
    have e2 : ¬ I 20 0 k = 2 := hn (2, 2) (by decide)
    have e3 : ¬ I 20 0 k = 3 := hn (3, 3) (by decide)
    have e4 : ¬ I 20 0 k = 4 := hn (4, 4) (by decide)
    have e5 : ¬ I 20 0 k = 5 := hn (5, 7) (by decide)
    have e6 : ¬ I 20 0 k = 6 := hn (6, 8) (by decide)
    have h := h0 (fun q => q.1.elim e2 e5)
    rw [ztak, if_neg e1, if_neg e2, if_neg e3, if_neg e4, if_neg e5, if_neg e6] at h
    refine z_auto rfl ?_
    exact z_rt rfl h
set_option maxHeartbeats 4000000 in
set_option maxRecDepth 100000 in
theorem s_goThrough {n t : Nat} (hn : I 4 0 7 = nI n) (h8 : n ≤ 8) (ht : t < 100000) (hty : I 3 0 4 = nI t) {sd bl : Int32} (h : Q (some (zi (gFt (zLy I t) (I 3 0 5) sd (I 3 0 6) n (bl, I 3 0 2)).1)) (zup I 3 0 2 (gFt (zLy I t) (I 3 0 5) sd (I 3 0 6) n (bl, I 3 0 2)).2) (zRR (some (4, 0)) rs)) : zWm (d + 2) 21 [zr 3 0, zi sd, zi bl] I (zRR (some (4, 0)) rs) Q := by
  have loop : ∀ k i, i + k = n → ∀ (l b : Int32) (u : Option zAV), (l, b) = gFt (zLy I t) (I 3 0 5) sd (I 3 0 6) i (bl, I 3 0 2) → zW (d + 2) kX3_goThrough (zblk kX3_goThrough 1) [some (zr 3 0), some (zi sd), some (zi bl), some (zi l), some (zi (nI i)), u] [] (zup I 3 0 2 b) (zRR (some (4, 0)) rs) Q := by
    intro k
    induction k with
    | zero =>
      intro i hi l b u hs
      have : i = n := by omega
      subst this
      rw [← hs] at h
      refine z_auto rfl ?_
      refine z_br rfl (fun c => ?_) (fun c => ?_)
      · refine z_auto rfl ?_
        exact z_rt rfl h
      · rw [zup_c (by decide), hn] at c
        exact absurd (nI_le (Nat.le_refl _) (by omega)) c
    | succ k ih =>
      intro i hi l b u hs
      have hi8 : i < 8 := by omega
      have r1 : zup I 3 0 2 b 3 0 5 = I 3 0 5 := zup_k (by decide)
      have g0 : ∀ c i k, c ≠ 3 → zup I 3 0 2 b c i k = I c i k := fun c i k hc => zup_c hc
      refine z_auto rfl ?_
      refine z_br rfl (fun c => ?_) (fun c => ?_)
      · rw [zup_c (by decide), hn] at c
        exact absurd c (nI_ge (by omega) (by omega))
      · refine z_auto rfl ?_
        refine z_br rfl (fun c2 => ?_) (fun c2 => ?_)
        · exact absurd c2 (nI_ge (a := i) (b := 8) (by omega) (by omega))
        · have step : gFt (zLy I t) (I 3 0 5) sd (I 3 0 6) (i + 1) (bl, I 3 0 2) = gFs (zLy I t) (I 3 0 5) sd (I 3 0 6) i (l, b) := by rw [gFt, hs]
          refine z_auto rfl ?_
          rw [zup_eq, zup_k (by decide)]
          refine z_auto rfl ?_
          refine z_br rfl (fun c3 => ?_) (fun c3 => ?_)
          · refine z_auto rfl ?_
            refine z_jp rfl ?_
            have h2 := ih (i + 1) (by omega) l b (some (zi 0)) (by rw [step, gFs, if_neg (fun q => c3 q.1)])
            rw [nI_succ] at h2
            refine z_auto rfl ?_
            refine z_jp rfl ?_
            refine z_auto rfl ?_
            refine z_jp rfl ?_
            exact h2
          · have c3 := Classical.not_not.mp c3
            refine z_auto rfl ?_
            refine z_jp rfl ?_
            refine z_auto rfl ?_
            refine z_st rfl ?_
            refine z_auto rfl ?_
            refine z_ald (k := i) rfl rfl (by show i < 8; omega) ?_
            rw [zup_c (by decide)]
            refine z_auto rfl ?_
            refine z_br rfl (fun c4 => ?_) (fun c4 => ?_)
            · have h2 := ih (i + 1) (by omega) l b (some (zi 1)) (by rw [step, gFs, if_neg (fun q => c4 q.2)])
              rw [nI_succ] at h2
              refine z_auto rfl ?_
              refine z_jp rfl ?_
              exact h2
            · have c4 := Classical.not_not.mp c4
              have e : gFs (zLy I t) (I 3 0 5) sd (I 3 0 6) i (l, b) = (if 0 < l - ztak (I 20 0 i) (I 21 0 i) (I 22 0 i) (I 3 0 5) l (I 25 0 (i * 3 + t % 3)) then l - ztak (I 20 0 i) (I 21 0 i) (I 22 0 i) (I 3 0 5) l (I 25 0 (i * 3 + t % 3)) else 0, @ite _ (zbrk (I 20 0 i) (I 21 0 i) l) (Classical.propDecidable _) (b ||| (1 <<< (nI i &&& 31))) b) := by
                rw [gFs, if_pos ⟨c3, c4⟩]
                rfl
              refine z_auto rfl ?_
              refine z_cl rfl (s_takenBy (t := t) hi8 ht (by rw [zup_k (by decide)]; exact hty) (fun hb => ?_) (fun hb => ?_))
              · rw [g0 _ _ _ (by decide), g0 _ _ _ (by decide)] at hb
                rw [if_pos hb] at e
                rw [g0 20 0 i (by decide), g0 21 0 i (by decide), g0 22 0 i (by decide), g0 25 0 (i * 3 + t % 3) (by decide), r1, zup_eq, zup_zup]
                refine z_auto rfl ?_
                refine z_jp rfl ?_
                have h2 := ih (i + 1) (by omega) _ _ (some (zi 1)) (step.trans e).symm
                rw [nI_succ] at h2
                refine z_auto rfl ?_
                refine z_jp rfl ?_
                exact h2
              · rw [g0 _ _ _ (by decide), g0 _ _ _ (by decide)] at hb
                rw [if_neg hb] at e
                rw [g0 20 0 i (by decide), g0 21 0 i (by decide), g0 22 0 i (by decide), g0 25 0 (i * 3 + t % 3) (by decide), r1]
                refine z_auto rfl ?_
                refine z_jp rfl ?_
                have h2 := ih (i + 1) (by omega) _ _ (some (zi 1)) (step.trans e).symm
                rw [nI_succ] at h2
                refine z_auto rfl ?_
                refine z_jp rfl ?_
                exact h2
  have h5 := loop n 0 (by omega) bl (I 3 0 2) none rfl
  rw [zup_self] at h5
  refine z_auto rfl ?_
  refine z_jp rfl ?_
  exact h5
end
end
section
/-! a whole fall: what it leaves in the latest -/
/-- only the latest fall, its egg and the schools' test numbers changed -/
def zFr (I I' : zMI) : Prop := ∀ c i k, c ≠ 3 → c ≠ 34 → (c ≠ 2 ∨ i ≠ 2) → I' c i k = I c i k
theorem zup_cf {I : zMI} {c i k c' : Nat} {v : Int32} (h : c' ≠ c) : zup I c i k v c' = I c' := by
  funext i' k'
  exact zup_c h
theorem zLy_3 {I : zMI} {i k t : Nat} {v : Int32} : zLy (zup I 3 i k v) t = zLy I t := by
  funext x k
  unfold zLy
  split <;> exact zup_c (by decide)
theorem zLy_34 {I : zMI} {i k t : Nat} {v : Int32} : zLy (zup I 34 i k v) t = zLy I t := by
  funext x k
  unfold zLy
  split <;> exact zup_c (by decide)
theorem zeg2 {I : zMI} {c i : Nat} {a b x y : Int32} : zup (zup (zup (zup I c i 0 a) c i 1 b) c i 0 x) c i 1 y = zup (zup I c i 0 x) c i 1 y := by
  funext c' i' k'
  unfold zup
  by_cases q1 : c' = c ∧ i' = i ∧ k' = 1
  · simp [q1]
  · by_cases q0 : c' = c ∧ i' = i ∧ k' = 0
    · simp [q0]
    · simp only [if_neg q1, if_neg q0]
theorem zFr.rf {I : zMI} : zFr I I := fun _ _ _ _ _ _ => rfl
theorem zFr.tr {I J K : zMI} (h1 : zFr I J) (h2 : zFr J K) : zFr I K := fun c i k a b e => (h2 c i k a b e).trans (h1 c i k a b e)
theorem zES_fr {I J : zMI} {j : Nat} {C : List zCl} (h : ∀ c k, (c = 6 ∨ c = 30 ∨ c = 31 ∨ c = 32 ∨ c = 33) → J c j k = I c j k) (hE : zES I j C) : zES J j C := by
  obtain ⟨e1, e2, e3, e4, e5, e6⟩ := hE
  refine ⟨by rw [h 6 5 (by omega)]; exact e1, e2, e3, e4, fun i c hc => ?_, fun k t hk => by rw [h 33 k (by omega)]; exact e6 k t hk⟩
  rw [h 30 i (by omega), h 31 i (by omega), h 32 i (by omega)]
  exact e5 i c hc
theorem zev_congr {v w : Nat → Int32} (h : ∀ k, k < 5 → v k = w k) : ∀ (p : List Nat) (st : List Bool), zev v p st = zev w p st := by
  have h1 : ∀ t st, zev1 v t st = zev1 w t st := by
    intro t st
    have ht : t < 1500 → ztest v t = ztest w t := by
      intro ht
      unfold ztest
      rw [h (t / 300) (by omega)]
    rcases st with _ | ⟨b, _ | ⟨a, r⟩⟩
    · by_cases q : t < 1500
      · simp [zev1, q, ht q]
      · simp [zev1, q]
    · by_cases q : t < 1500
      · simp [zev1, q, ht q]
      · simp [zev1, q]
    · by_cases q : t < 1500
      · simp [zev1, q, ht q]
      · simp [zev1, q]
  intro p
  induction p with
  | nil => intro st; rfl
  | cons t p ih => intro st; rw [zev, zev, h1, ih]
theorem zcsum_congr {v w : Nat → Int32} (h : ∀ k, k < 5 → v k = w k) (C : List zCl) (n : Nat) : zcsum v C n = zcsum w C n := by
  induction C with
  | nil => rfl
  | cons c C ih =>
    have e : zcB v c.2.2 = zcB w c.2.2 := by
      unfold zcB
      rw [zev_congr h]
    rw [zcsum, zcsum, ih, e]
/-- the side on which a fall lands -/
def fLd (C : List zCl) (a f : Int32) : Int32 := (a + zlast C 1 1 * f) - (a + zlast C 1 1 * f) / 4 * 4
def fVal (f ld k w t : Int32) : Nat → Int32
  | 0 => f
  | 1 => ld
  | 2 => k
  | 3 => w
  | _ => t
def fBl (C : List zCl) (f ld w t add : Int32) : Int32 := 5 * f + nI (zcsum (fVal f ld 9 w t) C 2) + w + add
/-- force first, force behind the bounce, who is broken -/
noncomputable def fFl (A : Nat → Nat → Int32) (n : Nat) (f ld out bl b0 : Int32) : Int32 × (Int32 × Int32) :=
  if bl ≤ 20 then ((gFt A f ld out n (bl, b0)).1, (0, (gFt A f ld out n (bl, b0)).2))
  else ((gFt A f ld out n (bl, b0)).1, gFt A f (ld + 1 - (ld + 1) / 4 * 4) out n (bl / 2, (gFt A f ld out n (bl, b0)).2))
/-- all numbers of a fall: lands, first, second, broken, whether it bounces -/
noncomputable def fAll (I : zMI) (C : List zCl) (n t : Nat) (f a add out : Int32) : Int32 × ((Int32 × (Int32 × Int32)) × Int32) :=
  (fLd C a f, (fFl (zLy I t) n f (fLd C a f) out (fBl C f (fLd C a f) (zww (I 23 0) out n / 10) (I 1 0 6 - I 1 0 6 / 10 * 10) add) (I 4 0 6), if fBl C f (fLd C a f) (zww (I 23 0) out n / 10) (I 1 0 6 - I 1 0 6 / 10 * 10) add ≤ 20 then 0 else 1))
section
variable {d : Nat} {I : zMI} {rl rs : Option (Nat × Nat)} {Q : zPQ} {j : Nat} {C : List zCl}
set_option maxHeartbeats 4000000 in
set_option maxRecDepth 100000 in
theorem s_happen (hE : zES I j C) {n t : Nat} (hn : I 4 0 7 = nI n) (h8 : n ≤ 8) (ht : t < 100000) (hty : I 1 0 6 = nI t) {f a add out : Int32}
    (h : ∀ I' : zMI, zFr I I' → (∀ k, I' 2 2 k = I 2 2 k) → I' 3 0 1 = (fAll I C n t f a add out).1 → I' 3 0 7 = (fAll I C n t f a add out).2.1.1 → I' 3 0 8 = (fAll I C n t f a add out).2.1.2.1 → I' 3 0 2 = (fAll I C n t f a add out).2.1.2.2 → I' 3 0 9 = (fAll I C n t f a add out).2.2 → Q none I' (zRR (some (4, 0)) rs)) :
    zWm (d + 3) 16 [zr 3 0, zr 1 0, zr 6 j, zi f, zi a, zi add, zi out] I (zRR rl rs) Q := by
  refine z_auto rfl ?_
  rw [zur_l]
  try simp (decide := true) only [zup_eq, zup_cf, zup_i, zup_k, zLy_3, zLy_34, ne_eq, not_false_eq_true]
  refine z_auto rfl ?_
  refine z_cl rfl (s_last (C := C) (w := 1) (zES_fr (fun c k hc => by rcases hc with rfl | rfl | rfl | rfl | rfl <;> simp [zup]) hE) (by omega) ?_)
  refine z_auto rfl ?_
  try simp (decide := true) only [zup_eq, zup_cf, zup_i, zup_k, zLy_3, zLy_34, ne_eq, not_false_eq_true]
  refine z_auto rfl ?_
  first | refine z_st rfl ?_ | refine z_ck rfl (by decide) ?_
  refine z_auto rfl ?_
  try simp (decide := true) only [zup_eq, zup_cf, zup_i, zup_k, zLy_3, zLy_34, ne_eq, not_false_eq_true]
  refine z_auto rfl ?_
  refine z_cl rfl (s_weight (n := n) (by simp [zup]; exact hn) h8 ?_)
  refine z_auto rfl ?_
  try simp (decide := true) only [zup_eq, zup_cf, zup_i, zup_k, zLy_3, zLy_34, ne_eq, not_false_eq_true]
  refine z_auto rfl ?_
  first | refine z_st rfl ?_ | refine z_ck rfl (by decide) ?_
  refine z_auto rfl ?_
  try simp (decide := true) only [zup_eq, zup_cf, zup_i, zup_k, zLy_3, zLy_34, ne_eq, not_false_eq_true]
  refine z_auto rfl ?_
  first | refine z_st rfl ?_ | refine z_ck rfl (by decide) ?_
  refine z_auto rfl ?_
  refine z_cl rfl (s_setTest ?_)
  refine z_auto rfl ?_
  try simp (decide := true) only [zup_eq, zup_cf, zup_i, zup_k, zLy_3, zLy_34, ne_eq, not_false_eq_true]
  have hz : ∀ ld w : Int32, ∀ J : zMI, zcsum ((zup (zup (zup (zup (zup J 34 j 0 f) 34 j 1 ld) 34 j 2 9) 34 j 3 w) 34 j 4 (I 1 0 6 - I 1 0 6 / 10 * 10)) 34 j) C 2 = zcsum (fVal f ld 9 w (I 1 0 6 - I 1 0 6 / 10 * 10)) C 2 := by
    intro ld w J
    refine zcsum_congr (fun k hk => ?_) C 2
    match k, hk with
    | 0, _ => simp [zup, fVal]
    | 1, _ => simp [zup, fVal]
    | 2, _ => simp [zup, fVal]
    | 3, _ => simp [zup, fVal]
    | 4, _ => simp [zup, fVal]
    | k + 5, h => exact absurd h (by omega)
  refine z_auto rfl ?_
  refine z_cl rfl (s_sum (C := C) (w := 2) (zES_fr (fun c k hc => by rcases hc with rfl | rfl | rfl | rfl | rfl <;> simp [zup]) hE) (by omega) (by omega) ?_)
  rw [hz]
  refine z_auto rfl ?_
  try simp (decide := true) only [zup_eq, zup_cf, zup_i, zup_k, zLy_3, zLy_34, ne_eq, not_false_eq_true]
  generalize hld : a + zlast C 1 1 * f - (a + zlast C 1 1 * f) / 4 * 4 = ld
  generalize hw : zww (I 23 0) out n / 10 = w
  generalize hb : 5 * f + nI (zcsum (fVal f ld 9 w (I 1 0 6 - I 1 0 6 / 10 * 10)) C 2) + w + add = bl
  have hfl : fLd C a f = ld := hld
  have hfb : fBl C f ld w (I 1 0 6 - I 1 0 6 / 10 * 10) add = bl := hb
  unfold fAll at h
  rw [hfl, hw, hfb] at h
  dsimp only at h
  refine z_auto rfl ?_
  refine z_cl rfl (s_goThrough (n := n) (t := t) (by simp [zup]; exact hn) h8 ht (by simp [zup]; exact hty) ?_)
  try simp (decide := true) only [zup_eq, zup_cf, zup_i, zup_k, zLy_3, zLy_34, ne_eq, not_false_eq_true]
  refine z_auto rfl ?_
  try simp (decide := true) only [zup_eq, zup_cf, zup_i, zup_k, zLy_3, zLy_34, ne_eq, not_false_eq_true]
  refine z_auto rfl ?_
  refine z_br rfl (fun c1 => ?_) (fun c1 => ?_)
  · rw [fFl, if_pos c1, if_pos c1] at h
    refine z_auto rfl ?_
    refine z_jp rfl ?_
    refine z_auto rfl ?_
    first | refine z_st rfl ?_ | refine z_ck rfl (by decide) ?_
    refine z_auto rfl ?_
    refine z_jp rfl ?_
    refine z_auto rfl ?_
    refine z_jp rfl ?_
    refine z_auto rfl ?_
    exact z_rt rfl (h _ (fun c i k a1 a2 _ => by simp [zup, a1, a2]) (fun k => by simp [zup]) (by simp [zup]) (by simp [zup]) (by simp [zup]) (by simp [zup]) (by simp [zup]))
  · rw [fFl, if_neg c1, if_neg c1] at h
    refine z_auto rfl ?_
    refine z_jp rfl ?_
    refine z_auto rfl ?_
    first | refine z_st rfl ?_ | refine z_ck rfl (by decide) ?_
    refine z_auto rfl ?_
    try simp (decide := true) only [zup_eq, zup_cf, zup_i, zup_k, zLy_3, zLy_34, ne_eq, not_false_eq_true]
    refine z_auto rfl ?_
    refine z_st rfl ?_
    refine z_auto rfl ?_
    try simp (decide := true) only [zup_eq, zup_cf, zup_i, zup_k, zLy_3, zLy_34, ne_eq, not_false_eq_true]
    refine z_auto rfl ?_
    first | refine z_st rfl ?_ | refine z_ck rfl (by decide) ?_
    refine z_auto rfl ?_
    first | refine z_st rfl ?_ | refine z_ck rfl (by decide) ?_
    refine z_auto rfl ?_
    refine z_cl rfl (s_goThrough (n := n) (t := t) (by simp [zup]; exact hn) h8 ht (by simp [zup]; exact hty) ?_)
    try simp (decide := true) only [zup_eq, zup_cf, zup_i, zup_k, zLy_3, zLy_34, ne_eq, not_false_eq_true]
    refine z_auto rfl ?_
    refine z_jp rfl ?_
    refine z_auto rfl ?_
    exact z_rt rfl (h _ (fun c i k a1 a2 _ => by simp [zup, a1, a2]) (fun k => by simp [zup]) (by simp [zup]) (by simp [zup]) (by simp [zup]) (by simp [zup]) (by simp [zup]))
/-- what an egg is behind a landing: cracks, whole -/
def zld (f b : Int32) (s : Int32 × Int32) : Int32 × Int32 := if s.2 = 0 then s else if f ≤ zbr b s.1 then (if 2 * f ≤ zbr b s.1 then s else (s.1 + 1, s.2)) else (s.1, 0)
set_option maxHeartbeats 4000000 in
set_option maxRecDepth 100000 in
theorem s_land2 {i : Nat} {f b : Int32} (h : Q none (zup (zup I 2 i 0 (zld f b (I 2 i 0, I 2 i 1)).1) 2 i 1 (zld f b (I 2 i 0, I 2 i 1)).2) (zRR rl rs)) : zWm d 13 [zr 2 i, zi f, zi b] I (zRR rl rs) Q := by
  have e0 : zup (zup I 2 i 0 (I 2 i 0)) 2 i 1 (I 2 i 1) = I := by
    rw [zup_self, zup_self]
  refine s_land (fun c => ?_) (fun c c2 => ?_) (fun c c2 c3 => ?_) (fun c c2 c3 => ?_)
  · rw [zld, if_pos c] at h
    dsimp only at h
    rw [e0] at h
    exact h
  · rw [zld, if_neg c, if_neg c2] at h
    dsimp only at h
    rw [zup_self] at h
    exact h
  · rw [zld, if_neg c, if_pos c2, if_neg c3] at h
    dsimp only at h
    have e1 : zup (zup I 2 i 0 (I 2 i 0 + 1)) 2 i 1 (I 2 i 1) = zup I 2 i 0 (I 2 i 0 + 1) := by
      have := zup_self (I := zup I 2 i 0 (I 2 i 0 + 1)) (c := 2) (i := i) (k := 1)
      rw [zup_k (by decide)] at this
      exact this
    rw [e1] at h
    exact h
  · rw [zld, if_neg c, if_pos c2, if_pos c3] at h
    dsimp only at h
    rw [e0] at h
    exact h
def zla2 (f1 f2 bo b : Int32) (s : Int32 × Int32) : Int32 × Int32 := if bo = 0 then zld f1 b s else zld f2 b (zld f1 b s)
set_option maxHeartbeats 4000000 in
set_option maxRecDepth 100000 in
theorem s_landAll {b : Int32} (h : Q none (zup (zup I 2 2 0 (zla2 (I 3 0 7) (I 3 0 8) (I 3 0 9) b (I 2 2 0, I 2 2 1)).1) 2 2 1 (zla2 (I 3 0 7) (I 3 0 8) (I 3 0 9) b (I 2 2 0, I 2 2 1)).2) (zRR rl rs)) : zWm (d + 1) 20 [zr 3 0, zi b] I (zRR rl rs) Q := by
  refine z_auto rfl ?_
  refine z_cl rfl (s_land2 ?_)
  refine z_auto rfl ?_
  try simp (decide := true) only [zup_eq, zup_cf, zup_i, zup_k, zLy_3, zLy_34, ne_eq, not_false_eq_true]
  refine z_auto rfl ?_
  refine z_br rfl (fun c => ?_) (fun c => ?_)
  · rw [zla2, if_pos c] at h
    refine z_auto rfl ?_
    exact z_rt rfl h
  · rw [zla2, if_neg c] at h
    refine z_auto rfl ?_
    refine z_cl rfl (s_land2 ?_)
    try simp (decide := true) only [zup_eq, zup_cf, zup_i, zup_k, zLy_3, zLy_34, ne_eq, not_false_eq_true]
    refine z_auto rfl ?_
    refine z_jp rfl ?_
    have e : zup (zup (zup (zup I 2 2 0 (zld (I 3 0 7) b (I 2 2 0, I 2 2 1)).1) 2 2 1 (zld (I 3 0 7) b (I 2 2 0, I 2 2 1)).2) 2 2 0 (zld (I 3 0 8) b ((zld (I 3 0 7) b (I 2 2 0, I 2 2 1)).1, (zld (I 3 0 7) b (I 2 2 0, I 2 2 1)).2)).1) 2 2 1 (zld (I 3 0 8) b ((zld (I 3 0 7) b (I 2 2 0, I 2 2 1)).1, (zld (I 3 0 7) b (I 2 2 0, I 2 2 1)).2)).2 = zup (zup I 2 2 0 (zld (I 3 0 8) b (zld (I 3 0 7) b (I 2 2 0, I 2 2 1))).1) 2 2 1 (zld (I 3 0 8) b (zld (I 3 0 7) b (I 2 2 0, I 2 2 1))).2 := by
      exact zeg2
    rw [← e] at h
    refine z_auto rfl ?_
    exact z_rt rfl h
set_option maxHeartbeats 4000000 in
set_option maxRecDepth 100000 in
theorem s_eggCopy {i i' : Nat} (hw : I 2 i' 1 = 0 ∨ I 2 i' 1 = 1) (h : Q none (zup (zup I 2 i 0 (I 2 i' 0)) 2 i 1 (zup I 2 i 0 (I 2 i' 0) 2 i' 1)) (zRR rl rs)) : zWm d 14 [zr 2 i, zr 2 i'] I (zRR rl rs) Q := by
  refine z_auto rfl ?_
  refine z_ck rfl (by rw [zup_k (by decide)]; exact hw) ?_
  refine z_auto rfl ?_
  exact z_rt rfl h
set_option maxHeartbeats 4000000 in
set_option maxRecDepth 100000 in
theorem s_meet {b : Int32} (hw : I 2 0 1 = 0 ∨ I 2 0 1 = 1) (h : Q none (zup (zup I 2 2 0 (zla2 (I 3 0 7) (I 3 0 8) (I 3 0 9) b (I 2 0 0, I 2 0 1)).1) 2 2 1 (zla2 (I 3 0 7) (I 3 0 8) (I 3 0 9) b (I 2 0 0, I 2 0 1)).2) (zRR rl rs)) : zWm (d + 2) 18 [zr 3 0, zr 2 0, zi b] I (zRR rl rs) Q := by
  refine z_auto rfl ?_
  refine z_cl rfl (s_eggCopy hw ?_)
  try simp (decide := true) only [zup_eq, zup_cf, zup_i, zup_k, zLy_3, zLy_34, ne_eq, not_false_eq_true]
  refine z_auto rfl ?_
  refine z_cl rfl (s_landAll ?_)
  try simp (decide := true) only [zup_eq, zup_cf, zup_i, zup_k, zLy_3, zLy_34, ne_eq, not_false_eq_true]
  have e : ∀ x y : Int32, zup (zup (zup (zup I 2 2 0 (I 2 0 0)) 2 2 1 (I 2 0 1)) 2 2 0 x) 2 2 1 y = zup (zup I 2 2 0 x) 2 2 1 y := by
    intro x y
    exact zeg2
  rw [← e] at h
  refine z_auto rfl ?_
  exact z_rt rfl h
set_option maxHeartbeats 4000000 in
set_option maxRecDepth 100000 in
theorem s_meetNew {b : Int32} (h : Q none (zup (zup I 2 2 0 (zla2 (I 3 0 7) (I 3 0 8) (I 3 0 9) b (0, 1)).1) 2 2 1 (zla2 (I 3 0 7) (I 3 0 8) (I 3 0 9) b (0, 1)).2) (zRR rl rs)) : zWm (d + 2) 19 [zr 3 0, zi b] I (zRR rl rs) Q := by
  refine z_auto rfl ?_
  refine z_cl rfl (s_renew ?_)
  refine z_auto rfl ?_
  refine z_cl rfl (s_landAll ?_)
  try simp (decide := true) only [zup_eq, zup_cf, zup_i, zup_k, zLy_3, zLy_34, ne_eq, not_false_eq_true]
  have e : ∀ x y : Int32, zup (zup (zup (zup I 2 2 0 0) 2 2 1 1) 2 2 0 x) 2 2 1 y = zup (zup I 2 2 0 x) 2 2 1 y := by
    intro x y
    exact zeg2
  rw [← e] at h
  refine z_auto rfl ?_
  exact z_rt rfl h
set_option maxHeartbeats 4000000 in
set_option maxRecDepth 100000 in
theorem s_force (h : Q (some (zi (if I 3 0 7 < I 3 0 8 then I 3 0 8 else I 3 0 7))) I (zRR rl rs)) : zWm d 17 [zr 3 0] I (zRR rl rs) Q := by
  refine z_auto rfl ?_
  exact z_rt rfl h
end
end
section
/-! what the class asks of itself: the school that holds, prices, falls -/
/-- the class's own state: k schools, the last with the clauses C; n layers; try t -/
def zCu (I : zMI) (k : Nat) (C : List zCl) (n t : Nat) : Prop := I 1 0 5 = nI k ∧ k ≤ 5 ∧ zES I (k + 1) C ∧ I 4 0 7 = nI n ∧ n ≤ 8 ∧ I 1 0 6 = nI t ∧ t ≤ 9999 ∧ (I 2 0 1 = 0 ∨ I 2 0 1 = 1)
theorem zCu_fr {I J : zMI} {k n t : Nat} {C : List zCl} (h : zFr I J) (hC : zCu I k C n t) : zCu J k C n t := by
  obtain ⟨e1, e2, e3, e4, e5, e6, e7, e8⟩ := hC
  refine ⟨?_, e2, zES_fr (fun c k hc => h c _ k (by omega) (by omega) (Or.inl (by omega))) e3, ?_, e5, ?_, e7, ?_⟩
  · rw [h 1 0 5 (by omega) (by omega) (Or.inl (by omega))]; exact e1
  · rw [h 4 0 7 (by omega) (by omega) (Or.inl (by omega))]; exact e4
  · rw [h 1 0 6 (by omega) (by omega) (Or.inl (by omega))]; exact e6
  · rw [h 2 0 1 (by omega) (by omega) (Or.inr (by omega))]; exact e8
theorem zLy_fr {I J : zMI} (h : zFr I J) (t : Nat) : zLy J t = zLy I t := by
  funext x k
  unfold zLy
  split <;> exact h _ _ _ (by omega) (by omega) (Or.inl (by omega))
theorem zFr_f {I J : zMI} (h : zFr I J) {c i : Nat} (h1 : c ≠ 3) (h2 : c ≠ 34) (h3 : c ≠ 2) : J c i = I c i := by
  funext k
  exact h c i k h1 h2 (Or.inl h3)
theorem fAll_fr {I J : zMI} (h : zFr I J) (C : List zCl) (n t : Nat) (f a add out : Int32) : fAll J C n t f a add out = fAll I C n t f a add out := by
  unfold fAll
  rw [zLy_fr h, zFr_f h (c := 23) (by omega) (by omega) (by omega), h 1 0 6 (by omega) (by omega) (Or.inl (by omega)), h 4 0 6 (by omega) (by omega) (Or.inl (by omega))]
/-- the force of a fall -/
noncomputable def fFo (I : zMI) (C : List zCl) (n t : Nat) (f a add out : Int32) : Int32 := if (fAll I C n t f a add out).2.1.1 < (fAll I C n t f a add out).2.1.2.1 then (fAll I C n t f a add out).2.1.2.1 else (fAll I C n t f a add out).2.1.1
/-- the egg behind it -/
noncomputable def fEg (I : zMI) (C : List zCl) (n t : Nat) (f a add out b : Int32) (s : Int32 × Int32) : Int32 × Int32 := zla2 (fAll I C n t f a add out).2.1.1 (fAll I C n t f a add out).2.1.2.1 (fAll I C n t f a add out).2.2 b s
/-- the latest fall is this one -/
def fPo (I J : zMI) (C : List zCl) (n t : Nat) (f a add out : Int32) : Prop := zFr I J ∧ J 3 0 1 = (fAll I C n t f a add out).1 ∧ J 3 0 7 = (fAll I C n t f a add out).2.1.1 ∧ J 3 0 8 = (fAll I C n t f a add out).2.1.2.1 ∧ J 3 0 2 = (fAll I C n t f a add out).2.1.2.2 ∧ J 3 0 9 = (fAll I C n t f a add out).2.2
section
variable {d : Nat} {I : zMI} {rl rs : Option (Nat × Nat)} {Q : zPQ} {k n t : Nat} {C : List zCl} {G : zMR}
set_option maxHeartbeats 4000000 in
set_option maxRecDepth 100000 in
theorem s_isFloor {x : Int32} (h1 : ∀ f, f ≤ 20 → x = nI f → Q (some (zi 1)) I G) (h0 : (x < 0 ∨ 20 < x) → Q (some (zi 0)) I G) : zWm d 94 [zi x] I G Q := by
  refine z_auto rfl ?_
  refine z_br rfl (fun c => ?_) (fun c => ?_)
  · refine z_auto rfl ?_
    refine z_jp rfl ?_
    refine z_auto rfl ?_
    exact z_rt rfl (h0 (Or.inl c))
  · refine z_auto rfl ?_
    refine z_br rfl (fun c2 => ?_) (fun c2 => ?_)
    · refine z_auto rfl ?_
      refine z_jp rfl ?_
      refine z_auto rfl ?_
      exact z_rt rfl (h0 (Or.inr c2))
    · obtain ⟨f, hf, rfl⟩ := nI_of c
      have hle : f ≤ 20 := by
        rcases Nat.lt_or_ge 20 f with q | q
        · exact absurd (nI_lt (a := 20) (b := f) q hf) c2
        · exact q
      refine z_auto rfl ?_
      refine z_jp rfl ?_
      refine z_auto rfl ?_
      exact z_rt rfl (h1 f hle rfl)
set_option maxHeartbeats 4000000 in
set_option maxRecDepth 100000 in
theorem s_isSide {x : Int32} (h1 : ∀ a, a < 4 → x = nI a → Q (some (zi 1)) I G) (h0 : (x < 0 ∨ 4 ≤ x) → Q (some (zi 0)) I G) : zWm d 95 [zi x] I G Q := by
  refine z_auto rfl ?_
  refine z_br rfl (fun c => ?_) (fun c => ?_)
  · refine z_auto rfl ?_
    refine z_jp rfl ?_
    refine z_auto rfl ?_
    exact z_rt rfl (h0 (Or.inl c))
  · refine z_auto rfl ?_
    refine z_br rfl (fun c2 => ?_) (fun c2 => ?_)
    · refine z_auto rfl ?_
      refine z_jp rfl ?_
      refine z_auto rfl ?_
      exact z_rt rfl (h0 (Or.inr c2))
    · obtain ⟨f, hf, rfl⟩ := nI_of c
      have hle : f < 4 := by
        rcases Nat.lt_or_ge f 4 with q | q
        · exact q
        · exact absurd (nI_le (a := 4) (b := f) q hf) c2
      refine z_auto rfl ?_
      refine z_jp rfl ?_
      refine z_auto rfl ?_
      exact z_rt rfl (h1 f hle rfl)
set_option maxHeartbeats 4000000 in
set_option maxRecDepth 100000 in
theorem s_isKind {x : Int32} (h1 : ∀ a, a < 7 → x = nI a → Q (some (zi 1)) I G) (h0 : (x < 0 ∨ 7 ≤ x) → Q (some (zi 0)) I G) : zWm d 96 [zi x] I G Q := by
  refine z_auto rfl ?_
  refine z_br rfl (fun c => ?_) (fun c => ?_)
  · refine z_auto rfl ?_
    refine z_jp rfl ?_
    refine z_auto rfl ?_
    exact z_rt rfl (h0 (Or.inl c))
  · refine z_auto rfl ?_
    refine z_br rfl (fun c2 => ?_) (fun c2 => ?_)
    · refine z_auto rfl ?_
      refine z_jp rfl ?_
      refine z_auto rfl ?_
      exact z_rt rfl (h0 (Or.inr c2))
    · obtain ⟨f, hf, rfl⟩ := nI_of c
      have hle : f < 7 := by
        rcases Nat.lt_or_ge f 7 with q | q
        · exact q
        · exact absurd (nI_le (a := 7) (b := f) q hf) c2
      refine z_auto rfl ?_
      refine z_jp rfl ?_
      refine z_auto rfl ?_
      exact z_rt rfl (h1 f hle rfl)
set_option maxHeartbeats 4000000 in
set_option maxRecDepth 100000 in
theorem s_holding (hk : I 1 0 5 = nI k) (hk5 : k ≤ 5) (h : Q (some (zr 6 (k + 1))) I (zRR rl rs)) : zWm d 97 [zr 9 0] I (zRR rl rs) Q := by
  refine z_auto rfl ?_
  refine z_br rfl (fun c => ?_) (fun c => ?_)
  · rw [hk] at c
    exact absurd c (nI_pos (by omega))
  · refine z_auto rfl ?_
    refine z_br rfl (fun c2 => ?_) (fun c2 => ?_)
    · rw [hk] at c2
      exact absurd c2 (nI_ge (a := k) (b := 6) (by omega) (by omega))
    · refine z_auto rfl ?_
      refine z_sld (k := k) rfl hk (by show k < 6; omega) ?_
      refine z_auto rfl ?_
      refine z_jp rfl ?_
      refine z_auto rfl ?_
      exact z_rt rfl h
set_option maxHeartbeats 4000000 in
set_option maxRecDepth 100000 in
theorem s_bear (hC : zCu I k C n t) (h : Q (some (zi (zlast C 0 20))) I (zRR rl rs)) : zWm (d + 1) 98 [zr 9 0] I (zRR rl rs) Q := by
  obtain ⟨e1, e2, e3, -⟩ := hC
  refine z_auto rfl ?_
  refine z_cl rfl (s_holding e1 e2 ?_)
  refine z_auto rfl ?_
  refine z_cl rfl (s_last (w := 0) e3 (by omega) ?_)
  refine z_auto rfl ?_
  exact z_rt rfl h
/-- the price of a layer -/
def fPr (I : zMI) (C : List zCl) (l : Nat) : Nat := zcsum (fVal 0 (I 24 0 l) (I 20 0 l) (I 22 0 l) (I 1 0 6 - I 1 0 6 / 10 * 10)) C 3
theorem fPr_fr {I J : zMI} (h : zFr I J) (C : List zCl) (l : Nat) : fPr J C l = fPr I C l := by
  unfold fPr
  rw [h 24 0 l (by omega) (by omega) (Or.inl (by omega)), h 20 0 l (by omega) (by omega) (Or.inl (by omega)), h 22 0 l (by omega) (by omega) (Or.inl (by omega)), h 1 0 6 (by omega) (by omega) (Or.inl (by omega))]
set_option maxHeartbeats 4000000 in
set_option maxRecDepth 100000 in
theorem s_price (hC : zCu I k C n t) {l : Nat} (hl : l < n) (h : ∀ J, zFr I J → Q (some (zi (nI (fPr I C l)))) J (zRR rl rs)) : zWm (d + 3) 99 [zr 9 0, zi (nI l)] I (zRR rl rs) Q := by
  obtain ⟨e1, e2, e3, e4, e5, e6, e7, e8⟩ := hC
  have hl8 : l < 8 := by omega
  refine z_auto rfl ?_
  refine z_cl rfl (s_holding e1 e2 ?_)
  refine z_auto rfl ?_
  refine z_ald (k := l) rfl rfl (by show l < 8; omega) ?_
  refine z_auto rfl ?_
  refine z_ald (k := l) rfl rfl (by show l < 8; omega) ?_
  refine z_auto rfl ?_
  refine z_ald (k := l) rfl rfl (by show l < 8; omega) ?_
  refine z_auto rfl ?_
  first | refine z_st rfl ?_ | refine z_ck rfl (by decide) ?_
  refine z_auto rfl ?_
  refine z_cl rfl (s_setTest ?_)
  refine z_auto rfl ?_
  refine z_cl rfl (s_sum (C := C) (w := 3) (zES_fr (fun c k hc => by rcases hc with rfl | rfl | rfl | rfl | rfl <;> simp [zup]) e3) (by omega) (by omega) ?_)
  have hz : ∀ a b c e : Int32, zcsum ((zup (zup (zup (zup (zup I 34 (k + 1) 0 0) 34 (k + 1) 1 a) 34 (k + 1) 2 b) 34 (k + 1) 3 c) 34 (k + 1) 4 e) 34 (k + 1)) C 3 = zcsum (fVal 0 a b c e) C 3 := by
    intro a b c e
    refine zcsum_congr (fun k hk => ?_) C 3
    match k, hk with
    | 0, _ => simp [zup, fVal]
    | 1, _ => simp [zup, fVal]
    | 2, _ => simp [zup, fVal]
    | 3, _ => simp [zup, fVal]
    | 4, _ => simp [zup, fVal]
    | k + 5, h => exact absurd h (by omega)
  rw [hz]
  refine z_auto rfl ?_
  exact z_rt rfl (h _ (fun c i k a1 a2 _ => by simp [zup, a2]))
/-- the prices of the first m layers -/
def fPs (I : zMI) (C : List zCl) : Nat → Nat
  | 0 => 0
  | m + 1 => fPs I C m + fPr I C m
theorem fPs_fr {I J : zMI} (h : zFr I J) (C : List zCl) : ∀ l, fPs J C l = fPs I C l := by
  intro l
  induction l with
  | zero => rfl
  | succ l ih => rw [fPs, fPs, ih, fPr_fr h]
set_option maxHeartbeats 4000000 in
set_option maxRecDepth 100000 in
theorem s_prices (hC : zCu I k C n t) (h : ∀ J, zFr I J → Q (some (zi (nI (fPs I C n)))) J (zRR rl rs)) : zWm (d + 4) 100 [zr 9 0] I (zRR rl rs) Q := by
  have hn8 := hC.2.2.2.2.1
  have loop : ∀ m i, i + m = n → ∀ J, zFr I J → zW (d + 4) kX9_prices (zblk kX9_prices 1) [some (zr 9 0), some (zi (nI (fPs I C i))), some (zi (nI i))] [] J (zRR rl rs) Q := by
    intro m
    induction m with
    | zero =>
      intro i hi J hJ
      have hn := (zCu_fr hJ hC).2.2.2.1
      have : i = n := by omega
      subst this
      refine z_auto rfl ?_
      refine z_br rfl (fun c => ?_) (fun c => ?_)
      · refine z_auto rfl ?_
        exact z_rt rfl (h J hJ)
      · rw [hn] at c
        exact absurd (nI_le (Nat.le_refl _) (by omega)) c
    | succ m ih =>
      intro i hi J hJ
      have hC2 := zCu_fr hJ hC
      have hn := hC2.2.2.2.1
      refine z_auto rfl ?_
      refine z_br rfl (fun c => ?_) (fun c => ?_)
      · rw [hn] at c
        exact absurd c (nI_ge (by omega) (by omega))
      · refine z_auto rfl ?_
        refine z_cl rfl (s_price hC2 (l := i) (by omega) (fun K hK => ?_))
        have h2 := ih (i + 1) (by omega) K (hJ.tr hK)
        rw [fPs, nI_succ] at h2
        rw [fPr_fr hJ]
        refine z_auto rfl ?_
        rw [nI_add]
        refine z_auto rfl ?_
        refine z_jp rfl ?_
        exact h2
  refine z_auto rfl ?_
  refine z_jp rfl ?_
  exact loop n 0 (by omega) I zFr.rf
set_option maxHeartbeats 4000000 in
set_option maxRecDepth 100000 in
theorem s_letFall (hC : zCu I k C n t) {f a add out : Int32} (h : ∀ J, fPo I J C n t f a add out → (J 2 2 0, J 2 2 1) = fEg I C n t f a add out (zlast C 0 20) (I 2 0 0, I 2 0 1) → Q none J (zRR (some (4, 0)) rs)) : zWm (d + 4) 101 [zr 9 0, zi f, zi a, zi add, zi out] I (zRR rl rs) Q := by
  have hC0 := hC
  obtain ⟨e1, e2, e3, e4, e5, e6, e7, e8⟩ := hC
  refine z_auto rfl ?_
  refine z_cl rfl (s_holding e1 e2 ?_)
  refine z_auto rfl ?_
  refine z_cl rfl (s_happen e3 e4 e5 (by omega) e6 (fun J hJ g0 g1 g2 g3 g4 g5 => ?_))
  have hC2 := zCu_fr hJ hC0
  refine z_auto rfl ?_
  refine z_cl rfl (s_bear hC2 ?_)
  refine z_auto rfl ?_
  refine z_cl rfl (s_meet hC2.2.2.2.2.2.2.2 ?_)
  rw [hJ 2 0 0 (by omega) (by omega) (Or.inr (by omega)), hJ 2 0 1 (by omega) (by omega) (Or.inr (by omega)), g2, g3, g5]
  refine z_auto rfl ?_
  exact z_rt rfl (h _ ⟨fun c i k a1 a2 a3 => by
    rw [← hJ c i k a1 a2 a3]
    rcases a3 with a3 | a3
    · simp [zup, a3]
    · simp [zup, a3], by rw [← g1]; simp [zup], by rw [← g2]; simp [zup], by rw [← g3]; simp [zup], by rw [← g4]; simp [zup], by rw [← g5]; simp [zup]⟩ (by simp [zup, fEg]))
set_option maxHeartbeats 4000000 in
set_option maxRecDepth 100000 in
theorem s_staysWhole (hC : zCu I k C n t) {f a add out : Int32} (h1 : ∀ J, fPo I J C n t f a add out → (fEg I C n t f a add out (zlast C 0 20) (I 2 0 0, I 2 0 1)).2 = 1 → Q (some (zi 1)) J (zRR (some (4, 0)) rs)) (h0 : ∀ J, fPo I J C n t f a add out → (fEg I C n t f a add out (zlast C 0 20) (I 2 0 0, I 2 0 1)).2 = 0 → Q (some (zi 0)) J (zRR (some (4, 0)) rs)) : zWm (d + 5) 102 [zr 9 0, zi f, zi a, zi add, zi out] I (zRR rl rs) Q := by
  have hld : ∀ x b (s : Int32 × Int32), (s.2 = 0 ∨ s.2 = 1) → ((zld x b s).2 = 0 ∨ (zld x b s).2 = 1) := by
    intro x b s hs
    unfold zld
    split
    · exact hs
    · split
      · split
        · exact hs
        · exact hs
      · exact Or.inl rfl
  have hw : (fEg I C n t f a add out (zlast C 0 20) (I 2 0 0, I 2 0 1)).2 = 0 ∨ (fEg I C n t f a add out (zlast C 0 20) (I 2 0 0, I 2 0 1)).2 = 1 := by
    unfold fEg zla2
    split
    · exact hld _ _ _ hC.2.2.2.2.2.2.2
    · exact hld _ _ _ (hld _ _ _ hC.2.2.2.2.2.2.2)
  refine z_auto rfl ?_
  refine z_cl rfl (s_letFall hC (fun J hJ he => ?_))
  have h2 : J 2 2 1 = (fEg I C n t f a add out (zlast C 0 20) (I 2 0 0, I 2 0 1)).2 := by rw [← he]
  refine z_auto rfl ?_
  rw [h2]
  rcases hw with hw | hw
  · rw [hw]
    refine z_auto rfl ?_
    exact z_rt rfl (h0 J hJ hw)
  · rw [hw]
    refine z_auto rfl ?_
    exact z_rt rfl (h1 J hJ hw)
set_option maxHeartbeats 4000000 in
set_option maxRecDepth 100000 in
theorem s_forceOf (hC : zCu I k C n t) {f a : Int32} (h : ∀ J, fPo I J C n t f a 0 0 → Q (some (zi (fFo I C n t f a 0 0))) J (zRR (some (4, 0)) rs)) : zWm (d + 4) 103 [zr 9 0, zi f, zi a] I (zRR rl rs) Q := by
  have hC0 := hC
  obtain ⟨e1, e2, e3, e4, e5, e6, e7, e8⟩ := hC
  refine z_auto rfl ?_
  refine z_cl rfl (s_holding e1 e2 ?_)
  refine z_auto rfl ?_
  refine z_cl rfl (s_happen e3 e4 e5 (by omega) e6 (fun J hJ g0 g1 g2 g3 g4 g5 => ?_))
  refine z_auto rfl ?_
  refine z_cl rfl (s_force ?_)
  rw [g2, g3]
  refine z_auto rfl ?_
  exact z_rt rfl (h _ ⟨hJ, g1, g2, g3, g4, g5⟩)
end
end
section
/-! THE MODEL: schools looked at -/
def zms (t : Nat) : Int32 := if t < 1500 then nI (t / 300 + 8 * (t % 300 / 100) + 32 * (t % 100)) else -nI (t - 1499)
def zmf : List zCl → List Int32
  | [] => []
  | c :: C => (if c.1 = 2 then c.2.2.map zms ++ [-10 - nI c.2.1] else if c.1 = 3 then c.2.2.map zms ++ [-200 - nI c.2.1] else []) ++ zmf C
/-- the model's school a holds these clauses -/
def zMS (s : Nat → Int32) (a : Nat) (C : List zCl) : Prop := s (232 + a) = nI (zmf C).length ∧ (zmf C).length ≤ 140 ∧ (∀ k x, (zmf C)[k]? = some x → s (237 + 140 * a + k) = x) ∧ s (222 + a) = zlast C 0 20 ∧ s (227 + a) = zlast C 1 1 ∧ (∀ c ∈ C, zwf c)
/-- what the model's asking changes -/
def zFm (I J : zMI) : Prop := ∀ c i k, c ≠ 42 → c ≠ 43 → (c ≠ 10 ∨ (k ≠ 11 ∧ k ≠ 12)) → J c i k = I c i k
theorem zFm.rf {I : zMI} : zFm I I := fun _ _ _ _ _ _ => rfl
theorem zFm.tr {I J K : zMI} (h1 : zFm I J) (h2 : zFm J K) : zFm I K := fun c i k a b e => (h2 c i k a b e).trans (h1 c i k a b e)
theorem zFm_f {I J : zMI} (h : zFm I J) {c i : Nat} (h1 : c ≠ 42) (h2 : c ≠ 43) (h3 : c ≠ 10) : J c i = I c i := by
  funext k
  exact h c i k h1 h2 (Or.inl h3)
/-- the model's stack: the bottom first -/
def zrp (st : List Bool) (T : Nat → Int32) : Prop := ∀ i b, st[i]? = some b → T (st.length - 1 - i) = if b = true then 1 else 0
theorem zneg1 : ∀ n, n ≤ 99 → (-10 - nI n ≤ -10) ∧ ¬ (-10 - nI n ≤ -200) ∧ ¬ (-10 - nI n = -1) ∧ (-10 - nI n < 0) ∧ -10 - (-10 - nI n) = nI n := by decide +kernel
theorem zneg2 : ∀ n, n ≤ 99 → (-200 - nI n ≤ -10) ∧ (-200 - nI n ≤ -200) ∧ ¬ (-200 - nI n = -1) ∧ (-200 - nI n < 0) ∧ -200 - (-200 - nI n) = nI n := by decide +kernel
section
variable {d : Nat} {I : zMI} {rl rs : Option (Nat × Nat)} {Q : zPQ} {C : List zCl}
set_option maxHeartbeats 4000000 in
set_option maxRecDepth 100000 in
theorem m_tellsOf0 {w x : Int32} (h5 : I 40 0 5 = -1) (h : Q (some (zi x)) I (zRR rl rs)) : zWm d 128 [zr 10 0, zi w, zi x] I (zRR rl rs) Q := by
  refine z_auto rfl ?_
  refine z_ald (k := 5) rfl rfl (by decide) ?_
  rw [h5]
  refine z_auto rfl ?_
  refine z_st rfl ?_
  refine z_auto rfl ?_
  refine z_jp rfl ?_
  refine z_auto rfl ?_
  exact z_rt rfl h
set_option maxHeartbeats 4000000 in
set_option maxRecDepth 100000 in
theorem m_tellsOf1 {w a : Nat} {x : Int32} (h5 : I 40 0 5 = nI a) (ha : a < 5) (hw : w < 900) (h : Q (some (zi (I 40 0 (w + a)))) I (zRR rl rs)) : zWm d 128 [zr 10 0, zi (nI w), zi x] I (zRR rl rs) Q := by
  refine z_auto rfl ?_
  refine z_ald (k := 5) rfl rfl (by decide) ?_
  rw [h5]
  refine z_auto rfl ?_
  refine z_br rfl (fun c => ?_) (fun c => ?_)
  · refine z_auto rfl ?_
    refine z_ald (k := 5) rfl rfl (by decide) ?_
    rw [h5]
    refine z_auto rfl ?_
    refine z_ald (k := (w + a)) rfl (nI_add w a) (by show w + a < 937; omega) ?_
    refine z_auto rfl ?_
    refine z_jp rfl ?_
    refine z_auto rfl ?_
    exact z_rt rfl h
  · exact absurd (Classical.not_not.mp c) (by
      intro q
      have : ∀ a, a < 5 → ¬ nI a = -1 := by decide +kernel
      exact this a ha q)
theorem m_dec (n : Nat) : nI (n + 1) + -1 = nI n := by
  rw [nI_succ, Int32.add_assoc, show (1 : Int32) + -1 = 0 from by decide, Int32.add_zero]
theorem zrp_push {J : zMI} {st : List Bool} (h : zrp st (J 43 0)) (b : Bool) {x : Int32} (hx : x = if b = true then 1 else 0) : zrp (b :: st) ((zup J 43 0 st.length x) 43 0) := by
  intro i c hc
  have hi := zix hc
  simp only [List.length_cons] at hi ⊢
  cases i with
  | zero =>
    cases hc
    rw [show st.length + 1 - 1 - 0 = st.length by omega, zup_eq]
    exact hx
  | succ i =>
    rw [zup_k (by omega), show st.length + 1 - 1 - (i + 1) = st.length - 1 - i by omega]
    exact h i c hc
theorem zrp_top {J : zMI} {b : Bool} {st : List Bool} (h : zrp (b :: st) (J 43 0)) : J 43 0 st.length = if b = true then 1 else 0 := by
  have := h 0 b rfl
  simpa using this
theorem zrp_nxt {J : zMI} {b : Bool} {st : List Bool} (h : zrp (b :: st) (J 43 0)) : zrp st (J 43 0) := by
  intro i c hc
  have hi := zix hc
  have := h (i + 1) c hc
  simp only [List.length_cons] at this
  rw [show st.length + 1 - 1 - (i + 1) = st.length - 1 - i by omega] at this
  exact this
/-- what stands fast while steps are gone through -/
def zLk (I : zMI) (v : Nat → Int32) (B P : Nat) (J : zMI) : Prop := zFm I J ∧ (∀ k, k < 5 → J 42 0 k = v k) ∧ J 10 0 11 = nI B ∧ J 10 0 12 = nI P
theorem zLk_up {I : zMI} {v : Nat → Int32} {B P : Nat} {J : zMI} (h : zLk I v B P J) (k : Nat) (x : Int32) : zLk I v B P (zup J 43 0 k x) := by
  obtain ⟨h1, h2, h3, h4⟩ := h
  refine ⟨fun c i k' a b e => by rw [zup_c b]; exact h1 c i k' a b e, fun k' hk => by rw [zup_c (by decide)]; exact h2 k' hk, by rw [zup_c (by decide)]; exact h3, by rw [zup_c (by decide)]; exact h4⟩
set_option maxHeartbeats 4000000 in
set_option maxRecDepth 100000 in
theorem m_steps {v : Nat → Int32} {B P M fr : Nat} (hfr : fr + M ≤ 937) {y1 y2 y3 y4 : Int32} : ∀ (q : List Nat) (pos : Nat) (st : List Bool) (J : zMI) (u9 u10 u11 u12 : Option zAV), st.length ≤ 30 → zok st.length q = some 1 → zrp st (J 43 0) → (∀ k t, q[k]? = some t → I 40 0 (fr + pos + k) = zms t) → pos + q.length < M → zLk I v B P J →
    (∀ (J' : zMI) (b : Bool) (u9 u10 u11 u12 : Option zAV), zev v q st = [b] → J' 43 0 0 = (if b = true then 1 else 0) → zLk I v B P J' → zW d kX10_looks (zblk kX10_looks 1) [some (zr 10 0), some (zi y1), some (zi y2), some (zi y3), some (zi y4), some (zi (nI M)), some (zi (nI fr)), some (zi (nI 1)), some (zi (nI (fr + pos + q.length))), u9, u10, u11, u12] [] J' (zRR rl rs) Q) →
    zW d kX10_looks (zblk kX10_looks 1) [some (zr 10 0), some (zi y1), some (zi y2), some (zi y3), some (zi y4), some (zi (nI M)), some (zi (nI fr)), some (zi (nI st.length)), some (zi (nI (fr + pos))), u9, u10, u11, u12] [] J (zRR rl rs) Q := by
  intro q
  induction q with
  | nil =>
    intro pos st J u9 u10 u11 u12 hst hz hr hq hp hL kk
    have hz : st.length = 1 := Option.some.inj hz
    obtain ⟨b, rfl⟩ : ∃ b, st = [b] := by
      rcases st with _ | ⟨b, _ | ⟨a, r⟩⟩
      · cases hz
      · exact ⟨b, rfl⟩
      · simp at hz
    exact kk J b u9 u10 u11 u12 rfl (zrp_top hr) hL
  | cons t q ih =>
    intro pos st J u9 u10 u11 u12 hst hz hr hq hp hL kk
    simp only [List.length_cons] at hp
    have ht := hq 0 t rfl
    rw [Nat.add_zero] at ht
    have hs40 : J 40 0 = I 40 0 := zFm_f hL.1 (by decide) (by decide) (by decide)
    have hq2 : ∀ k u, q[k]? = some u → I 40 0 (fr + (pos + 1) + k) = zms u := by
      intro k u hku
      have := hq (k + 1) u hku
      rw [show fr + pos + (k + 1) = fr + (pos + 1) + k by omega] at this
      exact this
    obtain ⟨h', hz1, hz2⟩ : ∃ h', zok1 st.length t = some h' ∧ zok h' q = some 1 := by
      rw [zok] at hz
      cases hh : zok1 st.length t with
      | none => rw [hh] at hz; cases hz
      | some h' => rw [hh] at hz; exact ⟨h', rfl, hz⟩
    obtain ⟨hl, ht4⟩ := zok1_len (v := v) hz1
    have kk2 : ∀ (J' : zMI) (b : Bool) (u9 u10 u11 u12 : Option zAV), zev v q (zev1 v t st) = [b] → J' 43 0 0 = (if b = true then 1 else 0) → zLk I v B P J' → zW d kX10_looks (zblk kX10_looks 1) [some (zr 10 0), some (zi y1), some (zi y2), some (zi y3), some (zi y4), some (zi (nI M)), some (zi (nI fr)), some (zi (nI 1)), some (zi (nI (fr + (pos + 1) + q.length))), u9, u10, u11, u12] [] J' (zRR rl rs) Q := by
      intro J' b v9 v10 v11 v12 g1 g2 g3
      have := kk J' b v9 v10 v11 v12 g1 g2 g3
      rw [show fr + pos + (t :: q).length = fr + (pos + 1) + q.length by simp only [List.length_cons]; omega] at this
      exact this
    rw [← hl] at hz2
    refine z_auto rfl ?_
    refine z_br rfl (fun c => ?_) (fun c => ?_)
    · rw [nI_add] at c
      exact absurd c (nI_ge (by omega) (by omega))
    · refine z_auto rfl ?_
      refine z_ald (k := (fr + pos)) rfl rfl (by show fr + pos < 937; omega) ?_
      rw [hs40, ht]
      rcases ht4 with h4 | rfl | rfl | rfl
      · have e1 : zms t = nI (t / 300 + 8 * (t % 300 / 100) + 32 * (t % 100)) := by unfold zms; rw [if_pos h4]
        have hl30 : st.length < 30 := by
          unfold zok1 at hz1
          rw [if_pos h4] at hz1
          by_cases q : st.length < 30
          · exact q
          · rw [if_neg q] at hz1; cases hz1
        obtain ⟨m, hm⟩ : ∃ m, t / 300 + 8 * (t % 300 / 100) + 32 * (t % 100) = m := ⟨_, rfl⟩
        rw [hm] at e1
        have e2 : zev1 v t st = ztest v t :: st := by
          rcases st with _ | ⟨b, _ | ⟨a, r⟩⟩ <;> simp [zev1, h4]
        have ha5 : t / 300 < 5 := by omega
        have hb3 : t % 300 / 100 < 3 := by omega
        have hc1 : t % 100 < 100 := by omega
        have d1 : nI m - nI m / 8 * 8 = nI (t / 300) := by
          rw [show nI m - nI m / 8 * 8 = nI (m % 8) from pk_rem (a := m) (d := 8) (by omega) (by omega) (by omega)]
          congr 1
          rw [← hm]
          generalize t / 300 = a at ha5 ⊢
          generalize t % 300 / 100 = b at hb3 ⊢
          generalize t % 100 = c at hc1 ⊢
          omega
        have d2 : nI m / 8 = nI (m / 8) := pk_div (a := m) (d := 8) (by omega) (by omega) (by omega)
        have d3 : nI (m / 8) - nI (m / 8) / 4 * 4 = nI (t % 300 / 100) := by
          rw [show nI (m / 8) - nI (m / 8) / 4 * 4 = nI (m / 8 % 4) from pk_rem (a := m / 8) (d := 4) (by omega) (by omega) (by omega)]
          congr 1
          rw [← hm]
          generalize t / 300 = a at ha5 ⊢
          generalize t % 300 / 100 = b at hb3 ⊢
          generalize t % 100 = c at hc1 ⊢
          omega
        have d4 : nI m / 32 = nI (t % 100) := by
          rw [show nI m / 32 = nI (m / 32) from pk_div (a := m) (d := 32) (by omega) (by omega) (by omega)]
          congr 1
          rw [← hm]
          generalize t / 300 = a at ha5 ⊢
          generalize t % 300 / 100 = b at hb3 ⊢
          generalize t % 100 = c at hc1 ⊢
          omega
        have key : ∀ (x : Int32) (b : Bool), ztest v t = b → (x = if b = true then 1 else 0) → ∀ (u9 u10 u11 u12 : Option zAV), zW d kX10_looks (zblk kX10_looks 7) [some (zr 10 0), some (zi y1), some (zi y2), some (zi y3), some (zi y4), some (zi (nI M)), some (zi (nI fr)), some (zi (nI st.length)), some (zi (nI (fr + pos))), u9, u10, u11, u12] [zi x, zi (nI st.length), zr 43 0] J (zRR rl rs) Q := by
          intro x b hb hx u9 u10 u11 u12
          refine z_auto rfl ?_
          refine z_bst (k := st.length) rfl rfl (by show st.length < 64; omega) (by rw [hx]; cases b <;> simp) ?_
          have h5 := ih (pos + 1) (zev1 v t st) (zup J 43 0 st.length x) u9 u10 u11 u12 (by rw [e2]; simp only [List.length_cons]; omega) hz2 (by rw [e2, hb]; exact zrp_push hr b hx) hq2 (by omega) (zLk_up hL _ _) kk2
          rw [show fr + (pos + 1) = fr + pos + 1 by omega, nI_succ (fr + pos), e2, List.length_cons, nI_succ st.length] at h5
          refine z_auto rfl ?_
          refine z_jp rfl ?_
          refine z_auto rfl ?_
          refine z_jp rfl ?_
          exact h5
        rw [e1]
        refine z_auto rfl ?_
        refine z_br rfl (fun c4 => ?_) (fun c4 => ?_)
        · exact absurd c4 (nI_pos (by omega))
        · refine z_auto rfl ?_
          first | refine z_st rfl ?_ | refine z_ck rfl (by decide) ?_
          rw [d1]
          refine z_auto rfl ?_
          refine z_ald (k := (t / 300)) rfl rfl (by show t / 300 < 5; omega) ?_
          rw [hL.2.1 _ (by omega)]
          refine z_auto rfl ?_
          first | refine z_st rfl ?_ | refine z_ck rfl (by decide) ?_
          rw [d2]
          refine z_auto rfl ?_
          first | refine z_st rfl ?_ | refine z_ck rfl (by decide) ?_
          rw [d3]
          refine z_auto rfl ?_
          first | refine z_st rfl ?_ | refine z_ck rfl (by decide) ?_
          rw [d4]
          refine z_auto rfl ?_
          refine z_br rfl (fun c5 => ?_) (fun c5 => ?_)
          · have q0 : ¬ t % 300 / 100 = 0 := fun q => c5 (by rw [q]; rfl)
            refine z_auto rfl ?_
            refine z_br rfl (fun c6 => ?_) (fun c6 => ?_)
            · have q1 : ¬ t % 300 / 100 = 1 := fun q => c6 (by rw [q]; rfl)
              refine z_auto rfl ?_
              refine z_br rfl (fun c7 => ?_) (fun c7 => ?_)
              · refine z_auto rfl ?_
                refine z_jp rfl ?_
                exact key 0 false (by unfold ztest; rw [if_neg q0, if_neg q1]; exact decide_eq_false (Int32.not_lt.mpr c7)) rfl _ _ _ _
              · refine z_auto rfl ?_
                refine z_jp rfl ?_
                exact key 1 true (by unfold ztest; rw [if_neg q0, if_neg q1]; exact decide_eq_true (Int32.not_le.mp c7)) rfl _ _ _ _
            · have q1 : t % 300 / 100 = 1 := (nI_eq (a := t % 300 / 100) (b := 1) (by omega) (by omega)).mp (Classical.not_not.mp c6)
              refine z_auto rfl ?_
              refine z_br rfl (fun c7 => ?_) (fun c7 => ?_)
              · refine z_auto rfl ?_
                refine z_jp rfl ?_
                exact key 0 false (by unfold ztest; rw [if_neg q0, if_pos q1]; exact decide_eq_false c7) rfl _ _ _ _
              · refine z_auto rfl ?_
                refine z_jp rfl ?_
                exact key 1 true (by unfold ztest; rw [if_neg q0, if_pos q1]; exact decide_eq_true (Classical.not_not.mp c7)) rfl _ _ _ _
          · have q0 : t % 300 / 100 = 0 := (nI_eq (a := t % 300 / 100) (b := 0) (by omega) (by omega)).mp (Classical.not_not.mp c5)
            refine z_auto rfl ?_
            refine z_br rfl (fun c7 => ?_) (fun c7 => ?_)
            · refine z_auto rfl ?_
              refine z_jp rfl ?_
              exact key 0 false (by unfold ztest; rw [if_pos q0]; exact decide_eq_false (Int32.not_lt.mpr c7)) rfl _ _ _ _
            · refine z_auto rfl ?_
              refine z_jp rfl ?_
              exact key 1 true (by unfold ztest; rw [if_pos q0]; exact decide_eq_true (Int32.not_le.mp c7)) rfl _ _ _ _
      · have g1 : zms 1500 = -1 := by decide
        have g2 : zms 1500 < 0 := by decide
        generalize zms 1500 = z at g1 g2
        obtain ⟨b, r, rfl⟩ : ∃ b r, st = b :: r := by
          rcases st with _ | ⟨b, r⟩
          · simp [zok1] at hz1
          · exact ⟨b, r, rfl⟩
        simp only [List.length_cons] at hst
        have e2 : zev1 v 1500 (b :: r) = (!b) :: r := by
          rcases r with _ | ⟨a, r⟩ <;> simp [zev1]
        have e3 : nI (b :: r).length - 1 = nI r.length := by rw [List.length_cons, nI_succ, Int32.add_sub_cancel]
        have fin : ∀ (x : Int32), (x = if (!b) = true then 1 else 0) → ∀ (u9 u10 u11 u12 : Option zAV), zW d kX10_looks (zblk kX10_looks 10) [some (zr 10 0), some (zi y1), some (zi y2), some (zi y3), some (zi y4), some (zi (nI M)), some (zi (nI fr)), some (zi (nI (b :: r).length)), some (zi (nI (fr + pos))), u9, u10, u11, u12] [zi x, zi (nI r.length), zr 43 0] J (zRR rl rs) Q := by
          intro x hx u9 u10 u11 u12
          refine z_auto rfl ?_
          refine z_bst (k := r.length) rfl rfl (by show r.length < 64; omega) (by rw [hx]; cases b <;> simp) ?_
          have h5 := ih (pos + 1) (zev1 v 1500 (b :: r)) (zup J 43 0 r.length x) u9 u10 u11 u12 (by rw [e2]; simp only [List.length_cons]; omega) hz2 (by rw [e2]; exact zrp_push (zrp_nxt hr) (!b) hx) hq2 (by omega) (zLk_up hL _ _) kk2
          rw [show fr + (pos + 1) = fr + pos + 1 by omega, nI_succ (fr + pos), show (zev1 v 1500 (b :: r)).length = (b :: r).length by rw [e2]; rfl] at h5
          refine z_auto rfl ?_
          refine z_jp rfl ?_
          refine z_auto rfl ?_
          refine z_jp rfl ?_
          exact h5
        refine z_auto rfl ?_
        refine z_br rfl (fun c4 => ?_) (fun c4 => ?_)
        · refine z_auto rfl ?_
          refine z_br rfl (fun c5 => ?_) (fun c5 => ?_)
          · exact absurd g1 c5
          · refine z_auto rfl ?_
            rw [e3]
            refine z_bld (k := r.length) rfl rfl (by show r.length < 64; omega) ?_
            rw [zrp_top hr]
            refine z_auto rfl ?_
            refine z_br rfl (fun c6 => ?_) (fun c6 => ?_)
            · refine z_auto rfl ?_
              refine z_jp rfl ?_
              exact fin 0 (by cases b <;> simp_all) _ _ _ _
            · refine z_auto rfl ?_
              refine z_jp rfl ?_
              exact fin 1 (by cases b <;> simp_all) _ _ _ _
        · exact absurd g2 c4
      · have g1 : zms 1501 = -2 := by decide
        have g2 : zms 1501 < 0 := by decide
        generalize zms 1501 = z at g1 g2
        obtain ⟨b, a, r, rfl⟩ : ∃ b a r, st = b :: a :: r := by
          rcases st with _ | ⟨b, _ | ⟨a, r⟩⟩
          · simp [zok1] at hz1
          · simp [zok1] at hz1
          · exact ⟨b, a, r, rfl⟩
        simp only [List.length_cons] at hst
        have e2 : zev1 v 1501 (b :: a :: r) = (a && b) :: r := by simp [zev1]
        have e4 : nI (b :: a :: r).length + -1 = nI (a :: r).length := m_dec _
        have e3 : nI (a :: r).length - 1 = nI r.length := by rw [List.length_cons, nI_succ, Int32.add_sub_cancel]
        have fin : ∀ (x : Int32), (x = if (a && b) = true then 1 else 0) → ∀ (u9 u10 u11 u12 : Option zAV), zW d kX10_looks (zblk kX10_looks 16) [some (zr 10 0), some (zi y1), some (zi y2), some (zi y3), some (zi y4), some (zi (nI M)), some (zi (nI fr)), some (zi (nI (a :: r).length)), some (zi (nI (fr + pos))), u9, u10, u11, u12] [zi x, zi (nI r.length), zr 43 0] J (zRR rl rs) Q := by
          intro x hx u9 u10 u11 u12
          refine z_auto rfl ?_
          refine z_bst (k := r.length) rfl rfl (by show r.length < 64; omega) (by rw [hx]; cases a <;> cases b <;> simp) ?_
          have h5 := ih (pos + 1) (zev1 v 1501 (b :: a :: r)) (zup J 43 0 r.length x) u9 u10 u11 u12 (by rw [e2]; simp only [List.length_cons]; omega) hz2 (by rw [e2]; exact zrp_push (zrp_nxt (zrp_nxt hr)) (a && b) hx) hq2 (by omega) (zLk_up hL _ _) kk2
          rw [show fr + (pos + 1) = fr + pos + 1 by omega, nI_succ (fr + pos), show (zev1 v 1501 (b :: a :: r)).length = (a :: r).length by rw [e2]; rfl] at h5
          refine z_auto rfl ?_
          refine z_jp rfl ?_
          refine z_auto rfl ?_
          refine z_jp rfl ?_
          exact h5
        refine z_auto rfl ?_
        refine z_br rfl (fun c4 => ?_) (fun c4 => ?_)
        · refine z_auto rfl ?_
          refine z_br rfl (fun c5 => ?_) (fun c5 => ?_)
          · refine z_auto rfl ?_
            refine z_br rfl (fun c6 => ?_) (fun c6 => ?_)
            · exact absurd c6 (by rw [g1]; decide)
            · refine z_auto rfl ?_
              rw [e4, e3]
              refine z_auto rfl ?_
              refine z_br rfl (fun c7 => ?_) (fun c7 => ?_)
              · exact absurd g1 c7
              · refine z_auto rfl ?_
                refine z_bld (k := r.length) rfl e3 (by show r.length < 64; omega) ?_
                rw [zrp_top (zrp_nxt hr)]
                refine z_auto rfl ?_
                refine z_br rfl (fun c8 => ?_) (fun c8 => ?_)
                · refine z_auto rfl ?_
                  refine z_jp rfl ?_
                  exact fin 0 (by clear ih hr kk kk2; cases a <;> cases b <;> simp_all) _ _ _ _
                · refine z_auto rfl ?_
                  refine z_bld (k := (a :: r).length) rfl rfl (by show r.length + 1 < 64; omega) ?_
                  rw [zrp_top hr]
                  refine z_auto rfl ?_
                  refine z_br rfl (fun c9 => ?_) (fun c9 => ?_)
                  · refine z_auto rfl ?_
                    refine z_jp rfl ?_
                    exact fin 0 (by clear ih hr kk kk2; cases a <;> cases b <;> simp_all) _ _ _ _
                  · refine z_auto rfl ?_
                    refine z_jp rfl ?_
                    exact fin 1 (by clear ih hr kk kk2; cases a <;> cases b <;> simp_all) _ _ _ _
          · exact absurd (Classical.not_not.mp c5) (by rw [g1]; decide)
        · exact absurd g2 c4
      · have g1 : zms 1502 = -3 := by decide
        have g2 : zms 1502 < 0 := by decide
        generalize zms 1502 = z at g1 g2
        obtain ⟨b, a, r, rfl⟩ : ∃ b a r, st = b :: a :: r := by
          rcases st with _ | ⟨b, _ | ⟨a, r⟩⟩
          · simp [zok1] at hz1
          · simp [zok1] at hz1
          · exact ⟨b, a, r, rfl⟩
        simp only [List.length_cons] at hst
        have e2 : zev1 v 1502 (b :: a :: r) = (a || b) :: r := by simp [zev1]
        have e4 : nI (b :: a :: r).length + -1 = nI (a :: r).length := m_dec _
        have e3 : nI (a :: r).length - 1 = nI r.length := by rw [List.length_cons, nI_succ, Int32.add_sub_cancel]
        have fin : ∀ (x : Int32), (x = if (a || b) = true then 1 else 0) → ∀ (u9 u10 u11 u12 : Option zAV), zW d kX10_looks (zblk kX10_looks 16) [some (zr 10 0), some (zi y1), some (zi y2), some (zi y3), some (zi y4), some (zi (nI M)), some (zi (nI fr)), some (zi (nI (a :: r).length)), some (zi (nI (fr + pos))), u9, u10, u11, u12] [zi x, zi (nI r.length), zr 43 0] J (zRR rl rs) Q := by
          intro x hx u9 u10 u11 u12
          refine z_auto rfl ?_
          refine z_bst (k := r.length) rfl rfl (by show r.length < 64; omega) (by rw [hx]; cases a <;> cases b <;> simp) ?_
          have h5 := ih (pos + 1) (zev1 v 1502 (b :: a :: r)) (zup J 43 0 r.length x) u9 u10 u11 u12 (by rw [e2]; simp only [List.length_cons]; omega) hz2 (by rw [e2]; exact zrp_push (zrp_nxt (zrp_nxt hr)) (a || b) hx) hq2 (by omega) (zLk_up hL _ _) kk2
          rw [show fr + (pos + 1) = fr + pos + 1 by omega, nI_succ (fr + pos), show (zev1 v 1502 (b :: a :: r)).length = (a :: r).length by rw [e2]; rfl] at h5
          refine z_auto rfl ?_
          refine z_jp rfl ?_
          refine z_auto rfl ?_
          refine z_jp rfl ?_
          exact h5
        refine z_auto rfl ?_
        refine z_br rfl (fun c4 => ?_) (fun c4 => ?_)
        · refine z_auto rfl ?_
          refine z_br rfl (fun c5 => ?_) (fun c5 => ?_)
          · refine z_auto rfl ?_
            refine z_br rfl (fun c6 => ?_) (fun c6 => ?_)
            · exact absurd c6 (by rw [g1]; decide)
            · refine z_auto rfl ?_
              rw [e4, e3]
              refine z_auto rfl ?_
              refine z_br rfl (fun c7 => ?_) (fun c7 => ?_)
              · refine z_auto rfl ?_
                refine z_bld (k := r.length) rfl e3 (by show r.length < 64; omega) ?_
                rw [zrp_top (zrp_nxt hr)]
                refine z_auto rfl ?_
                refine z_br rfl (fun c8 => ?_) (fun c8 => ?_)
                · refine z_auto rfl ?_
                  refine z_jp rfl ?_
                  exact fin 1 (by clear ih hr kk kk2; cases a <;> cases b <;> simp_all) _ _ _ _
                · refine z_auto rfl ?_
                  refine z_bld (k := (a :: r).length) rfl rfl (by show r.length + 1 < 64; omega) ?_
                  rw [zrp_top hr]
                  refine z_auto rfl ?_
                  refine z_br rfl (fun c9 => ?_) (fun c9 => ?_)
                  · refine z_auto rfl ?_
                    refine z_jp rfl ?_
                    exact fin 0 (by clear ih hr kk kk2; cases a <;> cases b <;> simp_all) _ _ _ _
                  · refine z_auto rfl ?_
                    refine z_jp rfl ?_
                    refine z_auto rfl ?_
                    refine z_jp rfl ?_
                    exact fin 1 (by clear ih hr kk kk2; cases a <;> cases b <;> simp_all) _ _ _ _
              · exact absurd (Classical.not_not.mp c7) (by rw [g1]; decide)
          · exact absurd (Classical.not_not.mp c5) (by rw [g1]; decide)
        · exact absurd g2 c4
theorem zLk_add {I : zMI} {v : Nat → Int32} {B P : Nat} {J : zMI} (h : zLk I v B P J) (a e : Nat) : zLk I v (B + a) (P + e) (zup (zup J 10 0 11 (J 10 0 11 + nI a)) 10 0 12 ((zup J 10 0 11 (J 10 0 11 + nI a)) 10 0 12 + nI e)) := by
  obtain ⟨h1, h2, h3, h4⟩ := h
  refine ⟨fun c i k x y z => ?_, fun k hk => ?_, ?_, ?_⟩
  · rcases z with z | z
    · rw [zup_c z, zup_c z]
      exact h1 c i k x y (Or.inl z)
    · rw [zup_k z.2, zup_k z.1]
      exact h1 c i k x y (Or.inr z)
  · rw [zup_c (by decide), zup_c (by decide)]
    exact h2 k hk
  · rw [zup_k (by decide), zup_eq, h3, nI_add]
  · rw [zup_eq, zup_k (by decide), h4, nI_add]
set_option maxHeartbeats 4000000 in
set_option maxRecDepth 100000 in
theorem m_term {v : Nat → Int32} {B P M fr pos : Nat} (hfr : fr + M ≤ 937) (hp : pos < M) {y1 y2 y3 y4 : Int32} {J : zMI} {b : Bool} {n a e : Nat} {x : Int32} (hx : I 40 0 (fr + pos) = x) (h0 : x < 0) (h1 : ¬ x = -1) (h2 : x ≤ -10) (ha : ¬ x ≤ -200 → -10 - x = nI n ∧ a = (if b = true then n else 0) ∧ e = 0) (he : x ≤ -200 → -200 - x = nI n ∧ e = (if b = true then n else 0) ∧ a = 0) (hb : J 43 0 0 = (if b = true then 1 else 0)) (hL : zLk I v B P J) {u7 : Int32} {u9 u10 u11 u12 : Option zAV}
    (kk : ∀ (J' : zMI) (u9 u10 u11 u12 : Option zAV), zLk I v (B + a) (P + e) J' → zW d kX10_looks (zblk kX10_looks 1) [some (zr 10 0), some (zi y1), some (zi y2), some (zi y3), some (zi y4), some (zi (nI M)), some (zi (nI fr)), some (zi (nI 0)), some (zi (nI (fr + (pos + 1)))), u9, u10, u11, u12] [] J' (zRR rl rs) Q) :
    zW d kX10_looks (zblk kX10_looks 1) [some (zr 10 0), some (zi y1), some (zi y2), some (zi y3), some (zi y4), some (zi (nI M)), some (zi (nI fr)), some (zi u7), some (zi (nI (fr + pos))), u9, u10, u11, u12] [] J (zRR rl rs) Q := by
  have hs40 : J 40 0 = I 40 0 := zFm_f hL.1 (by decide) (by decide) (by decide)
  have fin := fun u9 u10 u11 u12 => kk _ u9 u10 u11 u12 (zLk_add hL a e)
  rw [show fr + (pos + 1) = fr + pos + 1 by omega, nI_succ (fr + pos)] at fin
  refine z_auto rfl ?_
  refine z_br rfl (fun c => ?_) (fun c => ?_)
  · rw [nI_add] at c
    exact absurd c (nI_ge (by omega) (by omega))
  · refine z_auto rfl ?_
    refine z_ald (k := (fr + pos)) rfl rfl (by show fr + pos < 937; omega) ?_
    rw [hs40, hx]
    refine z_auto rfl ?_
    refine z_br rfl (fun c2 => ?_) (fun c2 => ?_)
    · refine z_auto rfl ?_
      refine z_br rfl (fun c3 => ?_) (fun c3 => ?_)
      · refine z_auto rfl ?_
        refine z_br rfl (fun c4 => ?_) (fun c4 => ?_)
        · refine z_auto rfl ?_
          refine z_bld (k := 0) rfl rfl (by decide) ?_
          obtain ⟨y, hy⟩ : ∃ y : Int32, y = if b = true then 1 else 0 := ⟨_, rfl⟩
          rw [hb, ← hy]
          refine z_auto rfl ?_
          refine z_br rfl (fun c5 => ?_) (fun c5 => ?_)
          · have hb0 : b = false := by clear kk fin ha he hb; cases b <;> simp_all
            subst hb0
            have ha0 : a = 0 := by
              by_cases q : x ≤ -200
              · exact (he q).2.2
              · exact (ha q).2.1
            have he0 : e = 0 := by
              by_cases q : x ≤ -200
              · exact (he q).2.1
              · exact (ha q).2.2
            subst ha0 he0
            refine z_auto rfl ?_
            refine z_jp rfl ?_
            refine z_auto rfl ?_
            refine z_br rfl (fun c6 => ?_) (fun c6 => ?_)
            · refine z_auto rfl ?_
              refine z_jp rfl ?_
              refine z_auto rfl ?_
              refine z_jp rfl ?_
              refine z_auto rfl ?_
              refine z_jp rfl ?_
              exact fin _ _ _ _
            · exact absurd c5 c6
          · have hb1 : b = true := by clear kk fin ha he hb; cases b <;> simp_all
            subst hb1
            refine z_auto rfl ?_
            refine z_br rfl (fun c6 => ?_) (fun c6 => ?_)
            · have ha0 : a = 0 := (he c6).2.2
              have he0 : e = n := (he c6).2.1
              have hn := (he c6).1
              subst ha0 he0
              refine z_auto rfl ?_
              refine z_jp rfl ?_
              refine z_auto rfl ?_
              refine z_br rfl (fun c7 => ?_) (fun c7 => ?_)
              · exact absurd c7 c5
              · refine z_auto rfl ?_
                refine z_br rfl (fun c8 => ?_) (fun c8 => ?_)
                · exact absurd c8 (Int32.not_lt.mpr c6)
                · refine z_auto rfl ?_
                  refine z_jp rfl ?_
                  rw [hn]
                  refine z_auto rfl ?_
                  refine z_jp rfl ?_
                  refine z_auto rfl ?_
                  refine z_jp rfl ?_
                  exact fin _ _ _ _
            · have he0 : e = 0 := (ha c6).2.2
              have ha0 : a = n := (ha c6).2.1
              have hn := (ha c6).1
              subst ha0 he0
              refine z_auto rfl ?_
              refine z_jp rfl ?_
              rw [hn]
              refine z_auto rfl ?_
              refine z_br rfl (fun c7 => ?_) (fun c7 => ?_)
              · exact absurd c7 c5
              · refine z_auto rfl ?_
                refine z_br rfl (fun c8 => ?_) (fun c8 => ?_)
                · refine z_auto rfl ?_
                  refine z_jp rfl ?_
                  refine z_auto rfl ?_
                  refine z_jp rfl ?_
                  refine z_auto rfl ?_
                  refine z_jp rfl ?_
                  exact fin _ _ _ _
                · exact absurd (Int32.not_lt.mp c8) c6
        · exact absurd h2 c4
      · exact absurd (Classical.not_not.mp c3) h1
    · exact absurd h0 c2
set_option maxHeartbeats 4000000 in
set_option maxRecDepth 100000 in
theorem m_clauses {v : Nat → Int32} {M fr : Nat} (hfr : fr + M ≤ 937) {y1 y2 y3 y4 : Int32} : ∀ (C : List zCl) (pos : Nat) (J : zMI) (B P : Nat) (u9 u10 u11 u12 : Option zAV), (∀ c ∈ C, zwf c) → (∀ k x, (zmf C)[k]? = some x → I 40 0 (fr + pos + k) = x) → pos + (zmf C).length = M → zLk I v B P J →
    (∀ J' : zMI, zLk I v (B + zcsum v C 2) (P + zcsum v C 3) J' → Q none J' (zRR rl rs)) →
    zW d kX10_looks (zblk kX10_looks 1) [some (zr 10 0), some (zi y1), some (zi y2), some (zi y3), some (zi y4), some (zi (nI M)), some (zi (nI fr)), some (zi (nI 0)), some (zi (nI (fr + pos))), u9, u10, u11, u12] [] J (zRR rl rs) Q := by
  intro C
  induction C with
  | nil =>
    intro pos J B P u9 u10 u11 u12 hw hm hp hL kk
    have hp : pos = M := hp
    subst hp
    refine z_auto rfl ?_
    refine z_br rfl (fun c => ?_) (fun c => ?_)
    · refine z_auto rfl ?_
      exact z_rt rfl (kk J hL)
    · exact absurd (by rw [nI_add]; exact nI_le (by omega) (by omega)) c
  | cons c C ih =>
    intro pos J B P u9 u10 u11 u12 hw hm hp hL kk
    have hwc := hw c (List.mem_cons_self ..)
    have hw2 : ∀ c ∈ C, zwf c := fun a ha => hw a (List.mem_cons_of_mem _ ha)
    obtain ⟨w1, w2, w3⟩ := hwc
    by_cases h01 : c.1 ≤ 1
    · have e1 : zmf (c :: C) = zmf C := by
        rw [zmf, if_neg (by omega), if_neg (by omega), List.nil_append]
      have e2 : zcsum v (c :: C) 2 = zcsum v C 2 := by
        rw [zcsum, if_neg (fun q => by omega), Nat.zero_add]
      have e3 : zcsum v (c :: C) 3 = zcsum v C 3 := by
        rw [zcsum, if_neg (fun q => by omega), Nat.zero_add]
      rw [e1] at hm hp
      rw [e2, e3] at kk
      exact ih pos J B P u9 u10 u11 u12 hw2 hm hp hL kk
    · have hz : zok 0 c.2.2 = some 1 := by
        rcases w3 with q | q
        · omega
        · exact q.2
      obtain ⟨x, hx, e1⟩ : ∃ x, (x = if c.1 = 2 then -10 - nI c.2.1 else -200 - nI c.2.1) ∧ zmf (c :: C) = c.2.2.map zms ++ x :: zmf C := by
        by_cases q : c.1 = 2
        · exact ⟨_, rfl, by rw [zmf, if_pos q, if_pos q]; simp⟩
        · exact ⟨_, rfl, by rw [zmf, if_neg q, if_neg q, if_pos (by omega)]; simp⟩
      rw [e1] at hm hp
      simp only [List.length_append, List.length_map, List.length_cons] at hp
      refine m_steps hfr (v := v) (B := B) (P := P) c.2.2 pos [] J u9 u10 u11 u12 (by simp) hz (fun i b q => by simp at q) (fun k t hk => ?_) (by omega) hL (fun J' b v9 v10 v11 v12 g1 g2 g3 => ?_)
      · have hk2 := zix hk
        apply hm k
        rw [List.getElem?_append_left (by rw [List.length_map]; exact hk2), List.getElem?_map, hk]
        rfl
      · have hcb : zcB v c.2.2 = b := by unfold zcB; rw [g1]; rfl
        have hx2 : I 40 0 (fr + (pos + c.2.2.length)) = x := by
          have := hm c.2.2.length x (by rw [List.getElem?_append_right (by simp), List.length_map, Nat.sub_self]; rfl)
          rw [show fr + pos + c.2.2.length = fr + (pos + c.2.2.length) by omega] at this
          exact this
        have fx : (x < 0) ∧ (¬ x = -1) ∧ (x ≤ -10) ∧ (¬ x ≤ -200 → c.1 = 2 ∧ -10 - x = nI c.2.1) ∧ (x ≤ -200 → c.1 = 3 ∧ -200 - x = nI c.2.1) := by
          by_cases q : c.1 = 2
          · rw [if_pos q] at hx
            obtain ⟨n1, n2, n3, n4, n5⟩ := zneg1 _ w2
            rw [hx]
            exact ⟨n4, n3, n1, fun _ => ⟨q, n5⟩, fun r => absurd r n2⟩
          · rw [if_neg q] at hx
            obtain ⟨n1, n2, n3, n4, n5⟩ := zneg2 _ w2
            rw [hx]
            exact ⟨n4, n3, n1, fun r => absurd n2 r, fun _ => ⟨by omega, n5⟩⟩
        obtain ⟨f1, f2, f3, f4, f5⟩ := fx
        rw [show fr + pos + c.2.2.length = fr + (pos + c.2.2.length) by omega]
        refine m_term hfr (by omega) (n := c.2.1) (a := if c.1 = 2 ∧ zcB v c.2.2 = true then c.2.1 else 0) (e := if c.1 = 3 ∧ zcB v c.2.2 = true then c.2.1 else 0) (b := b) hx2 f1 f2 f3 (fun q => ⟨(f4 q).2, ?_, ?_⟩) (fun q => ⟨(f5 q).2, ?_, ?_⟩) g2 g3 (fun J2 v9 v10 v11 v12 g4 => ?_)
        · have := (f4 q).1
          rw [hcb]
          cases b <;> simp [this]
        · have := (f4 q).1
          rw [if_neg (fun r => by omega)]
        · have := (f5 q).1
          rw [hcb]
          cases b <;> simp [this]
        · have := (f5 q).1
          rw [if_neg (fun r => by omega)]
        · refine ih (pos + c.2.2.length + 1) J2 _ _ v9 v10 v11 v12 hw2 (fun k y hk => ?_) (by omega) g4 (fun J3 g5 => kk J3 ?_)
          · have := hm (c.2.2.length + 1 + k) y (by rw [List.getElem?_append_right (by simp; omega), List.length_map, show c.2.2.length + 1 + k - c.2.2.length = k + 1 by omega]; exact hk)
            rw [show fr + pos + (c.2.2.length + 1 + k) = fr + (pos + c.2.2.length + 1) + k by omega] at this
            exact this
          · rw [zcsum, zcsum, ← Nat.add_assoc, ← Nat.add_assoc]
            exact g5
/-- no school, or school a with these clauses -/
def zHo (s : Nat → Int32) (C : List zCl) : Prop := (s 5 = -1 ∧ C = []) ∨ ∃ a, a < 5 ∧ s 5 = nI a ∧ zMS s a C
theorem zLk_0 {I J : zMI} {x1 x2 x3 x4 x5 : Int32} (e : x5 = I 40 0 6 - I 40 0 6 / 10 * 10) (hJ : J = zup (zup (zup (zup (zup (zup (zup I 42 0 0 x1) 42 0 1 x2) 42 0 2 x3) 42 0 3 x4) 42 0 4 x5) 10 0 11 0) 10 0 12 0) : zLk I (fVal x1 x2 x3 x4 (I 40 0 6 - I 40 0 6 / 10 * 10)) 0 0 J := by
  subst hJ e
  refine ⟨fun c i k a b e => ?_, fun k hk => ?_, ?_, ?_⟩
  · rcases e with e | e
    · rw [zup_c e, zup_c e, zup_c a, zup_c a, zup_c a, zup_c a, zup_c a]
    · rw [zup_k e.2, zup_k e.1, zup_c a, zup_c a, zup_c a, zup_c a, zup_c a]
  · rw [zup_c (by decide), zup_c (by decide)]
    rcases k with _ | _ | _ | _ | _ | k
    · rw [zup_k (by decide), zup_k (by decide), zup_k (by decide), zup_k (by decide), zup_eq]; rfl
    · rw [zup_k (by decide), zup_k (by decide), zup_k (by decide), zup_eq]; rfl
    · rw [zup_k (by decide), zup_k (by decide), zup_eq]; rfl
    · rw [zup_k (by decide), zup_eq]; rfl
    · rw [zup_eq]; rfl
    · omega
  · rw [zup_k (by decide), zup_eq]; rfl
  · rw [zup_eq]; rfl
theorem m_fr : ∀ a, a < 5 → (237 : Int32) + 140 * nI a = nI (237 + 140 * a) := by decide +kernel
set_option maxHeartbeats 4000000 in
set_option maxRecDepth 100000 in
theorem m_looks {x1 x2 x3 x4 : Int32} (hH : zHo (I 40 0) C) (h : ∀ J : zMI, zFm I J → J 10 0 11 = nI (zcsum (fVal x1 x2 x3 x4 (I 40 0 6 - I 40 0 6 / 10 * 10)) C 2) → J 10 0 12 = nI (zcsum (fVal x1 x2 x3 x4 (I 40 0 6 - I 40 0 6 / 10 * 10)) C 3) → Q none J (zRR rl rs)) : zWm (d + 1) 129 [zr 10 0, zi x1, zi x2, zi x3, zi x4] I (zRR rl rs) Q := by
  have kk : ∀ J', zLk I (fVal x1 x2 x3 x4 (I 40 0 6 - I 40 0 6 / 10 * 10)) (0 + zcsum (fVal x1 x2 x3 x4 (I 40 0 6 - I 40 0 6 / 10 * 10)) C 2) (0 + zcsum (fVal x1 x2 x3 x4 (I 40 0 6 - I 40 0 6 / 10 * 10)) C 3) J' → Q none J' (zRR rl rs) := by
    intro J' hJ
    rw [Nat.zero_add, Nat.zero_add] at hJ
    exact h J' hJ.1 hJ.2.2.1 hJ.2.2.2
  refine z_auto rfl ?_
  refine z_ast (k := 0) rfl rfl (by decide) ?_
  refine z_auto rfl ?_
  refine z_ast (k := 1) rfl rfl (by decide) ?_
  refine z_auto rfl ?_
  refine z_ast (k := 2) rfl rfl (by decide) ?_
  refine z_auto rfl ?_
  refine z_ast (k := 3) rfl rfl (by decide) ?_
  refine z_auto rfl ?_
  refine z_ald (k := 6) rfl rfl (by decide) ?_
  refine z_auto rfl ?_
  first | refine z_st rfl ?_ | refine z_ck rfl (by decide) ?_
  try simp (decide := true) only [zup_eq, zup_cf, zup_i, zup_k, zLy_3, zLy_34, ne_eq, not_false_eq_true]
  refine z_auto rfl ?_
  refine z_ast (k := 4) rfl rfl (by decide) ?_
  refine z_auto rfl ?_
  obtain ⟨J, hJ⟩ : ∃ J, J = zup (zup (zup (zup (zup (zup (zup I 42 0 0 x1) 42 0 1 x2) 42 0 2 x3) 42 0 3 x4) 42 0 4 (I 40 0 6 - I 40 0 6 / 10 * 10)) 10 0 11 0) 10 0 12 0 := ⟨_, rfl⟩
  rw [← hJ]
  have hL := zLk_0 (I := I) (x1 := x1) (x2 := x2) (x3 := x3) (x4 := x4) rfl hJ
  clear hJ
  have hs40 := zFm_f hL.1 (c := 40) (i := 0) (by decide) (by decide) (by decide)
  rcases hH with ⟨h5, rfl⟩ | ⟨a, ha, h5, hM⟩
  · refine z_cl rfl (m_tellsOf0 (by rw [hs40]; exact h5) ?_)
    refine z_auto rfl ?_
    refine z_ald (k := 5) rfl rfl (by decide) ?_
    rw [hs40, h5]
    refine z_auto rfl ?_
    refine z_jp rfl ?_
    exact m_clauses (M := 0) (fr := 97) (by decide) [] 0 J 0 0 _ _ _ _ (by simp) (by simp [zmf]) rfl hL kk
  · obtain ⟨q1, q2, q3, q4, q5, q6⟩ := hM
    refine z_cl rfl (m_tellsOf1 (a := a) (by rw [hs40]; exact h5) ha (by decide) ?_)
    refine z_auto rfl ?_
    refine z_ald (k := 5) rfl rfl (by decide) ?_
    rw [hs40, h5, q1]
    refine z_auto rfl ?_
    rw [m_fr a ha]
    refine z_auto rfl ?_
    refine z_jp rfl ?_
    exact m_clauses (M := (zmf C).length) (fr := 237 + 140 * a) (by omega) C 0 J 0 0 _ _ _ _ q6 (fun k x hk => q3 k x hk) (Nat.zero_add _) hL kk
end
end
section
/-! THE MODEL: a fall -/
def mLy (s : Nat → Int32) (tr : Nat) : Nat → Nat → Int32 := fun a k => match a with
  | 0 => s (10 + k)
  | 1 => s (18 + k)
  | 2 => s (26 + k)
  | 3 => s (42 + k)
  | _ => s (50 + k * 3 + tr % 3)
/-- layers within bounds -/
def zAb (A : Nat → Nat → Int32) (n : Nat) : Prop := ∀ k, k < n → ∃ v t r, v ≤ 99 ∧ t ≤ 99 ∧ r ≤ 99 ∧ A 1 k = nI v ∧ A 2 k = nI t ∧ A 4 k = nI r
theorem m_pos {a b : Int32} (ha : 0 ≤ a) (hb : 0 ≤ b) : (if 0 < a - b then a - b else 0) = if a ≤ b then 0 else a - b := by
  have h : (0 < a - b) ↔ ¬ a ≤ b := by
    rw [Int32.lt_iff_toInt_lt, Int32.le_iff_toInt_le, Int32.toInt_sub]
    rw [Int32.le_iff_toInt_le] at ha hb
    have h1 := Int32.toInt_lt a
    have h2 := Int32.toInt_lt b
    rw [show (0 : Int32).toInt = 0 from rfl] at *
    rw [Int.bmod_def]
    split <;> omega
  by_cases c : a ≤ b
  · rw [if_pos c, if_neg (fun q => h.mp q c)]
  · rw [if_neg c, if_pos (h.mpr c)]
theorem m_tk0 : ∀ v t r, v ≤ 99 → t ≤ 99 → r ≤ 99 → 0 ≤ nI t ∧ 0 ≤ 2 * nI t ∧ 0 ≤ 3 * nI t ∧ 0 ≤ 3 * nI t + nI v ∧ 0 ≤ nI t + nI r := by
  intro v t r hv ht hr
  have e2 : 2 * nI t = nI (t * 2) := by rw [Int32.mul_comm]; exact pk_mul t 2
  have e3 : 3 * nI t = nI (t * 3) := by rw [Int32.mul_comm]; exact pk_mul t 3
  rw [e2, e3, nI_add, nI_add]
  exact ⟨nI_pos' (by omega), nI_pos' (by omega), nI_pos' (by omega), nI_pos' (by omega), nI_pos' (by omega)⟩
theorem m_tk {kd v t fl l r : Int32} {V T R : Nat} (hv : V ≤ 99) (ht : T ≤ 99) (hr : R ≤ 99) (a1 : v = nI V) (a2 : t = nI T) (a4 : r = nI R) (hl : 0 ≤ l) : 0 ≤ ztak kd v t fl l r := by
  subst a1 a2 a4
  obtain ⟨h1, h2, h3, h4, h5⟩ := m_tk0 V T R hv ht hr
  have hcr : 0 ≤ zcr (nI T) l := by unfold zcr; split <;> assumption
  obtain ⟨L, hL, rfl⟩ := nI_of (Int32.not_lt.mpr hl)
  have hd : (nI L) / 2 = nI (L / 2) := pk_div (a := L) (d := 2) (by omega) (by omega) (by omega)
  have hhu : 0 ≤ zhu (nI T) (nI L) ∧ 0 ≤ zhu (nI T) (nI L) + nI R := by
    unfold zhu
    split
    · exact ⟨h1, h5⟩
    · rw [hd, nI_add]
      rename_i q
      have e10 : 10 * nI T = nI (T * 10) := by rw [Int32.mul_comm]; exact pk_mul T 10
      rw [e10] at q
      have : L ≤ T * 10 := by
        apply Classical.byContradiction
        intro p
        exact q (nI_lt (by omega) (by omega))
      exact ⟨nI_pos' (by omega), nI_pos' (by omega)⟩
  unfold ztak
  repeat' split
  all_goals first | assumption | exact hhu.1 | exact hhu.2 | decide
section
variable {d : Nat} {I : zMI} {rl rs : Option (Nat × Nat)} {Q : zPQ} {C : List zCl}
set_option maxHeartbeats 4000000 in
set_option maxRecDepth 100000 in
theorem m_weight {n : Nat} {set : Int32} (hn : I 40 0 0 = nI n) (h8 : n ≤ 8) (h : Q (some (zi (zww (fun k => I 40 0 (34 + k)) set n))) I (zRR rl rs)) : zWm d 137 [zr 10 0, zi set] I (zRR rl rs) Q := by
  have loop : ∀ k j, j + k = n → zW d kX10_weightBut (zblk kX10_weightBut 1) [some (zr 10 0), some (zi set), some (zi (zww (fun k => I 40 0 (34 + k)) set j)), some (zi (nI j))] [] I (zRR rl rs) Q := by
    intro k
    induction k with
    | zero =>
      intro j hj
      refine z_auto rfl ?_
      refine z_ald (k := 0) rfl rfl (by decide) ?_
      refine z_auto rfl ?_
      refine z_br rfl (fun c => ?_) (fun c => ?_)
      · have : j = n := by omega
        subst this
        refine z_auto rfl ?_
        exact z_rt rfl h
      · exact absurd (by rw [hn]; exact nI_le (by omega) (by omega)) c
    | succ k ih =>
      intro j hj
      refine z_auto rfl ?_
      refine z_ald (k := 0) rfl rfl (by decide) ?_
      refine z_auto rfl ?_
      refine z_br rfl (fun c => ?_) (fun c => ?_)
      · rw [hn] at c
        exact absurd c (nI_ge (by omega) (by omega))
      · have h2 := ih (j + 1) (by omega)
        rw [zww, nI_succ] at h2
        refine z_auto rfl ?_
        refine z_br rfl (fun c => ?_) (fun c => ?_)
        · rw [if_pos ((b_bit0 set (by omega)).mpr (by
            have : ¬ bt set j = true := fun q => c ((b_bit1 set (by omega)).mpr q)
            simpa using this))] at h2
          refine z_auto rfl ?_
          refine z_ald (k := (34 + j)) rfl (nI_add 34 j) (by show 34 + j < 937; omega) ?_
          refine z_auto rfl ?_
          refine z_jp rfl ?_
          refine z_auto rfl ?_
          refine z_jp rfl ?_
          exact h2
        · have c := Classical.not_not.mp c
          rw [if_neg (fun q => by rw [c] at q; revert q; decide)] at h2
          refine z_auto rfl ?_
          refine z_jp rfl ?_
          refine z_auto rfl ?_
          rw [Int32.add_zero]
          refine z_auto rfl ?_
          refine z_jp rfl ?_
          exact h2
  refine z_auto rfl ?_
  refine z_jp rfl ?_
  exact loop n 0 (Nat.zero_add _)
set_option maxHeartbeats 4000000 in
set_option maxRecDepth 100000 in
theorem m_takesOf {k t : Nat} (hk : k < 8) (ht : t < 100000) (hty : I 40 0 6 = nI t) {fl l : Int32} (h : Q (some (zi (ztak (I 40 0 (10 + k)) (I 40 0 (18 + k)) (I 40 0 (26 + k)) fl l (I 40 0 (50 + k * 3 + t % 3))))) I (zRR rl rs)) : zWm d 140 [zr 10 0, zi (nI k), zi fl, zi l] I (zRR rl rs) Q := by
  have hr : (50 : Int32) + 3 * nI k + (nI t - nI t / 3 * 3) = nI (50 + k * 3 + t % 3) := by
    rw [show nI t - nI t / 3 * 3 = nI (t % 3) from pk_rem (a := t) (d := 3) (by omega) (by omega) (by omega), Int32.mul_comm 3 (nI k), show nI k * 3 = nI (k * 3) from pk_mul k 3, show (50 : Int32) + nI (k * 3) = nI (50 + k * 3) from nI_add 50 (k * 3)]
    exact nI_add _ _
  have key : ∀ u6, zW d kX10_takesOf (zblk kX10_takesOf 2) [some (zr 10 0), some (zi (nI k)), some (zi fl), some (zi l), some (zi (I 40 0 (26 + k))), some (zi (I 40 0 (10 + k))), u6] [zi (zhu (I 40 0 (26 + k)) l)] I (zRR rl rs) Q := by
    intro u6
    refine z_auto rfl ?_
    refine z_sw rfl (fun q hq hx => ?_) (fun hn => ?_)
    · rcases List.mem_cons.mp hq with rfl | hq
      · have hx : I 40 0 (10 + k) = 1 := hx
        rw [hx, ztak, if_pos rfl, zcr] at h
        refine z_auto rfl ?_
        refine z_br rfl (fun c => ?_) (fun c => ?_)
        · rw [if_pos c] at h
          refine z_auto rfl ?_
          refine z_jp rfl ?_
          refine z_auto rfl ?_
          exact z_rt rfl h
        · rw [if_neg c] at h
          refine z_auto rfl ?_
          refine z_jp rfl ?_
          refine z_auto rfl ?_
          exact z_rt rfl h
      rcases List.mem_cons.mp hq with rfl | hq
      · have hx : I 40 0 (10 + k) = 2 := hx
        rw [hx, ztak, if_neg (by decide), if_pos rfl] at h
        refine z_auto rfl ?_
        exact z_rt rfl h
      rcases List.mem_cons.mp hq with rfl | hq
      · have hx : I 40 0 (10 + k) = 3 := hx
        rw [hx, ztak, if_neg (by decide), if_neg (by decide), if_pos rfl] at h
        refine z_auto rfl ?_
        exact z_rt rfl h
      rcases List.mem_cons.mp hq with rfl | hq
      · have hx : I 40 0 (10 + k) = 4 := hx
        rw [hx, ztak, if_neg (by decide), if_neg (by decide), if_neg (by decide), if_pos rfl, zcr] at h
        refine z_auto rfl ?_
        first | refine z_st rfl ?_ | refine z_ck rfl (by decide) ?_
        refine z_auto rfl ?_
        refine z_br rfl (fun c => ?_) (fun c => ?_)
        · rw [if_neg c] at h
          refine z_auto rfl ?_
          refine z_br rfl (fun c2 => ?_) (fun c2 => ?_)
          · rw [if_pos c2] at h
            refine z_auto rfl ?_
            refine z_jp rfl ?_
            refine z_auto rfl ?_
            exact z_rt rfl h
          · rw [if_neg c2] at h
            refine z_auto rfl ?_
            refine z_jp rfl ?_
            refine z_auto rfl ?_
            exact z_rt rfl h
        · rw [if_pos (Classical.not_not.mp c)] at h
          refine z_auto rfl ?_
          refine z_jp rfl ?_
          refine z_auto rfl ?_
          exact z_rt rfl h
      rcases List.mem_cons.mp hq with rfl | hq
      · have hx : I 40 0 (10 + k) = 5 := hx
        rw [hx, ztak, if_neg (by decide), if_neg (by decide), if_neg (by decide), if_neg (by decide), if_pos rfl] at h
        refine z_auto rfl ?_
        refine z_ald (k := (18 + k)) rfl (nI_add 18 k) (by show 18 + k < 937; omega) ?_
        refine z_auto rfl ?_
        refine z_br rfl (fun c => ?_) (fun c => ?_)
        · rw [if_pos c] at h
          refine z_auto rfl ?_
          refine z_ald (k := (18 + k)) rfl (nI_add 18 k) (by show 18 + k < 937; omega) ?_
          refine z_auto rfl ?_
          refine z_jp rfl ?_
          refine z_auto rfl ?_
          exact z_rt rfl h
        · rw [if_neg c] at h
          refine z_auto rfl ?_
          refine z_jp rfl ?_
          refine z_auto rfl ?_
          rw [Int32.add_zero]
          refine z_auto rfl ?_
          exact z_rt rfl h
      rcases List.mem_cons.mp hq with rfl | hq
      · have hx : I 40 0 (10 + k) = 6 := hx
        rw [hx, ztak, if_neg (by decide), if_neg (by decide), if_neg (by decide), if_neg (by decide), if_neg (by decide), if_pos rfl] at h
        refine z_auto rfl ?_
        refine z_ald (k := 6) rfl rfl (by decide) ?_
        rw [hty]
        refine z_auto rfl ?_
        first | refine z_st rfl ?_ | refine z_ck rfl (by decide) ?_
        refine z_auto rfl ?_
        refine z_ald (k := (50 + k * 3 + t % 3)) rfl hr (by show 50 + k * 3 + t % 3 < 937; omega) ?_
        refine z_auto rfl ?_
        exact z_rt rfl h
      · exact absurd hq List.not_mem_nil
    · have e1 : ¬ I 40 0 (10 + k) = 1 := hn (1, 3) (by decide)
      have e2 : ¬ I 40 0 (10 + k) = 2 := hn (2, 10) (by decide)
      have e3 : ¬ I 40 0 (10 + k) = 3 := hn (3, 14) (by decide)
      have e4 : ¬ I 40 0 (10 + k) = 4 := hn (4, 6) (by decide)
      have e5 : ¬ I 40 0 (10 + k) = 5 := hn (5, 11) (by decide)
      have e6 : ¬ I 40 0 (10 + k) = 6 := hn (6, 15) (by decide)
      rw [ztak, if_neg e1, if_neg e2, if_neg e3, if_neg e4, if_neg e5, if_neg e6] at h
      refine z_auto rfl ?_
      exact z_rt rfl h
  refine z_auto rfl ?_
  refine z_ald (k := (26 + k)) rfl (nI_add 26 k) (by show 26 + k < 937; omega) ?_
  refine z_auto rfl ?_
  refine z_ald (k := (10 + k)) rfl (nI_add 10 k) (by show 10 + k < 937; omega) ?_
  refine z_auto rfl ?_
  refine z_br rfl (fun c => ?_) (fun c => ?_)
  · have h5 := key none
    rw [zhu, if_pos c] at h5
    refine z_auto rfl ?_
    refine z_jp rfl ?_
    exact h5
  · have h5 := key none
    rw [zhu, if_neg c] at h5
    refine z_auto rfl ?_
    first | refine z_st rfl ?_ | refine z_ck rfl (by decide) ?_
    refine z_auto rfl ?_
    refine z_jp rfl ?_
    exact h5
set_option maxHeartbeats 4000000 in
set_option maxRecDepth 100000 in
theorem m_lands {n t : Nat} (hn : I 40 0 0 = nI n) (h8 : n ≤ 8) (ht : t < 100000) (hty : I 40 0 6 = nI t) (hA : zAb (mLy (I 40 0) t) n) {fl sd bl : Int32} (hbl : 0 ≤ bl) (h : Q (some (zi (gFt (mLy (I 40 0) t) fl sd (I 10 0 14) n (bl, I 10 0 16)).1)) (zup I 10 0 16 (gFt (mLy (I 40 0) t) fl sd (I 10 0 14) n (bl, I 10 0 16)).2) (zRR rl rs)) : zWm (d + 1) 141 [zr 10 0, zi fl, zi sd, zi bl] I (zRR rl rs) Q := by
  have loop : ∀ k i, i + k = n → ∀ (l b : Int32) (u6 u7 : Option zAV), 0 ≤ l → (l, b) = gFt (mLy (I 40 0) t) fl sd (I 10 0 14) i (bl, I 10 0 16) → zW (d + 1) kX10_lands (zblk kX10_lands 1) [some (zr 10 0), some (zi fl), some (zi sd), some (zi bl), some (zi l), some (zi (nI i)), u6, u7] [] (zup I 10 0 16 b) (zRR rl rs) Q := by
    intro k
    induction k with
    | zero =>
      intro i hi l b u6 u7 hl hs
      have : i = n := by omega
      subst this
      rw [← hs] at h
      refine z_auto rfl ?_
      refine z_ald (k := 0) rfl rfl (by decide) ?_
      refine z_auto rfl ?_
      refine z_br rfl (fun c => ?_) (fun c => ?_)
      · refine z_auto rfl ?_
        exact z_rt rfl h
      · rw [zup_c (by decide), hn] at c
        exact absurd (nI_le (Nat.le_refl _) (by omega)) c
    | succ k ih =>
      intro i hi l b u6 u7 hl hs
      have hi8 : i < 8 := by omega
      have g0 : ∀ c i k, c ≠ 10 → zup I 10 0 16 b c i k = I c i k := fun c i k hc => zup_c hc
      have step : gFt (mLy (I 40 0) t) fl sd (I 10 0 14) (i + 1) (bl, I 10 0 16) = gFs (mLy (I 40 0) t) fl sd (I 10 0 14) i (l, b) := by rw [gFt, hs]
      refine z_auto rfl ?_
      refine z_ald (k := 0) rfl rfl (by decide) ?_
      refine z_auto rfl ?_
      refine z_br rfl (fun c => ?_) (fun c => ?_)
      · rw [zup_c (by decide), hn] at c
        exact absurd c (nI_ge (by omega) (by omega))
      · refine z_auto rfl ?_
        refine z_ald (k := (42 + i)) rfl (nI_add 42 i) (by show 42 + i < 937; omega) ?_
        rw [zup_c (by decide)]
        have skip : ¬ (((b ||| I 10 0 14) >>> (nI i &&& 31)) &&& 1 = 0 ∧ I 40 0 (42 + i) = sd) → ∀ u6 u7, zW (d + 1) kX10_lands (zblk kX10_lands 9) [some (zr 10 0), some (zi fl), some (zi sd), some (zi bl), some (zi l), some (zi (nI i)), u6, u7] [] (zup I 10 0 16 b) (zRR rl rs) Q := by
          intro hc u6 u7
          have h2 := ih (i + 1) (by omega) l b u6 u7 hl (by rw [step, gFs]; exact (if_neg hc).symm)
          rw [nI_succ] at h2
          refine z_auto rfl ?_
          refine z_jp rfl ?_
          exact h2
        refine z_auto rfl ?_
        refine z_br rfl (fun c2 => ?_) (fun c2 => ?_)
        · exact skip (fun q => c2 q.2) _ _
        · have c2 := Classical.not_not.mp c2
          refine z_auto rfl ?_
          rw [zup_k (by decide)]
          refine z_auto rfl ?_
          refine z_br rfl (fun c3 => ?_) (fun c3 => ?_)
          · exact skip (fun q => c3 ((b_bit0 _ (by omega)).mpr (by have := (b_bit0 _ (by omega)).mp q.1; rw [b_or] at this; cases hh : bt (I 10 0 14) i <;> simp_all))) _ _
          · have c3 := Classical.not_not.mp c3
            refine z_auto rfl ?_
            rw [zup_eq]
            refine z_auto rfl ?_
            refine z_br rfl (fun c4 => ?_) (fun c4 => ?_)
            · exact skip (fun q => c4 ((b_bit0 _ (by omega)).mpr (by have := (b_bit0 _ (by omega)).mp q.1; rw [b_or] at this; cases hh : bt b i <;> simp_all))) _ _
            · have c4 := Classical.not_not.mp c4
              have hcond : ((b ||| I 10 0 14) >>> (nI i &&& 31)) &&& 1 = 0 ∧ I 40 0 (42 + i) = sd := ⟨(b_bit0 _ (by omega)).mpr (by rw [b_or, (b_bit0 _ (by omega)).mp c3, (b_bit0 _ (by omega)).mp c4]; rfl), c2⟩
              obtain ⟨v, th, r, hv, hth, hr, a1, a2, a4⟩ := hA i (by omega)
              have htk : 0 ≤ ztak (I 40 0 (10 + i)) (I 40 0 (18 + i)) (I 40 0 (26 + i)) fl l (I 40 0 (50 + i * 3 + t % 3)) := m_tk hv hth hr a1 a2 a4 hl
              have e : gFs (mLy (I 40 0) t) fl sd (I 10 0 14) i (l, b) = (if 0 < l - ztak (I 40 0 (10 + i)) (I 40 0 (18 + i)) (I 40 0 (26 + i)) fl l (I 40 0 (50 + i * 3 + t % 3)) then l - ztak (I 40 0 (10 + i)) (I 40 0 (18 + i)) (I 40 0 (26 + i)) fl l (I 40 0 (50 + i * 3 + t % 3)) else 0, @ite _ (zbrk (I 40 0 (10 + i)) (I 40 0 (18 + i)) l) (Classical.propDecidable _) (b ||| (1 <<< (nI i &&& 31))) b) := by
                rw [gFs]
                exact if_pos hcond
              have hl2 : 0 ≤ (if 0 < l - ztak (I 40 0 (10 + i)) (I 40 0 (18 + i)) (I 40 0 (26 + i)) fl l (I 40 0 (50 + i * 3 + t % 3)) then l - ztak (I 40 0 (10 + i)) (I 40 0 (18 + i)) (I 40 0 (26 + i)) fl l (I 40 0 (50 + i * 3 + t % 3)) else 0) := by
                split
                · rename_i q; exact Int32.le_of_lt q
                · decide
              have h2 := fun u6 u7 => ih (i + 1) (by omega) _ _ u6 u7 hl2 (by rw [step]; exact e.symm)
              rw [m_pos hl htk, nI_succ] at h2
              refine z_auto rfl ?_
              refine z_cl rfl (m_takesOf (t := t) hi8 ht (by rw [zup_c (by decide)]; exact hty) ?_)
              rw [g0 40 0 (10 + i) (by decide), g0 40 0 (18 + i) (by decide), g0 40 0 (26 + i) (by decide), g0 40 0 (50 + i * 3 + t % 3) (by decide)]
              generalize ztak (I 40 0 (10 + i)) (I 40 0 (18 + i)) (I 40 0 (26 + i)) fl l (I 40 0 (50 + i * 3 + t % 3)) = tk at h2
              have fin : ∀ (y : Int32) (b' : Int32), (b' = @ite _ (zbrk (I 40 0 (10 + i)) (I 40 0 (18 + i)) l) (Classical.propDecidable _) (b ||| (1 <<< (nI i &&& 31))) b) → ((y = 0 ∧ b' = b) ∨ (y ≠ 0 ∧ b' = b ||| (1 <<< (nI i &&& 31)))) → ∀ u7, zW (d + 1) kX10_lands (zblk kX10_lands 4) [some (zr 10 0), some (zi fl), some (zi sd), some (zi bl), some (zi l), some (zi (nI i)), some (zi tk), u7] [zi y] (zup I 10 0 16 b) (zRR rl rs) Q := by
                intro y b' hb' hy u7
                rw [← hb'] at h2
                refine z_auto rfl ?_
                refine z_br rfl (fun c5 => ?_) (fun c5 => ?_)
                · have e1 : b' = b := by
                    rcases hy with q | q
                    · exact q.2
                    · exact absurd c5 q.1
                  subst e1
                  refine z_auto rfl ?_
                  refine z_jp rfl ?_
                  refine z_auto rfl ?_
                  rw [zup_eq, Int32.or_zero, zup_zup]
                  refine z_auto rfl ?_
                  refine z_br rfl (fun c6 => ?_) (fun c6 => ?_)
                  · simp only [if_pos c6] at h2
                    refine z_auto rfl ?_
                    refine z_jp rfl ?_
                    refine z_auto rfl ?_
                    refine z_jp rfl ?_
                    refine z_auto rfl ?_
                    refine z_jp rfl ?_
                    exact h2 _ _
                  · simp only [if_neg c6] at h2
                    refine z_auto rfl ?_
                    refine z_jp rfl ?_
                    refine z_auto rfl ?_
                    refine z_jp rfl ?_
                    refine z_auto rfl ?_
                    refine z_jp rfl ?_
                    exact h2 _ _
                · have e1 : b' = b ||| (1 <<< (nI i &&& 31)) := by
                    rcases hy with q | q
                    · exact absurd q.1 c5
                    · exact q.2
                  rw [e1] at h2
                  refine z_auto rfl ?_
                  refine z_jp rfl ?_
                  refine z_auto rfl ?_
                  rw [zup_eq, zup_zup]
                  refine z_auto rfl ?_
                  refine z_br rfl (fun c6 => ?_) (fun c6 => ?_)
                  · simp only [if_pos c6] at h2
                    refine z_auto rfl ?_
                    refine z_jp rfl ?_
                    refine z_auto rfl ?_
                    refine z_jp rfl ?_
                    refine z_auto rfl ?_
                    refine z_jp rfl ?_
                    exact h2 _ _
                  · simp only [if_neg c6] at h2
                    refine z_auto rfl ?_
                    refine z_jp rfl ?_
                    refine z_auto rfl ?_
                    refine z_jp rfl ?_
                    refine z_auto rfl ?_
                    refine z_jp rfl ?_
                    exact h2 _ _
              refine z_auto rfl ?_
              refine z_ald (k := (10 + i)) rfl (nI_add 10 i) (by show 10 + i < 937; omega) ?_
              rw [g0 40 0 (10 + i) (by decide)]
              have brk : (I 40 0 (10 + i) = 2 ∨ I 40 0 (10 + i) = 5) → ∀ u7, zW (d + 1) kX10_lands (zblk kX10_lands 2) [some (zr 10 0), some (zi fl), some (zi sd), some (zi bl), some (zi l), some (zi (nI i)), some (zi tk), u7] [] (zup I 10 0 16 b) (zRR rl rs) Q := by
                intro hk u7
                refine z_auto rfl ?_
                refine z_ald (k := (18 + i)) rfl (nI_add 18 i) (by show 18 + i < 937; omega) ?_
                rw [g0 40 0 (18 + i) (by decide)]
                refine z_auto rfl ?_
                refine z_br rfl (fun c7 => ?_) (fun c7 => ?_)
                · refine z_auto rfl ?_
                  refine z_jp rfl ?_
                  exact fin 0 b (if_neg (fun q => q.2 c7)).symm (Or.inl ⟨rfl, rfl⟩) _
                · refine z_auto rfl ?_
                  refine z_jp rfl ?_
                  exact fin 1 _ (if_pos ⟨hk, c7⟩).symm (Or.inr ⟨by decide, rfl⟩) _
              refine z_auto rfl ?_
              refine z_br rfl (fun c5 => ?_) (fun c5 => ?_)
              · exact brk (Or.inl c5) _
              · refine z_auto rfl ?_
                refine z_ald (k := (10 + i)) rfl (nI_add 10 i) (by show 10 + i < 937; omega) ?_
                rw [g0 40 0 (10 + i) (by decide)]
                refine z_auto rfl ?_
                refine z_br rfl (fun c6 => ?_) (fun c6 => ?_)
                · refine z_auto rfl ?_
                  refine z_jp rfl ?_
                  exact fin 0 b (if_neg (fun q => q.1.elim c5 c6)).symm (Or.inl ⟨rfl, rfl⟩) _
                · refine z_auto rfl ?_
                  refine z_jp rfl ?_
                  exact brk (Or.inr (Classical.not_not.mp c6)) _
  refine z_auto rfl ?_
  refine z_jp rfl ?_
  have h5 := loop n 0 (Nat.zero_add _) bl (I 10 0 16) none none hbl rfl
  rw [zup_self] at h5
  exact h5
end
end
section
/-! THE MODEL: a whole fall -/
/-- what the model's falling changes -/
def zFM (I J : zMI) : Prop := ∀ c i k, c ≠ 42 → c ≠ 43 → (c ≠ 10 ∨ (k ≠ 11 ∧ k ≠ 12 ∧ k ≠ 13 ∧ k ≠ 16 ∧ k ≠ 17 ∧ k ≠ 18 ∧ k ≠ 19)) → J c i k = I c i k
theorem zFM.rf {I : zMI} : zFM I I := fun _ _ _ _ _ _ => rfl
theorem zFM.tr {I J K : zMI} (h1 : zFM I J) (h2 : zFM J K) : zFM I K := fun c i k a b e => (h2 c i k a b e).trans (h1 c i k a b e)
theorem zFM.of {I J : zMI} (h : zFm I J) : zFM I J := fun c i k a b e => h c i k a b (e.imp id (fun q => ⟨q.1, q.2.1⟩))
theorem zFM.up {I : zMI} {k : Nat} {x : Int32} (hk : k = 11 ∨ k = 12 ∨ k = 13 ∨ k = 16 ∨ k = 17 ∨ k = 18 ∨ k = 19) : zFM I (zup I 10 0 k x) := by
  intro c i j a b e
  rcases e with e | e
  · exact zup_c e
  · exact zup_k (by omega)
theorem zFM_f {I J : zMI} (h : zFM I J) {c i : Nat} (h1 : c ≠ 42) (h2 : c ≠ 43) (h3 : c ≠ 10) : J c i = I c i := by
  funext k
  exact h c i k h1 h2 (Or.inl h3)
/-- all numbers of a fall, by the model -/
noncomputable def mAll (s : Nat → Int32) (C : List zCl) (n t : Nat) (f a add out : Int32) : Int32 × ((Int32 × (Int32 × Int32)) × Int32) :=
  (fLd C a f, (fFl (mLy s t) n f (fLd C a f) out (fBl C f (fLd C a f) (zww (fun k => s (34 + k)) out n / 10) (s 6 - s 6 / 10 * 10) add) (s 9), if fBl C f (fLd C a f) (zww (fun k => s (34 + k)) out n / 10) (s 6 - s 6 / 10 * 10) add ≤ 20 then 0 else 1))
/-- the force told: the greater -/
def mFo (p : Int32 × ((Int32 × (Int32 × Int32)) × Int32)) : Int32 := if p.2.2 = 0 then p.2.1.1 else if p.2.1.1 ≤ p.2.1.2.1 then p.2.1.2.1 else p.2.1.1
theorem m_z1 {x : Int32} (h : 0 ≤ x) : (if 0 < x then x else 0) = x := by
  by_cases c : 0 < x
  · rw [if_pos c]
  · rw [if_neg c]
    exact Int32.le_antisymm h (Int32.not_lt.mp c)
theorem m_z2 {x : Int32} (h : ¬ 0 ≤ x) : (if 0 < x then x else 0) = 0 := by
  rw [if_neg (fun q => h (Int32.le_of_lt q))]
section
variable {d : Nat} {I : zMI} {rl rs : Option (Nat × Nat)} {Q : zPQ} {C : List zCl}
set_option maxHeartbeats 4000000 in
set_option maxRecDepth 100000 in
theorem m_tells1 (hH : zHo (I 40 0) C) (h : Q (some (zi (zlast C 1 1))) I (zRR rl rs)) : zWm d 128 [zr 10 0, zi 227, zi 1] I (zRR rl rs) Q := by
  rcases hH with ⟨h5, rfl⟩ | ⟨a, ha, h5, hM⟩
  · exact m_tellsOf0 h5 h
  · refine m_tellsOf1 (w := 227) h5 ha (by decide) ?_
    rw [hM.2.2.2.2.1]
    exact h
set_option maxHeartbeats 4000000 in
set_option maxRecDepth 100000 in
theorem m_tells0 (hH : zHo (I 40 0) C) (h : Q (some (zi (zlast C 0 20))) I (zRR rl rs)) : zWm d 128 [zr 10 0, zi 222, zi 20] I (zRR rl rs) Q := by
  rcases hH with ⟨h5, rfl⟩ | ⟨a, ha, h5, hM⟩
  · exact m_tellsOf0 h5 h
  · refine m_tellsOf1 (w := 222) h5 ha (by decide) ?_
    rw [hM.2.2.2.1]
    exact h
set_option maxHeartbeats 4000000 in
set_option maxRecDepth 100000 in
theorem m_strikes {f : Int32} (h : Q none (zup (zup I 10 0 17 (zld f (I 10 0 13) (I 10 0 17, I 10 0 18)).1) 10 0 18 (zld f (I 10 0 13) (I 10 0 17, I 10 0 18)).2) (zRR rl rs)) : zWm d 142 [zr 10 0, zi f] I (zRR rl rs) Q := by
  have e0 : zup (zup I 10 0 17 (I 10 0 17)) 10 0 18 (I 10 0 18) = I := by
    rw [zup_self, zup_self]
  have key : ∀ u2, zW d kX10_strikes (zblk kX10_strikes 2) [some (zr 10 0), some (zi f), u2] [zi (zbr (I 10 0 13) (I 10 0 17))] I (zRR rl rs) Q := by
    intro u2
    rw [zld] at h
    dsimp only at h
    refine z_auto rfl ?_
    refine z_br rfl (fun c => ?_) (fun c => ?_)
    · rw [if_pos c] at h
      rw [e0] at h
      refine z_auto rfl ?_
      refine z_br rfl (fun c2 => ?_) (fun c2 => ?_)
      · refine z_auto rfl ?_
        exact z_rt rfl h
      · exact absurd c c2
    · rw [if_neg c] at h
      refine z_auto rfl ?_
      refine z_br rfl (fun c2 => ?_) (fun c2 => ?_)
      · rw [if_pos c2] at h
        refine z_auto rfl ?_
        refine z_br rfl (fun c3 => ?_) (fun c3 => ?_)
        · exact absurd c3 c
        · refine z_auto rfl ?_
          refine z_br rfl (fun c4 => ?_) (fun c4 => ?_)
          · rw [if_pos c4, e0] at h
            refine z_auto rfl ?_
            exact z_rt rfl h
          · rw [if_neg c4] at h
            have e1 : zup (zup I 10 0 17 (I 10 0 17 + 1)) 10 0 18 (I 10 0 18) = zup I 10 0 17 (I 10 0 17 + 1) := by
              have : (zup I 10 0 17 (I 10 0 17 + 1)) 10 0 18 = I 10 0 18 := zup_k (by decide)
              rw [← this, zup_self]
            rw [e1] at h
            refine z_auto rfl ?_
            refine z_jp rfl ?_
            refine z_auto rfl ?_
            exact z_rt rfl h
      · rw [if_neg (Int32.not_le.mpr (Int32.not_le.mp c2))] at h
        rw [zup_self] at h
        refine z_auto rfl ?_
        first | refine z_st rfl ?_ | refine z_ck rfl (by decide) ?_
        refine z_auto rfl ?_
        refine z_jp rfl ?_
        refine z_auto rfl ?_
        exact z_rt rfl h
  refine z_auto rfl ?_
  refine z_br rfl (fun c => ?_) (fun c => ?_)
  · have h5 := key (some (zi (I 10 0 13 - 3 * I 10 0 17)))
    rw [zbr, m_z1 c] at h5
    refine z_auto rfl ?_
    refine z_jp rfl ?_
    exact h5
  · have h5 := key (some (zi (I 10 0 13 - 3 * I 10 0 17)))
    rw [zbr, m_z2 c] at h5
    refine z_auto rfl ?_
    refine z_jp rfl ?_
    exact h5
set_option maxHeartbeats 4000000 in
set_option maxRecDepth 100000 in
theorem m_falls {n t : Nat} (hH : zHo (I 40 0) C) (hn : I 40 0 0 = nI n) (h8 : n ≤ 8) (ht : t < 100000) (hty : I 40 0 6 = nI t) (hA : zAb (mLy (I 40 0) t) n) {f a : Int32} (hbl : 0 ≤ fBl C f (fLd C a f) (zww (fun k => I 40 0 (34 + k)) (I 10 0 14) n / 10) (I 40 0 6 - I 40 0 6 / 10 * 10) (I 10 0 15))
    (h : ∀ J : zMI, zFM I J → J 10 0 13 = I 10 0 13 → J 10 0 19 = (mAll (I 40 0) C n t f a (I 10 0 15) (I 10 0 14)).1 → J 10 0 16 = (mAll (I 40 0) C n t f a (I 10 0 15) (I 10 0 14)).2.1.2.2 → (J 10 0 17, J 10 0 18) = zla2 (mAll (I 40 0) C n t f a (I 10 0 15) (I 10 0 14)).2.1.1 (mAll (I 40 0) C n t f a (I 10 0 15) (I 10 0 14)).2.1.2.1 (mAll (I 40 0) C n t f a (I 10 0 15) (I 10 0 14)).2.2 (I 10 0 13) (I 10 0 17, I 10 0 18) → Q (some (zi (mFo (mAll (I 40 0) C n t f a (I 10 0 15) (I 10 0 14))))) J (zRR rl rs)) : zWm (d + 2) 143 [zr 10 0, zi f, zi a] I (zRR rl rs) Q := by
  have hmA : mAll (I 40 0) C n t f a (I 10 0 15) (I 10 0 14) = (fLd C a f, (fFl (mLy (I 40 0) t) n f (fLd C a f) (I 10 0 14) (fBl C f (fLd C a f) (zww (fun k => I 40 0 (34 + k)) (I 10 0 14) n / 10) (I 40 0 6 - I 40 0 6 / 10 * 10) (I 10 0 15)) (I 40 0 9), if fBl C f (fLd C a f) (zww (fun k => I 40 0 (34 + k)) (I 10 0 14) n / 10) (I 40 0 6 - I 40 0 6 / 10 * 10) (I 10 0 15) ≤ 20 then 0 else 1)) := rfl
  rw [hmA] at h
  clear hmA
  refine z_auto rfl ?_
  refine z_ald (k := 9) rfl rfl (by decide) ?_
  refine z_auto rfl ?_
  refine z_cl rfl (m_tells1 (C := C) (by rw [zup_cf (by decide)]; exact hH) ?_)
  refine z_auto rfl ?_
  first | refine z_st rfl ?_ | refine z_ck rfl (by decide) ?_
  refine z_auto rfl ?_
  obtain ⟨ld, hld⟩ : ∃ ld, ld = fLd C a f := ⟨_, rfl⟩
  rw [show (a + zlast C 1 1 * f) - (a + zlast C 1 1 * f) / 4 * 4 = ld from hld.symm]
  rw [← hld] at h hbl
  obtain ⟨M1, hM1⟩ : ∃ M1, M1 = zup (zup I 10 0 16 (I 40 0 9)) 10 0 19 ld := ⟨_, rfl⟩
  rw [← hM1]
  have hF1 : zFM I M1 := by rw [hM1]; exact (zFM.up (by decide)).tr (zFM.up (by decide))
  have r40 : M1 40 0 = I 40 0 := zFM_f hF1 (by decide) (by decide) (by decide)
  have r14 : M1 10 0 14 = I 10 0 14 := by rw [hM1, zup_k (by decide), zup_k (by decide)]
  have r15 : M1 10 0 15 = I 10 0 15 := by rw [hM1, zup_k (by decide), zup_k (by decide)]
  have r13 : M1 10 0 13 = I 10 0 13 := by rw [hM1, zup_k (by decide), zup_k (by decide)]
  have r17 : M1 10 0 17 = I 10 0 17 := by rw [hM1, zup_k (by decide), zup_k (by decide)]
  have r18 : M1 10 0 18 = I 10 0 18 := by rw [hM1, zup_k (by decide), zup_k (by decide)]
  have r16 : M1 10 0 16 = I 40 0 9 := by rw [hM1, zup_k (by decide), zup_eq]
  have r19 : M1 10 0 19 = ld := by rw [hM1, zup_eq]
  clear hM1
  refine z_cl rfl (m_weight (n := n) (by rw [r40]; exact hn) h8 ?_)
  refine z_auto rfl ?_
  first | refine z_st rfl ?_ | refine z_ck rfl (by decide) ?_
  refine z_auto rfl ?_
  refine z_cl rfl (m_looks (C := C) (by rw [r40]; exact hH) (fun J hJ j11 j12 => ?_))
  have g : ∀ k, k ≠ 11 → k ≠ 12 → J 10 0 k = M1 10 0 k := fun k a b => hJ 10 0 k (by decide) (by decide) (Or.inr ⟨a, b⟩)
  have hF2 : zFM I J := hF1.tr (zFM.of hJ)
  have s40 : J 40 0 = I 40 0 := zFM_f hF2 (by decide) (by decide) (by decide)
  rw [r40, r14, r19] at j11
  have s14 : J 10 0 14 = I 10 0 14 := (g 14 (by decide) (by decide)).trans r14
  have s15 : J 10 0 15 = I 10 0 15 := (g 15 (by decide) (by decide)).trans r15
  have s13 : J 10 0 13 = I 10 0 13 := (g 13 (by decide) (by decide)).trans r13
  have s17 : J 10 0 17 = I 10 0 17 := (g 17 (by decide) (by decide)).trans r17
  have s18 : J 10 0 18 = I 10 0 18 := (g 18 (by decide) (by decide)).trans r18
  have s16 : J 10 0 16 = I 40 0 9 := (g 16 (by decide) (by decide)).trans r16
  have s19 : J 10 0 19 = ld := (g 19 (by decide) (by decide)).trans r19
  clear g hJ j12 hF1 r13 r15 r16 r17 r18
  refine z_auto rfl ?_
  rw [j11, r40, r14, s15, s19]
  clear r40 r14 r19
  obtain ⟨B, hB⟩ : ∃ B, B = fBl C f ld (zww (fun k => I 40 0 (34 + k)) (I 10 0 14) n / 10) (I 40 0 6 - I 40 0 6 / 10 * 10) (I 10 0 15) := ⟨_, rfl⟩
  rw [← hB] at h hbl
  rw [show 5 * f + nI (zcsum (fVal f ld 9 (zww (fun k => I 40 0 (34 + k)) (I 10 0 14) n / 10) (I 40 0 6 - I 40 0 6 / 10 * 10)) C 2) + zww (fun k => I 40 0 (34 + k)) (I 10 0 14) n / 10 + I 10 0 15 = B from hB.symm]
  clear hB
  refine z_cl rfl (m_lands (n := n) (t := t) (by rw [s40]; exact hn) h8 ht (by rw [s40]; exact hty) (by rw [s40]; exact hA) hbl ?_)
  rw [s40, s14, s16]
  obtain ⟨G1, hG1⟩ : ∃ G1, G1 = gFt (mLy (I 40 0) t) f ld (I 10 0 14) n (B, I 40 0 9) := ⟨_, rfl⟩
  rw [← hG1]
  refine z_auto rfl ?_
  refine z_cl rfl (m_strikes ?_)
  rw [zup_k (by decide), zup_k (by decide), zup_k (by decide), s13, s17, s18]
  obtain ⟨z1, hz1⟩ : ∃ z1, z1 = zld G1.1 (I 10 0 13) (I 10 0 17, I 10 0 18) := ⟨_, rfl⟩
  rw [← hz1]
  obtain ⟨N, hN⟩ : ∃ N, N = zup (zup (zup J 10 0 16 G1.2) 10 0 17 z1.1) 10 0 18 z1.2 := ⟨_, rfl⟩
  rw [← hN]
  have hF3 : zFM I N := by rw [hN]; exact ((hF2.tr (zFM.up (by decide))).tr (zFM.up (by decide))).tr (zFM.up (by decide))
  have n40 : N 40 0 = I 40 0 := zFM_f hF3 (by decide) (by decide) (by decide)
  have n14 : N 10 0 14 = I 10 0 14 := by rw [hN, zup_k (by decide), zup_k (by decide), zup_k (by decide), s14]
  have n13 : N 10 0 13 = I 10 0 13 := by rw [hN, zup_k (by decide), zup_k (by decide), zup_k (by decide), s13]
  have n19 : N 10 0 19 = ld := by rw [hN, zup_k (by decide), zup_k (by decide), zup_k (by decide), s19]
  have n16 : N 10 0 16 = G1.2 := by rw [hN, zup_k (by decide), zup_k (by decide), zup_eq]
  have n17 : N 10 0 17 = z1.1 := by rw [hN, zup_k (by decide), zup_eq]
  have n18 : N 10 0 18 = z1.2 := by rw [hN, zup_eq]
  clear hN hF2 s40 s14 s15 s13 s17 s18 s16 s19 j11
  refine z_auto rfl ?_
  refine z_br rfl (fun c => ?_) (fun c => ?_)
  · have c' : ¬ B ≤ 20 := Int32.not_le.mpr c
    simp only [fFl, if_neg c'] at h
    rw [← hG1] at h
    refine z_auto rfl ?_
    first | refine z_st rfl ?_ | refine z_ck rfl (by decide) ?_
    refine z_auto rfl ?_
    first | refine z_st rfl ?_ | refine z_ck rfl (by decide) ?_
    refine z_auto rfl ?_
    rw [n19]
    have hb2 : 0 ≤ B / 2 := by
      obtain ⟨L, hL, rfl⟩ := nI_of (Int32.not_lt.mpr hbl)
      rw [show nI L / 2 = nI (L / 2) from pk_div (a := L) (d := 2) (by omega) (by omega) (by omega)]
      exact nI_pos' (by omega)
    refine z_cl rfl (m_lands (n := n) (t := t) (by rw [n40]; exact hn) h8 ht (by rw [n40]; exact hty) (by rw [n40]; exact hA) hb2 ?_)
    rw [n40, n14, n16]
    obtain ⟨G2, hG2⟩ : ∃ G2, G2 = gFt (mLy (I 40 0) t) f (ld + 1 - (ld + 1) / 4 * 4) (I 10 0 14) n (B / 2, G1.2) := ⟨_, rfl⟩
    rw [← hG2] at h ⊢
    refine z_auto rfl ?_
    refine z_cl rfl (m_strikes ?_)
    rw [zup_k (by decide), zup_k (by decide), zup_k (by decide), n13, n17, n18]
    have fin := h (zup (zup (zup N 10 0 16 G2.2) 10 0 17 (zld G2.1 (I 10 0 13) (z1.1, z1.2)).1) 10 0 18 (zld G2.1 (I 10 0 13) (z1.1, z1.2)).2)
      (((hF3.tr (zFM.up (by decide))).tr (zFM.up (by decide))).tr (zFM.up (by decide)))
      (by rw [zup_k (by decide), zup_k (by decide), zup_k (by decide), n13])
      (by rw [zup_k (by decide), zup_k (by decide), zup_k (by decide), n19])
      (by rw [zup_k (by decide), zup_k (by decide), zup_eq])
      (by rw [zup_eq, zup_k (by decide), zup_eq, zla2, if_neg (by decide), ← hz1])
    rw [mFo] at fin
    dsimp only at fin
    rw [if_neg (by decide)] at fin
    refine z_auto rfl ?_
    refine z_br rfl (fun c2 => ?_) (fun c2 => ?_)
    · rw [if_pos c2] at fin
      refine z_auto rfl ?_
      refine z_jp rfl ?_
      refine z_auto rfl ?_
      exact z_rt rfl fin
    · rw [if_neg c2] at fin
      refine z_auto rfl ?_
      refine z_jp rfl ?_
      refine z_auto rfl ?_
      exact z_rt rfl fin
  · have c' : B ≤ 20 := Int32.not_lt.mp c
    simp only [fFl, if_pos c'] at h
    rw [← hG1] at h
    have fin := h N hF3 n13 n19 n16 (by rw [n17, n18, zla2, if_pos rfl, ← hz1])
    rw [mFo] at fin
    dsimp only at fin
    rw [if_pos rfl] at fin
    refine z_auto rfl ?_
    exact z_rt rfl fin
set_option maxHeartbeats 4000000 in
set_option maxRecDepth 100000 in
theorem m_fallsNow {n t : Nat} (hH : zHo (I 40 0) C) (hn : I 40 0 0 = nI n) (h8 : n ≤ 8) (ht : t < 100000) (hty : I 40 0 6 = nI t) (hA : zAb (mLy (I 40 0) t) n) {f a : Int32} (hbl : 0 ≤ fBl C f (fLd C a f) (zww (fun k => I 40 0 (34 + k)) (I 10 0 14) n / 10) (I 40 0 6 - I 40 0 6 / 10 * 10) (I 10 0 15))
    (h : ∀ J : zMI, zFM I J → J 10 0 13 = zlast C 0 20 → J 10 0 19 = (mAll (I 40 0) C n t f a (I 10 0 15) (I 10 0 14)).1 → J 10 0 16 = (mAll (I 40 0) C n t f a (I 10 0 15) (I 10 0 14)).2.1.2.2 → (J 10 0 17, J 10 0 18) = zla2 (mAll (I 40 0) C n t f a (I 10 0 15) (I 10 0 14)).2.1.1 (mAll (I 40 0) C n t f a (I 10 0 15) (I 10 0 14)).2.1.2.1 (mAll (I 40 0) C n t f a (I 10 0 15) (I 10 0 14)).2.2 (zlast C 0 20) (I 40 0 7, if I 40 0 8 = 0 then 1 else 0) → Q (some (zi (mFo (mAll (I 40 0) C n t f a (I 10 0 15) (I 10 0 14))))) J (zRR rl rs)) : zWm (d + 3) 144 [zr 10 0, zi f, zi a] I (zRR rl rs) Q := by
  refine z_auto rfl ?_
  refine z_cl rfl (m_tells0 (C := C) hH ?_)
  refine z_auto rfl ?_
  refine z_ald (k := 7) rfl rfl (by decide) ?_
  refine z_auto rfl ?_
  refine z_ald (k := 8) rfl rfl (by decide) ?_
  try simp (decide := true) only [zup_eq, zup_cf, zup_i, zup_k, zLy_3, zLy_34, ne_eq, not_false_eq_true]
  have nx : ∀ w : Int32, (w = if I 40 0 8 = 0 then 1 else 0) → (w = 0 ∨ w = 1) → zW (d + 3) kX10_fallsNow (zblk kX10_fallsNow 2) [some (zr 10 0), some (zi f), some (zi a)] [zi w, zr 10 0] (zup (zup I 10 0 13 (zlast C 0 20)) 10 0 17 (I 40 0 7)) (zRR rl rs) Q := by
    intro w hw hw2
    refine z_auto rfl ?_
    refine z_ck rfl hw2 ?_
    refine z_auto rfl ?_
    refine z_cl rfl ?_
    obtain ⟨N, hN⟩ : ∃ N, N = zup (zup (zup I 10 0 13 (zlast C 0 20)) 10 0 17 (I 40 0 7)) 10 0 18 w := ⟨_, rfl⟩
    rw [← hN]
    have hF : zFM I N := by rw [hN]; exact ((zFM.up (by decide)).tr (zFM.up (by decide))).tr (zFM.up (by decide))
    have n40 : N 40 0 = I 40 0 := zFM_f hF (by decide) (by decide) (by decide)
    have n14 : N 10 0 14 = I 10 0 14 := by rw [hN, zup_k (by decide), zup_k (by decide), zup_k (by decide)]
    have n15 : N 10 0 15 = I 10 0 15 := by rw [hN, zup_k (by decide), zup_k (by decide), zup_k (by decide)]
    have n13 : N 10 0 13 = zlast C 0 20 := by rw [hN, zup_k (by decide), zup_k (by decide), zup_eq]
    have n17 : N 10 0 17 = I 40 0 7 := by rw [hN, zup_k (by decide), zup_eq]
    have n18 : N 10 0 18 = if I 40 0 8 = 0 then 1 else 0 := by rw [hN, zup_eq, hw]
    clear hN
    refine m_falls (C := C) (n := n) (t := t) (by rw [n40]; exact hH) (by rw [n40]; exact hn) h8 ht (by rw [n40]; exact hty) (by rw [n40]; exact hA) (by rw [n40, n14, n15]; exact hbl) ?_
    rw [n40, n14, n15, n13, n17, n18]
    intro J hJ h13 h19 h16 h17
    refine z_auto rfl ?_
    exact z_rt rfl (h J (hF.tr hJ) h13 h19 h16 h17)
  refine z_auto rfl ?_
  refine z_br rfl (fun c => ?_) (fun c => ?_)
  · refine z_auto rfl ?_
    refine z_jp rfl ?_
    exact nx 0 (by rw [if_neg c]) (Or.inl rfl)
  · refine z_auto rfl ?_
    refine z_jp rfl ?_
    exact nx 1 (by rw [if_pos (Classical.not_not.mp c)]) (Or.inr rfl)
end
end
section
/-! THE CLASS AND THE MODEL SIDE BY SIDE -/
theorem gFt_cong {A B : Nat → Nat → Int32} {fl sd out : Int32} : ∀ (n : Nat) (s : Int32 × Int32), (∀ k, k < n → A 0 k = B 0 k ∧ A 1 k = B 1 k ∧ A 2 k = B 2 k ∧ A 3 k = B 3 k ∧ A 4 k = B 4 k) → gFt A fl sd out n s = gFt B fl sd out n s
  | 0, _, _ => rfl
  | n + 1, s, h => by
    obtain ⟨h0, h1, h2, h3, h4⟩ := h n (Nat.lt_succ_self n)
    rw [gFt, gFt, gFt_cong n s (fun k hk => h k (Nat.lt_succ_of_lt hk)), gFs, gFs, h0, h1, h2, h3, h4]
theorem zww_cong {w u : Nat → Int32} {o : Int32} : ∀ n, (∀ k, k < n → w k = u k) → zww w o n = zww u o n
  | 0, _ => rfl
  | n + 1, h => by
    rw [zww, zww, zww_cong n (fun k hk => h k (Nat.lt_succ_of_lt hk)), h n (Nat.lt_succ_self n)]
theorem gFt_pos {A : Nat → Nat → Int32} {fl sd out : Int32} : ∀ (n : Nat) (s : Int32 × Int32), 0 ≤ s.1 → 0 ≤ (gFt A fl sd out n s).1
  | 0, _, h => h
  | n + 1, s, h => by
    have h2 := gFt_pos (A := A) (fl := fl) (sd := sd) (out := out) n s h
    rw [gFt, gFs]
    split
    · dsimp only
      split
      · rename_i q; exact Int32.le_of_lt q
      · decide
    · exact h2
/-- the layers, by the class's arrays and by the model's numbers -/
def zbL (a4 a20 a21 a22 a23 a24 a25 s : Nat → Int32) (n : Nat) : Prop := a4 7 = nI n ∧ s 0 = nI n ∧ n ≤ 8 ∧
  (∀ i, i < n → ∃ kd v th w sd : Nat, (kd < 7 ∧ v ≤ 9 ∧ 1 ≤ th ∧ th ≤ 9 ∧ w ≤ 20 ∧ sd < 4) ∧ (a20 i = nI kd ∧ a21 i = nI v ∧ a22 i = nI th ∧ a23 i = nI w ∧ a24 i = nI sd) ∧ s (10 + i) = nI kd ∧ s (18 + i) = nI v ∧ s (26 + i) = nI th ∧ s (34 + i) = nI w ∧ s (42 + i) = nI sd) ∧
  (∀ i l, i < n → l < 3 → ∃ r : Nat, r ≤ 9 ∧ a25 (i * 3 + l) = nI r ∧ s (50 + i * 3 + l) = nI r) ∧ (∀ x, n * 3 ≤ x → x < 24 → a25 x = 0) ∧ a4 6 = s 9 ∧ ∀ i, n ≤ i → bt (s 9) i = false
/-- the schools -/
def zbS (I : zMI) (b : Nat) (s : Nat → Int32) (k : Nat) : Prop := I 1 b 5 = nI k ∧ s 1 = nI k ∧ k ≤ 5 ∧ s 5 = (if k = 0 then -1 else nI (k - 1)) ∧ ∀ j, j < k → ∃ C, zES I (j + 2) C ∧ zMS s j C
/-- the rows of a sheet; X: what its third number may be -/
def zbH (a7 a26 a27 a28 s : Nat → Int32) (q o X n : Nat) : Prop := a7 3 = nI n ∧ s q = nI n ∧ n ≤ 8 ∧ ∀ i, i < n → ∃ f sd x : Nat, (f ≤ 20 ∧ sd < 4 ∧ x ≤ X) ∧ (a26 i = nI f ∧ a27 i = nI sd ∧ a28 i = nI x) ∧ s (o + i) = nI f ∧ s (o + 8 + i) = nI sd ∧ s (o + 16 + i) = nI x
/-- the tape -/
def zbT (a8 a29 s : Nat → Int32) (n : Nat) : Prop := a8 1 = nI n ∧ s 4 = nI n ∧ n ≤ 100 ∧ ∀ i, i < n → ∃ x : Nat, x < 128 ∧ a29 i = nI x ∧ s (122 + i) = nI x
/-- try and egg -/
def zbE (a1 a2 s : Nat → Int32) (t : Nat) : Prop := a1 6 = nI t ∧ s 6 = nI t ∧ t ≤ 9999 ∧ a2 0 = s 7 ∧ ((a2 1 = 1 ∧ s 8 = 0) ∨ (a2 1 = 0 ∧ s 8 = 1))
/-- box b of the class is s -/
def zbx (I : zMI) (b : Nat) (s : Nat → Int32) (n k t : Nat) : Prop := zbL (I 4 b) (I 20 b) (I 21 b) (I 22 b) (I 23 b) (I 24 b) (I 25 b) s n ∧ zbS I b s k ∧ (∃ m, zbH (I 7 (2 * b)) (I 26 (2 * b)) (I 27 (2 * b)) (I 28 (2 * b)) s 2 74 1 m) ∧ (∃ m, zbH (I 7 (2 * b + 1)) (I 26 (2 * b + 1)) (I 27 (2 * b + 1)) (I 28 (2 * b + 1)) s 3 98 9999 m) ∧ (∃ m, zbT (I 8 b) (I 29 b) s m) ∧ zbE (I 1 b) (I 2 b) s t
theorem r_Ab {a4 a20 a21 a22 a23 a24 a25 s : Nat → Int32} {n : Nat} (h : zbL a4 a20 a21 a22 a23 a24 a25 s n) (t : Nat) : zAb (mLy s t) n := by
  obtain ⟨h1, h2, h3, h4, h5, h6, h7, h8⟩ := h
  intro i hi
  obtain ⟨kd, v, th, w, sd, q, p, r1, r2, r3, r4, r5⟩ := h4 i hi
  obtain ⟨r, hr, g1, g2⟩ := h5 i (t % 3) hi (Nat.mod_lt _ (by decide))
  exact ⟨v, th, r, by omega, by omega, by omega, r2, r3, g2⟩
theorem r_all {I : zMI} {s : Nat → Int32} {n t : Nat} (h : zbL (I 4 0) (I 20 0) (I 21 0) (I 22 0) (I 23 0) (I 24 0) (I 25 0) s n) (h6 : I 1 0 6 = s 6) {C : List zCl} {f a add out : Int32} : fAll I C n t f a add out = mAll s C n t f a add out := by
  obtain ⟨h1, h2, h3, h4, h5, -, h7, h8⟩ := h
  have hw : zww (I 23 0) out n = zww (fun k => s (34 + k)) out n := zww_cong n (fun k hk => by
    obtain ⟨kd, v, th, w, sd, q, ⟨p0, p1, p2, p3, p4⟩, r1, r2, r3, r4, r5⟩ := h4 k hk
    exact p3.trans r4.symm)
  have hg : ∀ ld x, gFt (zLy I t) f ld out n x = gFt (mLy s t) f ld out n x := fun ld x => gFt_cong n x (fun k hk => by
    obtain ⟨kd, v, th, w, sd, q, ⟨p0, p1, p2, p3, p4⟩, r1, r2, r3, r4, r5⟩ := h4 k hk
    obtain ⟨r, hr, g1, g2⟩ := h5 k (t % 3) hk (Nat.mod_lt _ (by decide))
    exact ⟨p0.trans r1.symm, p1.trans r2.symm, p2.trans r3.symm, p4.trans r5.symm, g1.trans g2.symm⟩)
  unfold fAll mAll
  rw [hw, h6, h7]
  simp only [fFl, hg]
theorem zww_nat {w : Nat → Int32} {o : Int32} : ∀ n, n ≤ 8 → (∀ k, k < n → ∃ x : Nat, x ≤ 20 ∧ w k = nI x) → ∃ y : Nat, y ≤ 20 * n ∧ zww w o n = nI y
  | 0, _, _ => ⟨0, by omega, rfl⟩
  | n + 1, hn, h => by
    obtain ⟨y, hy, e⟩ := zww_nat (o := o) n (by omega) (fun k hk => h k (Nat.lt_succ_of_lt hk))
    obtain ⟨x, hx, e2⟩ := h n (Nat.lt_succ_self n)
    rw [zww]
    split
    · exact ⟨y + x, by omega, by rw [e, e2, nI_add]⟩
    · exact ⟨y, by omega, e⟩
theorem zcsum_le (v : Nat → Int32) (w : Nat) : ∀ C : List zCl, (∀ c ∈ C, zwf c) → zcsum v C w ≤ 99 * C.length
  | [], _ => Nat.le_refl _
  | c :: C, h => by
    have h1 := zcsum_le v w C (fun a ha => h a (List.mem_cons_of_mem _ ha))
    have h2 := (h c (List.mem_cons_self ..)).2.1
    rw [zcsum, List.length_cons]
    split <;> omega
theorem r_bl {s : Nat → Int32} {C : List zCl} {n f ad t : Nat} {ld out : Int32} (hC : ∀ c ∈ C, zwf c) (hC10 : C.length ≤ 10) (hn : n ≤ 8) (hw : ∀ k, k < n → ∃ x : Nat, x ≤ 20 ∧ s (34 + k) = nI x) (hf : f ≤ 20) (hd : ad ≤ 100) (ht : s 6 = nI t) (ht2 : t ≤ 9999) : ∃ b : Nat, b ≤ 2000 ∧ fBl C (nI f) ld (zww (fun k => s (34 + k)) out n / 10) (s 6 - s 6 / 10 * 10) (nI ad) = nI b := by
  obtain ⟨y, hy, e⟩ := zww_nat (w := fun k => s (34 + k)) (o := out) n hn hw
  have hz := zcsum_le (fVal (nI f) ld 9 (zww (fun k => s (34 + k)) out n / 10) (s 6 - s 6 / 10 * 10)) 2 C hC
  unfold fBl
  generalize zcsum (fVal (nI f) ld 9 (zww (fun k => s (34 + k)) out n / 10) (s 6 - s 6 / 10 * 10)) C 2 = z at hz
  refine ⟨f * 5 + z + y / 10 + ad, by omega, ?_⟩
  rw [e, show nI y / 10 = nI (y / 10) from pk_div (a := y) (d := 10) (by omega) (by omega) (by omega), Int32.mul_comm, show nI f * 5 = nI (f * 5) from pk_mul f 5, nI_add, nI_add, nI_add]
theorem r_fo {I : zMI} {C : List zCl} {n t : Nat} {f a add out : Int32} (hbl : 0 ≤ fBl C f (fLd C a f) (zww (I 23 0) out n / 10) (I 1 0 6 - I 1 0 6 / 10 * 10) add) : fFo I C n t f a add out = mFo (fAll I C n t f a add out) := by
  unfold fFo mFo fAll
  dsimp only
  by_cases c : fBl C f (fLd C a f) (zww (I 23 0) out n / 10) (I 1 0 6 - I 1 0 6 / 10 * 10) add ≤ 20
  · rw [if_pos c, if_pos rfl]
    simp only [fFl, if_pos c]
    have := gFt_pos (A := zLy I t) (fl := f) (sd := fLd C a f) (out := out) n (fBl C f (fLd C a f) (zww (I 23 0) out n / 10) (I 1 0 6 - I 1 0 6 / 10 * 10) add, I 4 0 6) hbl
    rw [if_neg (Int32.not_lt.mpr this)]
  · rw [if_neg c, if_neg (show ¬ (1 : Int32) = 0 by decide)]
    generalize (fFl (zLy I t) n f (fLd C a f) out (fBl C f (fLd C a f) (zww (I 23 0) out n / 10) (I 1 0 6 - I 1 0 6 / 10 * 10) add) (I 4 0 6)).1 = x
    generalize (fFl (zLy I t) n f (fLd C a f) out (fBl C f (fLd C a f) (zww (I 23 0) out n / 10) (I 1 0 6 - I 1 0 6 / 10 * 10) add) (I 4 0 6)).2.1 = y
    by_cases c2 : x < y
    · rw [if_pos c2, if_pos (Int32.le_of_lt c2)]
    · rw [if_neg c2]
      by_cases c3 : x ≤ y
      · rw [if_pos c3]
        exact Int32.le_antisymm c3 (Int32.not_lt.mp c2)
      · rw [if_neg c3]
end
section
/-! small askings, both sides: yes and no -/
theorem n_no {f m : Nat} (hf : f ≤ m) (hm : m < 2147483648) : ¬ (nI f < 0 ∨ nI m < nI f) := by
  intro h
  rcases h with h | h
  · exact nI_pos (by omega) h
  · exact absurd h (Int32.not_lt.mpr (nI_le hf hm))
theorem n_cases (x : Int32) (m : Nat) (hm : m < 2147483648) : (∃ f, f ≤ m ∧ x = nI f) ∨ (x < 0 ∨ nI m < x) := by
  by_cases c : x < 0
  · exact Or.inr (Or.inl c)
  · obtain ⟨f, hf, rfl⟩ := nI_of c
    rcases Nat.lt_or_ge m f with q | q
    · exact Or.inr (Or.inr (nI_lt q hf))
    · exact Or.inl ⟨f, q, rfl⟩
theorem n_ge {x : Int32} {n : Nat} (hn : n < 2147483647) (h : nI n < x) : nI (n + 1) ≤ x := by
  by_cases c : x < 0
  · exact absurd (Int32.lt_trans h c) (nI_pos (by omega))
  · obtain ⟨f, hf, rfl⟩ := nI_of c
    apply nI_le _ hf
    apply Classical.byContradiction
    intro q
    exact absurd h (Int32.not_lt.mpr (nI_le (by omega) (by omega)))
theorem n_gt {x : Int32} {n : Nat} (hn : n < 2147483647) (h : nI (n + 1) ≤ x) : nI n < x := Int32.lt_of_lt_of_le (nI_lt (by omega) (by omega)) h
theorem n_l0 {x : Int32} (h : (0 : Int32) ≤ x) : ¬ x < 0 := Int32.not_lt.mpr h
section
variable {d : Nat} {I : zMI} {rl rs : Option (Nat × Nat)} {Q : zPQ} {G : zMR}
set_option maxHeartbeats 4000000 in
set_option maxRecDepth 100000 in
theorem m_in_y {a lo hi : Nat} (h1 : lo ≤ a) (h2 : a ≤ hi) (hh : hi < 2147483648) (h : Q (some (zi 1)) I G) : zWm d 110 [zi (nI a), zi (nI lo), zi (nI hi)] I G Q := by
  refine z_auto rfl ?_
  refine z_br rfl (fun c => ?_) (fun c => ?_)
  · exact absurd c (Int32.not_lt.mpr (nI_le h1 (by omega)))
  · refine z_auto rfl ?_
    refine z_br rfl (fun c2 => ?_) (fun c2 => ?_)
    · exact absurd c2 (Int32.not_lt.mpr (nI_le h2 hh))
    · refine z_auto rfl ?_
      refine z_jp rfl ?_
      refine z_auto rfl ?_
      exact z_rt rfl h
set_option maxHeartbeats 4000000 in
set_option maxRecDepth 100000 in
theorem m_in_n {x lo hi : Int32} (hx : x < lo ∨ hi < x) (h : Q (some (zi 0)) I G) : zWm d 110 [zi x, zi lo, zi hi] I G Q := by
  refine z_auto rfl ?_
  refine z_br rfl (fun c => ?_) (fun c => ?_)
  · refine z_auto rfl ?_
    refine z_jp rfl ?_
    refine z_auto rfl ?_
    exact z_rt rfl h
  · refine z_auto rfl ?_
    refine z_br rfl (fun c2 => ?_) (fun c2 => ?_)
    · refine z_auto rfl ?_
      refine z_jp rfl ?_
      refine z_auto rfl ?_
      exact z_rt rfl h
    · rcases hx with q | q
      · exact absurd q c
      · exact absurd q c2
set_option maxHeartbeats 4000000 in
set_option maxRecDepth 100000 in
theorem m_isFloor_y {f : Nat} (hf : f ≤ 20) (h : Q (some (zi 1)) I G) : zWm (d + 1) 113 [zi (nI f)] I G Q := by
  refine z_auto rfl ?_
  refine z_cl rfl (m_in_y (lo := 0) (hi := 20) (Nat.zero_le _) hf (by decide) ?_)
  refine z_auto rfl ?_
  exact z_rt rfl h
set_option maxHeartbeats 4000000 in
set_option maxRecDepth 100000 in
theorem m_isFloor_n {x : Int32} (hx : x < 0 ∨ 20 < x) (h : Q (some (zi 0)) I G) : zWm (d + 1) 113 [zi x] I G Q := by
  refine z_auto rfl ?_
  refine z_cl rfl (m_in_n hx ?_)
  refine z_auto rfl ?_
  exact z_rt rfl h
set_option maxHeartbeats 4000000 in
set_option maxRecDepth 100000 in
theorem m_isSide_y {f : Nat} (hf : f ≤ 3) (h : Q (some (zi 1)) I G) : zWm (d + 1) 112 [zi (nI f)] I G Q := by
  refine z_auto rfl ?_
  refine z_cl rfl (m_in_y (lo := 0) (hi := 3) (Nat.zero_le _) hf (by decide) ?_)
  refine z_auto rfl ?_
  exact z_rt rfl h
set_option maxHeartbeats 4000000 in
set_option maxRecDepth 100000 in
theorem m_isSide_n {x : Int32} (hx : x < 0 ∨ 3 < x) (h : Q (some (zi 0)) I G) : zWm (d + 1) 112 [zi x] I G Q := by
  refine z_auto rfl ?_
  refine z_cl rfl (m_in_n hx ?_)
  refine z_auto rfl ?_
  exact z_rt rfl h
theorem c_isFloor_y {f : Nat} (hf : f ≤ 20) (h : Q (some (zi 1)) I G) : zWm d 94 [zi (nI f)] I G Q :=
  s_isFloor (fun _ _ _ => h) (fun q => absurd q (n_no hf (by decide)))
theorem c_isFloor_n {x : Int32} (hx : x < 0 ∨ 20 < x) (h : Q (some (zi 0)) I G) : zWm d 94 [zi x] I G Q :=
  s_isFloor (fun f hf e => absurd hx (by subst e; exact n_no hf (by decide))) (fun _ => h)
theorem c_isSide_y {f : Nat} (hf : f ≤ 3) (h : Q (some (zi 1)) I G) : zWm d 95 [zi (nI f)] I G Q :=
  s_isSide (fun _ _ _ => h) (fun q => absurd q (fun q => q.elim (nI_pos (by omega)) (fun q => absurd (n_gt (n := 3) (by decide) q) (Int32.not_lt.mpr (nI_le hf (by decide))))))
theorem c_isSide_n {x : Int32} (hx : x < 0 ∨ 3 < x) (h : Q (some (zi 0)) I G) : zWm d 95 [zi x] I G Q :=
  s_isSide (fun f hf e => absurd hx (by subst e; exact n_no (m := 3) (by omega) (by decide))) (fun _ => h)
theorem c_isKind_y {f : Nat} (hf : f ≤ 6) (h : Q (some (zi 1)) I G) : zWm d 96 [zi (nI f)] I G Q :=
  s_isKind (fun _ _ _ => h) (fun q => absurd q (fun q => q.elim (nI_pos (by omega)) (fun q => absurd (n_gt (n := 6) (by decide) q) (Int32.not_lt.mpr (nI_le hf (by decide))))))
theorem c_isKind_n {x : Int32} (hx : x < 0 ∨ 6 < x) (h : Q (some (zi 0)) I G) : zWm d 96 [zi x] I G Q :=
  s_isKind (fun f hf e => absurd hx (by subst e; exact n_no (m := 6) (by omega) (by decide))) (fun _ => h)
theorem c_has_y {n l : Nat} (hn : I 4 0 7 = nI n) (h8 : n ≤ 8) (hl : l < n) (h : Q (some (zi 1)) I (zRR rl rs)) : zWm d 28 [zr 4 0, zi (nI l)] I (zRR rl rs) Q :=
  s_has hn h8 (fun _ _ _ => h) (fun q => absurd q (fun q => q.elim (nI_pos (by omega)) (fun q => absurd (nI_lt (a := l) (b := n) hl (by omega)) (Int32.not_lt.mpr q))))
theorem c_has_n {n : Nat} {x : Int32} (hn : I 4 0 7 = nI n) (h8 : n ≤ 8) (hx : x < 0 ∨ nI n ≤ x) (h : Q (some (zi 0)) I (zRR rl rs)) : zWm d 28 [zr 4 0, zi x] I (zRR rl rs) Q :=
  s_has hn h8 (fun f hf e => absurd hx (by subst e; exact fun q => q.elim (nI_pos (by omega)) (fun q => absurd (nI_lt (a := f) (b := n) hf (by omega)) (Int32.not_lt.mpr q)))) (fun _ => h)
set_option maxHeartbeats 4000000 in
set_option maxRecDepth 100000 in
theorem m_isLayer_y {n l : Nat} (hn : I 40 0 0 = nI n) (h8 : n ≤ 8) (hl : l < n) (h : Q (some (zi 1)) I (zRR rl rs)) : zWm (d + 1) 111 [zr 10 0, zi (nI l)] I (zRR rl rs) Q := by
  have e : nI n - 1 = nI (n - 1) := by
    obtain ⟨m, rfl⟩ : ∃ m, n = m + 1 := ⟨n - 1, by omega⟩
    rw [nI_succ, Int32.add_sub_cancel]
    rfl
  refine z_auto rfl ?_
  refine z_ald (k := 0) rfl rfl (by decide) ?_
  rw [hn]
  refine z_auto rfl ?_
  rw [e]
  refine z_cl rfl (m_in_y (lo := 0) (hi := n - 1) (Nat.zero_le _) (by omega) (by omega) ?_)
  refine z_auto rfl ?_
  exact z_rt rfl h
set_option maxHeartbeats 4000000 in
set_option maxRecDepth 100000 in
theorem m_isLayer_n {n : Nat} {x : Int32} (hn : I 40 0 0 = nI n) (h8 : n ≤ 8) (hx : x < 0 ∨ nI n ≤ x) (h : Q (some (zi 0)) I (zRR rl rs)) : zWm (d + 1) 111 [zr 10 0, zi x] I (zRR rl rs) Q := by
  refine z_auto rfl ?_
  refine z_ald (k := 0) rfl rfl (by decide) ?_
  rw [hn]
  refine z_auto rfl ?_
  refine z_cl rfl (m_in_n (by
    rcases hx with q | q
    · exact Or.inl q
    · rcases n with _ | n
      · exact Or.inr (Int32.lt_of_lt_of_le (by decide) q)
      · rw [show nI (n + 1) - 1 = nI n by rw [nI_succ, Int32.add_sub_cancel]]
        exact Or.inr (n_gt (by omega) q)) ?_)
  refine z_auto rfl ?_
  exact z_rt rfl h
theorem n_lay (x : Int32) (n : Nat) (hn : n ≤ 8) : (∃ l, l < n ∧ x = nI l) ∨ (x < 0 ∨ nI n ≤ x) := by
  by_cases c : x < 0
  · exact Or.inr (Or.inl c)
  · obtain ⟨f, hf, rfl⟩ := nI_of c
    rcases Nat.lt_or_ge f n with q | q
    · exact Or.inl ⟨f, q, rfl⟩
    · exact Or.inr (Or.inr (nI_le q hf))
end
end
section
/-! THE TWO SIDE BY SIDE: what holds between calls -/
/-- the class's own data stay -/
def zFk (I J : zMI) : Prop := ∀ c i k, (c = 1 ∨ c = 2 ∨ c = 4 ∨ c = 6 ∨ c = 7 ∨ c = 8 ∨ (20 ≤ c ∧ c ≤ 33)) → (c = 2 → i ≠ 2) → J c i k = I c i k
theorem zbx_fr {I J : zMI} (h : zFk I J) {b : Nat} (hb : b ≤ 1) {s : Nat → Int32} {n k t : Nat} (hx : zbx I b s n k t) : zbx J b s n k t := by
  have e : ∀ c i, (c = 1 ∨ c = 4 ∨ c = 6 ∨ c = 7 ∨ c = 8 ∨ (20 ≤ c ∧ c ≤ 33)) → J c i = I c i := fun c i hc => funext (fun k => h c i k (by omega) (by omega))
  have e2 : J 2 b = I 2 b := funext (fun k => h 2 b k (by omega) (by omega))
  obtain ⟨h1, h2, h3, h4, h5, h6⟩ := hx
  refine ⟨?_, ?_, ?_, ?_, ?_, ?_⟩
  · rw [e 4 b (by omega), e 20 b (by omega), e 21 b (by omega), e 22 b (by omega), e 23 b (by omega), e 24 b (by omega), e 25 b (by omega)]
    exact h1
  · obtain ⟨g1, g2, g3, g4, g5⟩ := h2
    refine ⟨by rw [e 1 b (by omega)]; exact g1, g2, g3, g4, fun j hj => ?_⟩
    obtain ⟨C, c1, c2⟩ := g5 j hj
    exact ⟨C, zES_fr (fun c k hc => h c _ k (by omega) (by omega)) c1, c2⟩
  · rw [e 7 _ (by omega), e 26 _ (by omega), e 27 _ (by omega), e 28 _ (by omega)]
    exact h3
  · rw [e 7 _ (by omega), e 26 _ (by omega), e 27 _ (by omega), e 28 _ (by omega)]
    exact h4
  · rw [e 8 _ (by omega), e 29 _ (by omega)]
    exact h5
  · rw [e 1 _ (by omega), e2]
    exact h6
/-- what holds between calls -/
def zRel (I : zMI) : Prop := ∃ n k t, zbx I 0 (I 40 0) n k t ∧ zES I 1 [] ∧
  ((I 9 0 2 = 0 ∧ I 10 0 3 = 0) ∨ (I 9 0 2 = 1 ∧ I 10 0 3 = 1 ∧ ∃ n' k' t', zbx I 1 (I 41 0) n' k' t' ∧ k' ≤ k)) ∧
  (∃ r : Nat, r < 2147483648 ∧ I 0 0 1 = nI r ∧ I 10 0 22 = nI r ∧ ∀ i, i < r → i < 20 → I 35 0 i = I 45 0 i) ∧ I 10 0 14 = 0 ∧ I 10 0 15 = 0
/-- what falling and asking change, on both sides -/
def zFa (I J : zMI) : Prop := ∀ c i k, c ≠ 3 → c ≠ 34 → c ≠ 42 → c ≠ 43 → c ≠ 44 → c ≠ 51 → (c ≠ 2 ∨ i ≠ 2) → (c ≠ 10 ∨ (k < 11 ∨ 20 ≤ k)) → J c i k = I c i k
theorem zFa.rf {I : zMI} : zFa I I := fun _ _ _ _ _ _ _ _ _ _ _ => rfl
theorem zFa.tr {I J K : zMI} (h1 : zFa I J) (h2 : zFa J K) : zFa I K := fun c i k a1 a2 a3 a4 a5 a6 a7 a8 => (h2 c i k a1 a2 a3 a4 a5 a6 a7 a8).trans (h1 c i k a1 a2 a3 a4 a5 a6 a7 a8)
theorem zFa.r {I J : zMI} (h : zFr I J) : zFa I J := fun c i k a1 a2 _ _ _ _ a7 _ => h c i k a1 a2 a7
theorem zFa.M {I J : zMI} (h : zFM I J) : zFa I J := fun c i k _ _ a3 a4 _ _ _ a8 => h c i k a3 a4 (by omega)
theorem zFa.m {I J : zMI} (h : zFm I J) : zFa I J := zFa.M (zFM.of h)
theorem zFa_k {I J : zMI} (h : zFa I J) : zFk I J := fun c i k hc h2 => h c i k (by omega) (by omega) (by omega) (by omega) (by omega) (by omega) (by omega) (by omega)
theorem zRel_fr {I J : zMI} (h : zFa I J) (j14 : J 10 0 14 = 0) (j15 : J 10 0 15 = 0) (hR : zRel I) : zRel J := by
  obtain ⟨n, k, t, h1, h2, h3, h4, h5, h6⟩ := hR
  have e : ∀ c i, (c = 40 ∨ c = 41 ∨ c = 0 ∨ c = 35 ∨ c = 45 ∨ c = 9) → J c i = I c i := fun c i hc => funext (fun k => h c i k (by omega) (by omega) (by omega) (by omega) (by omega) (by omega) (by omega) (by omega))
  have e2 : ∀ k, (k = 3 ∨ k = 22) → J 10 0 k = I 10 0 k := fun k hk => h 10 0 k (by decide) (by decide) (by decide) (by decide) (by decide) (by decide) (by decide) (by omega)
  refine ⟨n, k, t, ?_, zES_fr (fun c k hc => zFa_k h c _ k (by omega) (by omega)) h2, ?_, ?_, ?_, ?_⟩
  · rw [e 40 0 (by omega)]
    exact zbx_fr (zFa_k h) (by decide) h1
  · rw [e 9 0 (by omega), e2 3 (by omega), e 41 0 (by omega)]
    rcases h3 with q | ⟨q1, q2, n', k', t', q3, q4⟩
    · exact Or.inl q
    · exact Or.inr ⟨q1, q2, n', k', t', zbx_fr (zFa_k h) (by decide) q3, q4⟩
  · rw [e 0 0 (by omega), e 35 0 (by omega), e 45 0 (by omega), e2 22 (by omega)]
    exact h4
  · exact j14
  · exact j15
theorem zRel_r {I J : zMI} (h : zFr I J) (hR : zRel I) : zRel J := by
  have hR0 := hR
  obtain ⟨n, k, t, h1, h2, h3, h4, h5, h6⟩ := hR0
  exact zRel_fr (zFa.r h) ((h 10 0 14 (by decide) (by decide) (Or.inl (by decide))).trans h5) ((h 10 0 15 (by decide) (by decide) (Or.inl (by decide))).trans h6) hR
theorem zRel_M {I J : zMI} (h : zFM I J) (hR : zRel I) : zRel J := by
  have hR0 := hR
  obtain ⟨n, k, t, h1, h2, h3, h4, h5, h6⟩ := hR0
  exact zRel_fr (zFa.M h) ((h 10 0 14 (by decide) (by decide) (by decide)).trans h5) ((h 10 0 15 (by decide) (by decide) (by decide)).trans h6) hR
/-- all that is asked of the state, kept by a frame -/
def zSt8 (I : zMI) (C : List zCl) (n k t : Nat) : Prop := zbx I 0 (I 40 0) n k t ∧ zCu I k C n t ∧ zHo (I 40 0) C
theorem zSt8_fr {I J : zMI} {C : List zCl} {n k t : Nat} (h : zFa I J) (hS : zSt8 I C n k t) : zSt8 J C n k t := by
  obtain ⟨h1, h2, h3⟩ := hS
  have e : J 40 0 = I 40 0 := funext (fun k => h 40 0 k (by decide) (by decide) (by decide) (by decide) (by decide) (by decide) (by decide) (Or.inl (by decide)))
  obtain ⟨e1, e2, e3, e4, e5, e6, e7, e8⟩ := h2
  have g : ∀ c i k, (c = 1 ∨ c = 2 ∨ c = 4 ∨ c = 6 ∨ c = 7 ∨ c = 8 ∨ (20 ≤ c ∧ c ≤ 33)) → (c = 2 → i ≠ 2) → J c i k = I c i k := zFa_k h
  refine ⟨by rw [e]; exact zbx_fr (zFa_k h) (by decide) h1, ⟨?_, e2, zES_fr (fun c k hc => g c _ k (by omega) (by omega)) e3, ?_, e5, ?_, e7, ?_⟩, by rw [e]; exact h3⟩
  · rw [g 1 0 5 (by omega) (by omega)]; exact e1
  · rw [g 4 0 7 (by omega) (by omega)]; exact e4
  · rw [g 1 0 6 (by omega) (by omega)]; exact e6
  · rw [g 2 0 1 (by omega) (by omega)]; exact e8
theorem fAll_fa {I J : zMI} (h : zFa I J) (C : List zCl) (n t : Nat) (f a add out : Int32) : fAll J C n t f a add out = fAll I C n t f a add out := by
  have g : ∀ c i k, (c = 1 ∨ c = 2 ∨ c = 4 ∨ c = 6 ∨ c = 7 ∨ c = 8 ∨ (20 ≤ c ∧ c ≤ 33)) → (c = 2 → i ≠ 2) → J c i k = I c i k := zFa_k h
  have e : ∀ c, (20 ≤ c ∧ c ≤ 33) → J c 0 = I c 0 := fun c hc => funext (fun k => g c 0 k (by omega) (by omega))
  have el : zLy J t = zLy I t := by
    funext x k
    unfold zLy
    split <;> exact g _ _ _ (by omega) (by omega)
  unfold fAll
  rw [el, e 23 (by decide), g 1 0 6 (by decide) (by decide), g 4 0 6 (by decide) (by decide)]
theorem fFo_fa {I J : zMI} (h : zFa I J) (C : List zCl) (n t : Nat) (f a add out : Int32) : fFo J C n t f a add out = fFo I C n t f a add out := by
  unfold fFo
  rw [fAll_fa h]
theorem fEg_fa {I J : zMI} (h : zFa I J) (C : List zCl) (n t : Nat) (f a add out b : Int32) (s : Int32 × Int32) : fEg J C n t f a add out b s = fEg I C n t f a add out b s := by
  unfold fEg
  rw [fAll_fa h]
theorem r_cu {I : zMI} {n k t : Nat} (h : zbx I 0 (I 40 0) n k t) (hE : zES I 1 []) : ∃ C, zCu I k C n t ∧ zHo (I 40 0) C := by
  obtain ⟨h1, ⟨g1, g2, g3, g4, g5⟩, -, -, -, ⟨e1, e2, e3, e4, e5⟩⟩ := h
  have e6 : I 2 0 1 = 0 ∨ I 2 0 1 = 1 := by
    rcases e5 with q | q
    · exact Or.inr q.1
    · exact Or.inl q.1
  rcases k with _ | k
  · exact ⟨[], ⟨g1, g3, hE, h1.1, h1.2.2.1, e1, e3, e6⟩, Or.inl ⟨g4, rfl⟩⟩
  · obtain ⟨C, c1, c2⟩ := g5 k (Nat.lt_succ_self k)
    exact ⟨C, ⟨g1, g3, c1, h1.1, h1.2.2.1, e1, e3, e6⟩, Or.inr ⟨k, by omega, g4, c2⟩⟩
theorem fFo_fr {I J : zMI} (h : zFr I J) (C : List zCl) (n t : Nat) (f a add out : Int32) : fFo J C n t f a add out = fFo I C n t f a add out := by
  unfold fFo
  rw [fAll_fr h]
theorem fEg_fr {I J : zMI} (h : zFr I J) (C : List zCl) (n t : Nat) (f a add out b : Int32) (s : Int32 × Int32) : fEg J C n t f a add out b s = fEg I C n t f a add out b s := by
  unfold fEg
  rw [fAll_fr h]
section
variable {d : Nat} {I : zMI} {rl rs : Option (Nat × Nat)} {Q : zPQ} {G : zMR} {n k t : Nat} {C : List zCl}
set_option maxHeartbeats 4000000 in
set_option maxRecDepth 100000 in
theorem m_fn (hb : zbx I 0 (I 40 0) n k t) (hC : zCu I k C n t) (hH : zHo (I 40 0) C) {ad f : Nat} (hf : f ≤ 20) (hd : ad ≤ 100) (h15 : I 10 0 15 = nI ad) {out a : Int32} (h14 : I 10 0 14 = out)
    (h : ∀ K : zMI, zFM I K → K 10 0 19 = (fAll I C n t (nI f) a (nI ad) out).1 → K 10 0 16 = (fAll I C n t (nI f) a (nI ad) out).2.1.2.2 → (K 10 0 17, K 10 0 18) = fEg I C n t (nI f) a (nI ad) out (zlast C 0 20) (I 2 0 0, I 2 0 1) → Q (some (zi (fFo I C n t (nI f) a (nI ad) out))) K (zRR rl rs)) : zWm (d + 3) 144 [zr 10 0, zi (nI f), zi a] I (zRR rl rs) Q := by
  obtain ⟨h1, ⟨g1, g2, g3, g4, g5⟩, -, -, -, ⟨e1, e2, e3, e4, e5⟩⟩ := hb
  have hall := r_all h1 (t := t) (e1.trans e2.symm) (C := C) (f := nI f) (a := a) (add := nI ad) (out := out)
  obtain ⟨b, hb, eb⟩ := r_bl (s := I 40 0) (C := C) (n := n) (f := f) (ad := ad) (t := t) (ld := fLd C a (nI f)) (out := out) hC.2.2.1.2.2.2.1 hC.2.2.1.2.1 h1.2.2.1 (fun k hk => by
    obtain ⟨kd, v, th, w, sd, ⟨q1, q2, q3, q4, q5, q6⟩, -, r1, r2, r3, r4, r5⟩ := h1.2.2.2.1 k hk
    exact ⟨w, q5, r4⟩) hf hd e2 e3
  have hbl : 0 ≤ fBl C (nI f) (fLd C a (nI f)) (zww (fun k => I 40 0 (34 + k)) out n / 10) (I 40 0 6 - I 40 0 6 / 10 * 10) (nI ad) := by
    rw [eb]
    exact nI_pos' (by omega)
  have hw : zww (I 23 0) out n = zww (fun k => I 40 0 (34 + k)) out n := zww_cong n (fun k hk => by
    obtain ⟨kd, v, th, w, sd, q, ⟨p0, p1, p2, p3, p4⟩, r1, r2, r3, r4, r5⟩ := h1.2.2.2.1 k hk
    exact p3.trans r4.symm)
  have hfo : fFo I C n t (nI f) a (nI ad) out = mFo (mAll (I 40 0) C n t (nI f) a (nI ad) out) := by
    rw [r_fo (by rw [hw, e1, ← e2]; exact hbl), hall]
  have heg : (I 2 0 0, I 2 0 1) = (I 40 0 7, if I 40 0 8 = 0 then (1 : Int32) else 0) := by
    rw [e4]
    rcases e5 with ⟨q1, q2⟩ | ⟨q1, q2⟩
    · rw [q1, q2]; rfl
    · rw [q1, q2]; rfl
  rw [hfo, heg] at h
  unfold fEg at h
  rw [hall] at h
  refine m_fallsNow (C := C) (n := n) (t := t) hH h1.2.1 h1.2.2.1 (by omega) e2 (r_Ab h1 t) (by rw [h15, h14]; exact hbl) ?_
  rw [h15, h14]
  intro K hK _ q1 q2 q3
  exact h K hK q1 q2 q3
theorem zld_01 (x b : Int32) (s : Int32 × Int32) (hs : s.2 = 0 ∨ s.2 = 1) : (zld x b s).2 = 0 ∨ (zld x b s).2 = 1 := by
  unfold zld
  split
  · exact hs
  · split
    · split
      · exact hs
      · exact hs
    · exact Or.inl rfl
theorem fEg_01 {f a add out b : Int32} {s : Int32 × Int32} (hs : s.2 = 0 ∨ s.2 = 1) : (fEg I C n t f a add out b s).2 = 0 ∨ (fEg I C n t f a add out b s).2 = 1 := by
  unfold fEg zla2
  split
  · exact zld_01 _ _ _ hs
  · exact zld_01 _ _ _ (zld_01 _ _ _ hs)
/-- the model's fall at a memory that the frame reaches -/
theorem m_fa {J : zMI} (hS : zSt8 I C n k t) (hJ : zFa I J) {ad f : Nat} (hf : f ≤ 20) (hd : ad ≤ 100) (h15 : J 10 0 15 = nI ad) {out a : Int32} (h14 : J 10 0 14 = out)
    (h : ∀ K : zMI, zFM J K → K 10 0 19 = (fAll I C n t (nI f) a (nI ad) out).1 → K 10 0 16 = (fAll I C n t (nI f) a (nI ad) out).2.1.2.2 → (K 10 0 17, K 10 0 18) = fEg I C n t (nI f) a (nI ad) out (zlast C 0 20) (I 2 0 0, I 2 0 1) → Q (some (zi (fFo I C n t (nI f) a (nI ad) out))) K (zRR rl rs)) : zWm (d + 3) 144 [zr 10 0, zi (nI f), zi a] J (zRR rl rs) Q := by
  obtain ⟨h1, h2, h3⟩ := zSt8_fr hJ hS
  refine m_fn h1 h2 h3 hf hd h15 h14 ?_
  rw [fAll_fa hJ, fFo_fa hJ, fEg_fa hJ, hJ 2 0 0 (by decide) (by decide) (by decide) (by decide) (by decide) (by decide) (by decide) (by decide), hJ 2 0 1 (by decide) (by decide) (by decide) (by decide) (by decide) (by decide) (by decide) (by decide)]
  exact h
theorem r_st {I : zMI} (hR : zRel I) : ∃ C n k t, zSt8 I C n k t ∧ I 10 0 14 = 0 ∧ I 10 0 15 = 0 := by
  obtain ⟨n, k, t, h1, h2, h3, h4, h5, h6⟩ := hR
  obtain ⟨C, hC, hH⟩ := r_cu h1 h2
  exact ⟨C, n, k, t, ⟨h1, hC, hH⟩, h5, h6⟩
end
end
section
/-! CALLS, ONE BY ONE: both sides answer the same -/
def zPr (m1 m2 : Nat) (a : List zAV) : Prop := ∀ (d : Nat) (I : zMI) (rl rs : Option (Nat × Nat)), zRel I → zWm (d + 12) m1 (zr 9 0 :: a) I (zRR rl rs) (fun v1 I1 G1 => ∃ rl1 rs1, G1 = zRR rl1 rs1 ∧ zWm (d + 12) m2 (zr 10 0 :: a) I1 G1 (fun v2 I2 G2 => v1 = v2 ∧ zRel I2 ∧ ∃ rl2 rs2, G2 = zRR rl2 rs2))
theorem zPr_i {d m2 : Nat} {a : List zAV} {v : Option zAV} {J : zMI} {rl rs : Option (Nat × Nat)} (h : ∀ rl' rs', zWm (d + 12) m2 (zr 10 0 :: a) J (zRR rl' rs') (fun v2 I2 G2 => v = v2 ∧ zRel I2 ∧ ∃ rl2 rs2, G2 = zRR rl2 rs2)) : ∃ rl1 rs1, zRR rl rs = zRR rl1 rs1 ∧ zWm (d + 12) m2 (zr 10 0 :: a) J (zRR rl rs) (fun v2 I2 G2 => v = v2 ∧ zRel I2 ∧ ∃ rl2 rs2, G2 = zRR rl2 rs2) := ⟨rl, rs, rfl, h rl rs⟩
theorem zPr_o {v : Option zAV} {J : zMI} {rl rs : Option (Nat × Nat)} (h : zRel J) : v = v ∧ zRel J ∧ ∃ rl2 rs2, zRR rl rs = zRR rl2 rs2 := ⟨rfl, h, rl, rs, rfl⟩
theorem zPr_o2 {v w : Option zAV} {J : zMI} {rl rs : Option (Nat × Nat)} (e : v = w) (h : zRel J) : v = w ∧ zRel J ∧ ∃ rl2 rs2, zRR rl rs = zRR rl2 rs2 := ⟨e, h, rl, rs, rfl⟩
set_option maxHeartbeats 4000000 in
set_option maxRecDepth 100000 in
theorem p_fall (x1 x2 x3 : Int32) : zPr 75 146 [zi x1, zi x2, zi x3] := by
  intro d I rl rs hR
  rcases n_cases x1 20 (by decide) with ⟨f, hf, rfl⟩ | hx1
  · rcases n_cases x2 3 (by decide) with ⟨a, ha, rfl⟩ | hx2
    · obtain ⟨C, n, k, t, hS, h14, h15⟩ := r_st hR
      refine z_auto rfl ?_
      refine z_cl rfl (c_isFloor_y hf ?_)
      refine z_auto rfl ?_
      refine z_st rfl ?_
      refine z_auto rfl ?_
      refine z_cl rfl (c_isSide_y ha ?_)
      refine z_auto rfl ?_
      refine z_jp rfl ?_
      refine z_auto rfl ?_
      refine z_cl rfl (s_letFall hS.2.1 (fun J hJ hE => ?_))
      have hRJ := zRel_r hJ.1 hR
      have j14 : J 10 0 14 = 0 := (hJ.1 10 0 14 (by decide) (by decide) (Or.inl (by decide))).trans h14
      have j15 : J 10 0 15 = nI 0 := (hJ.1 10 0 15 (by decide) (by decide) (Or.inl (by decide))).trans h15
      have hw01 : (fEg I C n t (nI f) (nI a) 0 0 (zlast C 0 20) (I 2 0 0, I 2 0 1)).2 = 0 ∨ (fEg I C n t (nI f) (nI a) 0 0 (zlast C 0 20) (I 2 0 0, I 2 0 1)).2 = 1 := fEg_01 hS.2.1.2.2.2.2.2.2.2
      have mrun : ∀ (w : Nat), w ≤ 4 → ∀ v : Int32, (v = (if w = 0 then fFo I C n t (nI f) (nI a) 0 0 else if w = 1 then (fAll I C n t (nI f) (nI a) 0 0).1 else if w = 2 then (fEg I C n t (nI f) (nI a) 0 0 (zlast C 0 20) (I 2 0 0, I 2 0 1)).2 else if w = 3 then (fEg I C n t (nI f) (nI a) 0 0 (zlast C 0 20) (I 2 0 0, I 2 0 1)).1 else (fAll I C n t (nI f) (nI a) 0 0).2.1.2.2)) → ∀ rl' rs', zWm (d + 12) 146 [zr 10 0, zi (nI f), zi (nI a), zi (nI w)] J (zRR rl' rs') (fun v2 I2 G2 => some (zi v) = v2 ∧ zRel I2 ∧ ∃ rl2 rs2, G2 = zRR rl2 rs2) := by
        intro w hw v hv rl' rs'
        refine z_auto rfl ?_
        refine z_cl rfl (m_isFloor_y hf ?_)
        refine z_auto rfl ?_
        refine z_st rfl ?_
        refine z_auto rfl ?_
        refine z_cl rfl (m_isSide_y ha ?_)
        refine z_auto rfl ?_
        refine z_st rfl ?_
        refine z_auto rfl ?_
        refine z_cl rfl (m_in_y (lo := 0) (hi := 4) (Nat.zero_le _) hw (by decide) ?_)
        refine z_auto rfl ?_
        refine z_jp rfl ?_
        refine z_auto rfl ?_
        refine z_cl rfl (m_fa hS (zFa.r hJ.1) hf (by decide) j15 j14 (fun K hK k19 k16 k17 => ?_))
        have hRK := zRel_M hK hRJ
        have k17a : K 10 0 17 = (fEg I C n t (nI f) (nI a) 0 0 (zlast C 0 20) (I 2 0 0, I 2 0 1)).1 := congrArg Prod.fst k17
        have k18a : K 10 0 18 = (fEg I C n t (nI f) (nI a) 0 0 (zlast C 0 20) (I 2 0 0, I 2 0 1)).2 := congrArg Prod.snd k17
        rcases w with _ | _ | _ | _ | _ | w
        · refine z_auto rfl ?_
          refine z_st rfl ?_
          refine z_auto rfl ?_
          refine z_jp rfl ?_
          refine z_auto rfl ?_
          exact z_rt rfl (zPr_o2 (by rw [hv]; rfl) hRK)
        · refine z_auto rfl ?_
          refine z_jp rfl ?_
          refine z_auto rfl ?_
          refine z_st rfl ?_
          refine z_auto rfl ?_
          refine z_jp rfl ?_
          refine z_auto rfl ?_
          exact z_rt rfl (zPr_o2 (by rw [hv, k19]; rfl) hRK)
        · refine z_auto rfl ?_
          refine z_jp rfl ?_
          refine z_auto rfl ?_
          refine z_jp rfl ?_
          refine z_auto rfl ?_
          refine z_st rfl ?_
          refine z_auto rfl ?_
          refine z_br rfl (fun c => ?_) (fun c => ?_)
          · have hz : v = 0 := by
              rw [hv]
              exact k18a.symm.trans c
            refine z_auto rfl ?_
            refine z_jp rfl ?_
            refine z_auto rfl ?_
            exact z_rt rfl (zPr_o2 (by rw [hz]) hRK)
          · have hz : v = 1 := by
              rw [hv]
              exact hw01.elim (fun q => absurd (k18a.trans q) c) id
            refine z_auto rfl ?_
            refine z_jp rfl ?_
            refine z_auto rfl ?_
            exact z_rt rfl (zPr_o2 (by rw [hz]) hRK)
        · refine z_auto rfl ?_
          refine z_jp rfl ?_
          refine z_auto rfl ?_
          refine z_jp rfl ?_
          refine z_auto rfl ?_
          refine z_jp rfl ?_
          refine z_auto rfl ?_
          refine z_st rfl ?_
          refine z_auto rfl ?_
          refine z_jp rfl ?_
          refine z_auto rfl ?_
          exact z_rt rfl (zPr_o2 (by rw [hv, k17a]; rfl) hRK)
        · refine z_auto rfl ?_
          refine z_jp rfl ?_
          refine z_auto rfl ?_
          refine z_jp rfl ?_
          refine z_auto rfl ?_
          refine z_jp rfl ?_
          refine z_auto rfl ?_
          refine z_jp rfl ?_
          refine z_auto rfl ?_
          refine z_jp rfl ?_
          refine z_auto rfl ?_
          exact z_rt rfl (zPr_o2 (by rw [hv, k16]; rfl) hRK)
        · omega
      have e21 : J 2 2 0 = (fEg I C n t (nI f) (nI a) 0 0 (zlast C 0 20) (I 2 0 0, I 2 0 1)).1 := congrArg Prod.fst hE
      have e22 : J 2 2 1 = (fEg I C n t (nI f) (nI a) 0 0 (zlast C 0 20) (I 2 0 0, I 2 0 1)).2 := congrArg Prod.snd hE
      obtain ⟨-, g1, g7, g8, g2, -⟩ := hJ
      rcases n_cases x3 4 (by decide) with ⟨w, hw, rfl⟩ | hx3
      · rcases w with _ | _ | _ | _ | _ | w
        · refine z_auto rfl ?_
          refine z_jp rfl ?_
          refine z_auto rfl ?_
          refine z_cl rfl (s_force ?_)
          refine z_auto rfl ?_
          exact z_rt rfl (zPr_i (mrun 0 (by decide) _ (by rw [g7, g8]; rfl)))
        · refine z_auto rfl ?_
          refine z_jp rfl ?_
          refine z_auto rfl ?_
          exact z_rt rfl (zPr_i (mrun 1 (by decide) _ (by rw [g1]; rfl)))
        · refine z_auto rfl ?_
          refine z_jp rfl ?_
          refine z_auto rfl ?_
          refine z_br rfl (fun c => ?_) (fun c => ?_)
          · refine z_auto rfl ?_
            refine z_jp rfl ?_
            refine z_auto rfl ?_
            exact z_rt rfl (zPr_i (mrun 2 (by decide) _ (by exact c.symm.trans e22)))
          · refine z_auto rfl ?_
            refine z_jp rfl ?_
            refine z_auto rfl ?_
            exact z_rt rfl (zPr_i (mrun 2 (by decide) _ (by exact (hw01.elim (fun q => absurd (e22.trans q) c) id).symm)))
        · refine z_auto rfl ?_
          refine z_jp rfl ?_
          refine z_auto rfl ?_
          exact z_rt rfl (zPr_i (mrun 3 (by decide) _ (by rw [e21]; rfl)))
        · refine z_auto rfl ?_
          refine z_jp rfl ?_
          refine z_auto rfl ?_
          exact z_rt rfl (zPr_i (mrun 4 (by decide) _ (by rw [g2]; rfl)))
        · omega
      · refine z_auto rfl ?_
        refine z_sw rfl (fun q hq hx => ?_) (fun hn => ?_)
        · exfalso
          have hq : q ∈ [((0 : Int32), 3), (1, 4), (2, 5), (3, 8), (4, 9)] := hq
          simp only [List.mem_cons, List.not_mem_nil, or_false] at hq
          rcases hq with rfl | rfl | rfl | rfl | rfl <;> (subst hx; revert hx3; decide)
        · refine z_auto rfl ?_
          refine z_rt rfl (zPr_i (fun rl' rs' => ?_))
          refine z_auto rfl ?_
          refine z_cl rfl (m_isFloor_y hf ?_)
          refine z_auto rfl ?_
          refine z_st rfl ?_
          refine z_auto rfl ?_
          refine z_cl rfl (m_isSide_y ha ?_)
          refine z_auto rfl ?_
          refine z_st rfl ?_
          refine z_auto rfl ?_
          refine z_cl rfl (m_in_n hx3 ?_)
          refine z_auto rfl ?_
          refine z_st rfl ?_
          refine z_auto rfl ?_
          refine z_jp rfl ?_
          refine z_auto rfl ?_
          exact z_rt rfl (zPr_o hRJ)
    · refine z_auto rfl ?_
      refine z_cl rfl (c_isFloor_y hf ?_)
      refine z_auto rfl ?_
      refine z_st rfl ?_
      refine z_auto rfl ?_
      refine z_cl rfl (c_isSide_n hx2 ?_)
      refine z_auto rfl ?_
      refine z_st rfl ?_
      refine z_auto rfl ?_
      refine z_jp rfl ?_
      refine z_auto rfl ?_
      refine z_rt rfl (zPr_i (fun rl' rs' => ?_))
      refine z_auto rfl ?_
      refine z_cl rfl (m_isFloor_y hf ?_)
      refine z_auto rfl ?_
      refine z_st rfl ?_
      refine z_auto rfl ?_
      refine z_cl rfl (m_isSide_n hx2 ?_)
      refine z_auto rfl ?_
      refine z_jp rfl ?_
      refine z_auto rfl ?_
      exact z_rt rfl (zPr_o hR)
  · refine z_auto rfl ?_
    refine z_cl rfl (c_isFloor_n hx1 ?_)
    refine z_auto rfl ?_
    refine z_jp rfl ?_
    refine z_auto rfl ?_
    refine z_rt rfl (zPr_i (fun rl' rs' => ?_))
    refine z_auto rfl ?_
    refine z_cl rfl (m_isFloor_n hx1 ?_)
    refine z_auto rfl ?_
    refine z_jp rfl ?_
    refine z_auto rfl ?_
    exact z_rt rfl (zPr_o hR)
end
section
/-! highest -/
theorem n_first (P : Nat → Prop) : ∀ m, (∀ g, g < m → P g) ∨ ∃ f, f < m ∧ ¬ P f ∧ ∀ g, g < f → P g
  | 0 => Or.inl (fun g hg => absurd hg (Nat.not_lt_zero g))
  | m + 1 => by
    rcases n_first P m with h | ⟨f, h1, h2, h3⟩
    · by_cases c : P m
      · exact Or.inl (fun g hg => by
          rcases Nat.lt_or_ge g m with q | q
          · exact h g q
          · rw [show g = m by omega]; exact c)
      · exact Or.inr ⟨m, Nat.lt_succ_self m, c, h⟩
    · exact Or.inr ⟨f, by omega, h2, h3⟩
/-- the egg is whole behind this fall -/
def fWh (I : zMI) (C : List zCl) (n t : Nat) (f a add out : Int32) : Prop := (fEg I C n t f a add out (zlast C 0 20) (I 2 0 0, I 2 0 1)).2 = 1
def fHi (i : Nat) : Int32 := if i = 0 then -5 else nI (i - 1)
section
variable {d : Nat} {I : zMI} {rl rs : Option (Nat × Nat)} {Q : zPQ} {G : zMR} {n k t : Nat} {C : List zCl}
/-- the class's fall behind others -/
theorem c_sw {J : zMI} (hS : zSt8 I C n k t) (hJ : zFr I J) {f a add out : Int32} (h1 : ∀ K, zFr I K → fWh I C n t f a add out → Q (some (zi 1)) K (zRR (some (4, 0)) rs)) (h0 : ∀ K, zFr I K → ¬ fWh I C n t f a add out → Q (some (zi 0)) K (zRR (some (4, 0)) rs)) : zWm (d + 5) 102 [zr 9 0, zi f, zi a, zi add, zi out] J (zRR rl rs) Q := by
  have e : J 2 0 = I 2 0 := funext (fun k => hJ 2 0 k (by decide) (by decide) (Or.inr (by decide)))
  refine s_staysWhole (zCu_fr hJ hS.2.1) (fun K hK hw => h1 K (hJ.tr hK.1) ?_) (fun K hK hw => h0 K (hJ.tr hK.1) ?_)
  · rw [fEg_fr hJ, e] at hw
    exact hw
  · rw [fEg_fr hJ, e] at hw
    intro q
    rw [fWh, hw] at q
    revert q
    decide
/-- the model's fall behind others -/
theorem m_sw {J : zMI} (hS : zSt8 I C n k t) (hJ : zFa I J) {ad f : Nat} (hf : f ≤ 20) (hd : ad ≤ 100) (h15 : J 10 0 15 = nI ad) {out a : Int32} (h14 : J 10 0 14 = out) (h1 : ∀ K x, zFM J K → K 10 0 18 = 1 → fWh I C n t (nI f) a (nI ad) out → Q (some (zi x)) K (zRR rl rs)) (h0 : ∀ K x, zFM J K → K 10 0 18 = 0 → ¬ fWh I C n t (nI f) a (nI ad) out → Q (some (zi x)) K (zRR rl rs)) : zWm (d + 3) 144 [zr 10 0, zi (nI f), zi a] J (zRR rl rs) Q := by
  refine m_fa hS hJ hf hd h15 h14 (fun K hK _ _ h17 => ?_)
  have h18 : K 10 0 18 = (fEg I C n t (nI f) a (nI ad) out (zlast C 0 20) (I 2 0 0, I 2 0 1)).2 := congrArg Prod.snd h17
  rcases fEg_01 (I := I) (n := n) (t := t) (C := C) (f := nI f) (a := a) (add := nI ad) (out := out) (b := zlast C 0 20) (s := (I 2 0 0, I 2 0 1)) hS.2.1.2.2.2.2.2.2.2 with q | q
  · refine h0 K _ hK (h18.trans q) (fun p => ?_)
    rw [fWh, q] at p
    revert p
    decide
  · exact h1 K _ hK (h18.trans q) q
theorem zFM_14 {J K : zMI} (h : zFM J K) : K 10 0 14 = J 10 0 14 := h 10 0 14 (by decide) (by decide) (by decide)
theorem zFM_15 {J K : zMI} (h : zFM J K) : K 10 0 15 = J 10 0 15 := h 10 0 15 (by decide) (by decide) (by decide)
theorem zFr_14 {J K : zMI} (h : zFr J K) : K 10 0 14 = J 10 0 14 := h 10 0 14 (by decide) (by decide) (Or.inl (by decide))
theorem zFr_15 {J K : zMI} (h : zFr J K) : K 10 0 15 = J 10 0 15 := h 10 0 15 (by decide) (by decide) (Or.inl (by decide))
set_option maxHeartbeats 4000000 in
set_option maxRecDepth 100000 in
theorem p_highest (x1 : Int32) : zPr 76 147 [zi x1] := by
  intro d I rl rs hR
  rcases n_cases x1 3 (by decide) with ⟨a, ha, rfl⟩ | hx1
  · obtain ⟨C, n, k, t, hS, h14, h15⟩ := r_st hR
    obtain ⟨e, he, hb, hl⟩ : ∃ e, e ≤ 21 ∧ (e = 21 ∨ ¬ fWh I C n t (nI e) (nI a) 0 0) ∧ ∀ g, g < e → fWh I C n t (nI g) (nI a) 0 0 := by
      rcases n_first (fun g => fWh I C n t (nI g) (nI a) 0 0) 21 with h | ⟨f, h1, h2, h3⟩
      · exact ⟨21, by omega, Or.inl rfl, h⟩
      · exact ⟨f, by omega, Or.inr h2, h3⟩
    have mrun : ∀ J, zFr I J → ∀ rl' rs', zWm (d + 12) 147 [zr 10 0, zi (nI a)] J (zRR rl' rs') (fun v2 I2 G2 => some (zi (fHi e)) = v2 ∧ zRel I2 ∧ ∃ rl2 rs2, G2 = zRR rl2 rs2) := by
      intro J hJ rl' rs'
      have hRJ := zRel_r hJ hR
      refine z_auto rfl ?_
      refine z_cl rfl (m_isSide_y ha ?_)
      refine z_auto rfl ?_
      refine z_jp rfl ?_
      refine z_auto rfl ?_
      refine z_jp rfl ?_
      have loop : ∀ m i, i + m = e → ∀ K, zFM J K → ∀ u : List (Option zAV), zW (d + 12) kX10_highest (zblk kX10_highest 2) ([some (zr 10 0), some (zi (nI a)), some (zi (fHi i)), some (zi 1), some (zi (nI i))] ++ u) [] K (zRR rl' rs') (fun v2 I2 G2 => some (zi (fHi e)) = v2 ∧ zRel I2 ∧ ∃ rl2 rs2, G2 = zRR rl2 rs2) := by
        intro m
        induction m with
        | zero =>
          intro i hi K hK u
          have : i = e := by omega
          subst this
          refine z_auto rfl ?_
          refine z_br rfl (fun c => ?_) (fun c => ?_)
          · refine z_auto rfl ?_
            exact z_rt rfl (zPr_o (zRel_M hK hRJ))
          · refine z_auto rfl ?_
            refine z_st rfl ?_
            have hi20 : i ≤ 20 := by
              apply Classical.byContradiction
              intro q
              exact c (nI_lt (a := 20) (b := i) (by omega) (by omega))
            refine z_auto rfl ?_
            refine z_cl rfl (m_sw hS ((zFa.r hJ).tr (zFa.M hK)) hi20 (by decide) ((zFM_15 hK).trans ((zFr_15 hJ).trans h15)) ((zFM_14 hK).trans ((zFr_14 hJ).trans h14)) (fun L x hL h18 hw => ?_) (fun L x hL h18 hw => ?_))
            · rcases hb with q | q
              · omega
              · exact absurd hw q
            · refine z_auto rfl ?_
              rw [h18]
              refine z_auto rfl ?_
              refine z_jp rfl ?_
              refine z_auto rfl ?_
              refine z_jp rfl ?_
              refine z_auto rfl ?_
              refine z_jp rfl ?_
              refine z_auto rfl ?_
              refine z_br rfl (fun c2 => ?_) (fun c2 => ?_)
              · refine z_auto rfl ?_
                exact z_rt rfl (zPr_o (zRel_M (hK.tr hL) hRJ))
              · refine z_auto rfl ?_
                refine z_jp rfl ?_
                refine z_auto rfl ?_
                exact z_rt rfl (zPr_o (zRel_M (hK.tr hL) hRJ))
        | succ m ih =>
          intro i hi K hK u
          refine z_auto rfl ?_
          refine z_br rfl (fun c => ?_) (fun c => ?_)
          · exact absurd c (Int32.not_lt.mpr (nI_le (b := 20) (by omega) (by decide)))
          · refine z_auto rfl ?_
            refine z_st rfl ?_
            refine z_auto rfl ?_
            refine z_cl rfl (m_sw hS ((zFa.r hJ).tr (zFa.M hK)) (f := i) (by omega) (by decide) ((zFM_15 hK).trans ((zFr_15 hJ).trans h15)) ((zFM_14 hK).trans ((zFr_14 hJ).trans h14)) (fun L x hL h18 hw => ?_) (fun L x hL h18 hw => ?_))
            · refine z_auto rfl ?_
              rw [h18]
              refine z_auto rfl ?_
              refine z_st rfl ?_
              refine z_auto rfl ?_
              refine z_jp rfl ?_
              have h5 := ih (i + 1) (by omega) L (hK.tr hL) u
              rw [nI_succ] at h5
              refine z_auto rfl ?_
              refine z_jp rfl ?_
              exact h5
            · exact absurd (hl i (by omega)) hw
      exact loop e 0 (Nat.zero_add _) J zFM.rf _
    have loop : ∀ m i, i + m = e → ∀ J, zFr I J → ∀ rl rs, zW (d + 12) kX9_highest (zblk kX9_highest 2) [some (zr 9 0), some (zi (nI a)), some (zi (nI i))] [] J (zRR rl rs) (fun v1 I1 G1 => ∃ rl1 rs1, G1 = zRR rl1 rs1 ∧ zWm (d + 12) 147 [zr 10 0, zi (nI a)] I1 G1 (fun v2 I2 G2 => v1 = v2 ∧ zRel I2 ∧ ∃ rl2 rs2, G2 = zRR rl2 rs2)) := by
      intro m
      induction m with
      | zero =>
        intro i hi J hJ rl rs
        have : i = e := by omega
        subst this
        refine z_auto rfl ?_
        refine z_br rfl (fun c => ?_) (fun c => ?_)
        · have : i = 21 := by
            apply Classical.byContradiction
            intro q
            exact absurd c (Int32.not_lt.mpr (nI_le (b := 20) (by omega) (by decide)))
          subst this
          refine z_auto rfl ?_
          exact z_rt rfl (zPr_i (mrun J hJ))
        · refine z_auto rfl ?_
          refine z_cl rfl (c_sw hS hJ (fun K hK hw => ?_) (fun K hK hw => ?_))
          · rcases hb with q | q
            · subst q
              exact absurd (nI_lt (a := 20) (b := 21) (by decide) (by decide)) c
            · exact absurd hw q
          · refine z_auto rfl ?_
            refine z_st rfl ?_
            refine z_auto rfl ?_
            refine z_br rfl (fun c2 => ?_) (fun c2 => ?_)
            · have hi0 : i ≠ 0 := fun q => c2 (by rw [q]; rfl)
              have e1 : nI i - 1 = fHi i := by
                rw [fHi, if_neg hi0]
                obtain ⟨j, rfl⟩ : ∃ j, i = j + 1 := ⟨i - 1, by omega⟩
                rw [nI_succ, Int32.add_sub_cancel]
                rfl
              refine z_auto rfl ?_
              rw [e1]
              refine z_auto rfl ?_
              refine z_jp rfl ?_
              refine z_auto rfl ?_
              exact z_rt rfl (zPr_i (mrun K hK))
            · have hi0 : i = 0 := (nI_eq (a := i) (b := 0) (by omega) (by omega)).mp (Classical.not_not.mp c2)
              subst hi0
              refine z_auto rfl ?_
              refine z_jp rfl ?_
              refine z_auto rfl ?_
              exact z_rt rfl (zPr_i (mrun K hK))
      | succ m ih =>
        intro i hi J hJ rl rs
        refine z_auto rfl ?_
        refine z_br rfl (fun c => ?_) (fun c => ?_)
        · exact absurd c (Int32.not_lt.mpr (nI_le (b := 20) (by omega) (by decide)))
        · refine z_auto rfl ?_
          refine z_cl rfl (c_sw hS hJ (fun K hK hw => ?_) (fun K hK hw => ?_))
          · refine z_auto rfl ?_
            refine z_jp rfl ?_
            have h5 := ih (i + 1) (by omega) K hK (some (4, 0)) rs
            rw [nI_succ] at h5
            refine z_auto rfl ?_
            refine z_jp rfl ?_
            exact h5
          · exact absurd (hl i (by omega)) hw
    refine z_auto rfl ?_
    refine z_cl rfl (c_isSide_y ha ?_)
    refine z_auto rfl ?_
    refine z_jp rfl ?_
    refine z_auto rfl ?_
    refine z_jp rfl ?_
    exact loop e 0 (Nat.zero_add _) I zFr.rf rl rs
  · refine z_auto rfl ?_
    refine z_cl rfl (c_isSide_n hx1 ?_)
    refine z_auto rfl ?_
    refine z_st rfl ?_
    refine z_auto rfl ?_
    refine z_rt rfl (zPr_i (fun rl' rs' => ?_))
    refine z_auto rfl ?_
    refine z_cl rfl (m_isSide_n hx1 ?_)
    refine z_auto rfl ?_
    refine z_st rfl ?_
    refine z_auto rfl ?_
    exact z_rt rfl (zPr_o hR)
end
end
section
/-! count, trace -/
theorem n_lay2 (x : Int32) (n : Nat) : (∃ l, l < n ∧ x = nI l) ∨ (x < 0 ∨ nI n ≤ x) := by
  by_cases c : x < 0
  · exact Or.inr (Or.inl c)
  · obtain ⟨f, hf, rfl⟩ := nI_of c
    rcases Nat.lt_or_ge f n with q | q
    · exact Or.inl ⟨f, q, rfl⟩
    · exact Or.inr (Or.inr (nI_le q hf))
section
variable {d : Nat} {I : zMI} {rl rs : Option (Nat × Nat)} {Q : zPQ} {G : zMR} {n k t : Nat} {C : List zCl}
theorem m_in_z {x : Int32} {n : Nat} (hn : n < 2147483647) (h1 : ∀ l, l < n → x = nI l → Q (some (zi 1)) I G) (h0 : (x < 0 ∨ nI n ≤ x) → Q (some (zi 0)) I G) : zWm d 110 [zi x, zi 0, zi (nI n - 1)] I G Q := by
  rcases n_lay2 x n with ⟨l, hl, rfl⟩ | hx
  · obtain ⟨m, rfl⟩ : ∃ m, n = m + 1 := ⟨n - 1, by omega⟩
    rw [nI_succ, Int32.add_sub_cancel]
    exact m_in_y (lo := 0) (Nat.zero_le _) (by omega) (by omega) (h1 l hl rfl)
  · refine m_in_n ?_ (h0 hx)
    rcases hx with q | q
    · exact Or.inl q
    · rcases n with _ | n
      · exact Or.inr (Int32.lt_of_lt_of_le (by decide) q)
      · rw [show nI (n + 1) - 1 = nI n by rw [nI_succ, Int32.add_sub_cancel]]
        exact Or.inr (n_gt (by omega) q)
set_option maxHeartbeats 4000000 in
set_option maxRecDepth 100000 in
theorem p_trace (x1 : Int32) : zPr 89 171 [zi x1] := by
  intro d I rl rs hR
  have hR0 := hR
  obtain ⟨n, k, t, -, -, -, ⟨r, r1, r2, r3, r4⟩, -, -⟩ := hR0
  have mr : ∀ v : Int32, (∀ l, l < r → l < 20 → x1 = nI l → v = I 35 0 l) → ((x1 < 0 ∨ nI r ≤ x1 ∨ 20 ≤ x1) → v = -1) → ∀ rl' rs', zWm (d + 12) 171 [zr 10 0, zi x1] I (zRR rl' rs') (fun v2 I2 G2 => some (zi v) = v2 ∧ zRel I2 ∧ ∃ rl2 rs2, G2 = zRR rl2 rs2) := by
    intro v h1 h0 rl' rs'
    have nx : ∀ m : Nat, m < 2147483647 → (m ≤ r ∧ m ≤ 20 ∧ (m = r ∨ m = 20)) → zW (d + 12) kX10_trace (zblk kX10_trace 2) [some (zr 10 0), some (zi x1)] [zi (nI m), zi 0, zi x1] I (zRR rl' rs') (fun v2 I2 G2 => some (zi v) = v2 ∧ zRel I2 ∧ ∃ rl2 rs2, G2 = zRR rl2 rs2) := by
      intro m hm hm2
      refine z_auto rfl ?_
      refine z_cl rfl (m_in_z hm (fun l hl e => ?_) (fun hx => ?_))
      · have e1 := h1 l (by omega) (by omega) e
        subst e
        refine z_auto rfl ?_
        refine z_st rfl ?_
        refine z_auto rfl ?_
        refine z_ald (k := l) rfl rfl (by show l < 20; omega) ?_
        refine z_auto rfl ?_
        refine z_jp rfl ?_
        refine z_auto rfl ?_
        exact z_rt rfl (zPr_o2 (by rw [e1, r4 l (by omega) (by omega)]) hR)
      · have e1 := h0 (by
          rcases hx with q | q
          · exact Or.inl q
          · rcases hm2.2.2 with p | p
            · subst p; exact Or.inr (Or.inl q)
            · subst p; exact Or.inr (Or.inr q))
        refine z_auto rfl ?_
        refine z_jp rfl ?_
        refine z_auto rfl ?_
        refine z_jp rfl ?_
        refine z_auto rfl ?_
        exact z_rt rfl (zPr_o2 (by rw [e1]) hR)
    refine z_auto rfl ?_
    refine z_br rfl (fun c => ?_) (fun c => ?_)
    · rw [r3] at c
      have : 20 ≤ r := by
        apply Classical.byContradiction
        intro q
        exact absurd c (Int32.not_le.mpr (nI_lt (a := r) (b := 20) (by omega) (by decide)))
      refine z_auto rfl ?_
      refine z_jp rfl ?_
      exact nx 20 (by decide) ⟨this, by decide, Or.inr rfl⟩
    · rw [r3] at c
      have : ¬ 20 ≤ r := fun q => c (nI_le q r1)
      refine z_auto rfl ?_
      rw [r3]
      refine z_auto rfl ?_
      refine z_jp rfl ?_
      exact nx r (by omega) ⟨by omega, by omega, Or.inl rfl⟩
  refine z_auto rfl ?_
  refine z_br rfl (fun c => ?_) (fun c => ?_)
  · refine z_auto rfl ?_
    exact z_rt rfl (zPr_i (mr _ (fun l h1 h2 e => absurd c (by rw [e]; exact nI_pos (by omega))) (fun _ => rfl)))
  · refine z_auto rfl ?_
    refine z_br rfl (fun c2 => ?_) (fun c2 => ?_)
    · rw [r2] at c2
      refine z_auto rfl ?_
      exact z_rt rfl (zPr_i (mr _ (fun l h1 h2 e => absurd c2 (by rw [e]; exact Int32.not_le.mpr (nI_lt h1 r1))) (fun _ => rfl)))
    · rw [r2] at c2
      refine z_auto rfl ?_
      refine z_br rfl (fun c3 => ?_) (fun c3 => ?_)
      · obtain ⟨l, hl, rfl⟩ := nI_of c
        have hl20 : l < 20 := by
          apply Classical.byContradiction
          intro q
          exact absurd c3 (Int32.not_lt.mpr (nI_le (a := 20) (b := l) (by omega) hl))
        refine z_auto rfl ?_
        refine z_ald (k := l) rfl rfl (by show l < 20; omega) ?_
        have hlr : l < r := by
          apply Classical.byContradiction
          intro q
          exact c2 (nI_le (by omega) hl)
        refine z_auto rfl ?_
        exact z_rt rfl (zPr_i (mr _ (fun l' h1 h2 e => by rw [(nI_eq (a := l) (b := l') hl (by omega)).mp e]) (fun q => absurd q (by
          rintro (q | q | q)
          · exact nI_pos hl q
          · exact c2 q
          · exact absurd c3 (Int32.not_lt.mpr q)))))
      · refine z_auto rfl ?_
        refine z_jp rfl ?_
        refine z_auto rfl ?_
        exact z_rt rfl (zPr_i (mr _ (fun l h1 h2 e => absurd (by rw [e]; exact nI_lt (b := 20) h2 (by decide)) c3) (fun _ => rfl)))
end
end
section
/-! writing the layers: zRel anew -/
theorem zMS_of {s s' : Nat → Int32} {a : Nat} {C : List zCl} (h : ∀ k, 222 ≤ k → s' k = s k) (hM : zMS s a C) : zMS s' a C := by
  obtain ⟨q1, q2, q3, q4, q5, q6⟩ := hM
  refine ⟨?_, q2, fun k x hk => ?_, ?_, ?_, q6⟩
  · rw [h _ (by omega)]; exact q1
  · rw [h _ (by omega)]; exact q3 k x hk
  · rw [h _ (by omega)]; exact q4
  · rw [h _ (by omega)]; exact q5
theorem zbH_of {a7 a26 a27 a28 s s' : Nat → Int32} {q o X n : Nat} (h0 : s' q = s q) (h : ∀ k, o ≤ k → k < o + 24 → s' k = s k) (hH : zbH a7 a26 a27 a28 s q o X n) : zbH a7 a26 a27 a28 s' q o X n := by
  obtain ⟨h1, h2, h3, h4⟩ := hH
  refine ⟨h1, h0.trans h2, h3, fun i hi => ?_⟩
  obtain ⟨f, sd, x, r1, r2, r3, r4, r5⟩ := h4 i hi
  exact ⟨f, sd, x, r1, r2, by rw [h _ (by omega) (by omega)]; exact r3, by rw [h _ (by omega) (by omega)]; exact r4, by rw [h _ (by omega) (by omega)]; exact r5⟩
theorem zbT_of {a8 a29 s s' : Nat → Int32} {n : Nat} (h0 : s' 4 = s 4) (h : ∀ k, 122 ≤ k → k < 222 → s' k = s k) (hT : zbT a8 a29 s n) : zbT a8 a29 s' n := by
  obtain ⟨h1, h2, h3, h4⟩ := hT
  refine ⟨h1, h0.trans h2, h3, fun i hi => ?_⟩
  obtain ⟨x, r1, r2, r3⟩ := h4 i hi
  exact ⟨x, r1, r2, by rw [h _ (by omega) (by omega)]; exact r3⟩
theorem zbS_of {I J : zMI} {b : Nat} {s s' : Nat → Int32} {k : Nat} (h15 : J 1 b 5 = I 1 b 5) (hE : ∀ c j k, (c = 6 ∨ c = 30 ∨ c = 31 ∨ c = 32 ∨ c = 33) → J c j k = I c j k) (h1 : s' 1 = s 1) (h5 : s' 5 = s 5) (h : ∀ k, 222 ≤ k → s' k = s k) (hS : zbS I b s k) : zbS J b s' k := by
  obtain ⟨g1, g2, g3, g4, g5⟩ := hS
  refine ⟨h15.trans g1, h1.trans g2, g3, h5.trans g4, fun j hj => ?_⟩
  obtain ⟨C, c1, c2⟩ := g5 j hj
  exact ⟨C, zES_fr (fun c k hc => hE c _ k hc) c1, zMS_of h c2⟩
/-- only layers, the class's and the model's, are written -/
theorem zRel_L {I J : zMI} (hR : zRel I) (h : ∀ c i k, ¬ ((c = 4 ∨ (20 ≤ c ∧ c ≤ 25)) ∧ i = 0) → ¬ (c = 40 ∧ (k = 0 ∨ (9 ≤ k ∧ k < 74))) → J c i k = I c i k)
    (hL : ∀ n, zbL (I 4 0) (I 20 0) (I 21 0) (I 22 0) (I 23 0) (I 24 0) (I 25 0) (I 40 0) n → ∃ n', zbL (J 4 0) (J 20 0) (J 21 0) (J 22 0) (J 23 0) (J 24 0) (J 25 0) (J 40 0) n') : zRel J := by
  obtain ⟨n, k, t, ⟨b1, b2, b3, b4, b5, b6⟩, h2, h3, h4, h5, h6⟩ := hR
  obtain ⟨n', b1'⟩ := hL n b1
  have e : ∀ c i, ¬ ((c = 4 ∨ (20 ≤ c ∧ c ≤ 25)) ∧ i = 0) → c ≠ 40 → J c i = I c i := fun c i h1 h2 => funext (fun k => h c i k h1 (fun q => h2 q.1))
  have es : ∀ k, ¬ (k = 0 ∨ (9 ≤ k ∧ k < 74)) → J 40 0 k = I 40 0 k := fun k hk => h 40 0 k (by omega) (fun q => hk q.2)
  refine ⟨n', k, t, ⟨b1', ?_, ?_, ?_, ?_, ?_⟩, ?_, ?_, ?_, ?_, ?_⟩
  · exact zbS_of (h 1 0 5 (by omega) (by omega)) (fun c j k hc => h c j k (by omega) (by omega)) (es 1 (by omega)) (es 5 (by omega)) (fun k hk => es k (by omega)) b2
  · rw [e 7 _ (by omega) (by omega), e 26 _ (by omega) (by omega), e 27 _ (by omega) (by omega), e 28 _ (by omega) (by omega)]
    obtain ⟨m, hm⟩ := b3
    exact ⟨m, zbH_of (es 2 (by omega)) (fun k _ _ => es k (by omega)) hm⟩
  · rw [e 7 _ (by omega) (by omega), e 26 _ (by omega) (by omega), e 27 _ (by omega) (by omega), e 28 _ (by omega) (by omega)]
    obtain ⟨m, hm⟩ := b4
    exact ⟨m, zbH_of (es 3 (by omega)) (fun k _ _ => es k (by omega)) hm⟩
  · rw [e 8 _ (by omega) (by omega), e 29 _ (by omega) (by omega)]
    obtain ⟨m, hm⟩ := b5
    exact ⟨m, zbT_of (es 4 (by omega)) (fun k _ _ => es k (by omega)) hm⟩
  · rw [e 1 _ (by omega) (by omega), e 2 _ (by omega) (by omega)]
    obtain ⟨q1, q2, q3, q4, q5⟩ := b6
    exact ⟨q1, (es 6 (by omega)).trans q2, q3, q4.trans (es 7 (by omega)).symm, by rw [es 8 (by omega)]; exact q5⟩
  · exact zES_fr (fun c k hc => h c _ k (by omega) (by omega)) h2
  · rw [e 9 0 (by omega) (by omega), e 10 0 (by omega) (by omega), e 41 0 (by omega) (by omega)]
    rcases h3 with q | ⟨q1, q2, n', k', t', ⟨d1, d2, d3, d4, d5, d6⟩, q4⟩
    · exact Or.inl q
    · refine Or.inr ⟨q1, q2, n', k', t', ⟨?_, zbS_of (h 1 1 5 (by omega) (by omega)) (fun c j k hc => h c j k (by omega) (by omega)) rfl rfl (fun _ _ => rfl) d2, ?_, ?_, ?_, ?_⟩, q4⟩
      · rw [e 4 1 (by omega) (by omega), e 20 1 (by omega) (by omega), e 21 1 (by omega) (by omega), e 22 1 (by omega) (by omega), e 23 1 (by omega) (by omega), e 24 1 (by omega) (by omega), e 25 1 (by omega) (by omega)]
        exact d1
      · rw [e 7 _ (by omega) (by omega), e 26 _ (by omega) (by omega), e 27 _ (by omega) (by omega), e 28 _ (by omega) (by omega)]
        exact d3
      · rw [e 7 _ (by omega) (by omega), e 26 _ (by omega) (by omega), e 27 _ (by omega) (by omega), e 28 _ (by omega) (by omega)]
        exact d4
      · rw [e 8 _ (by omega) (by omega), e 29 _ (by omega) (by omega)]
        exact d5
      · rw [e 1 _ (by omega) (by omega), e 2 _ (by omega) (by omega)]
        exact d6
  · rw [e 0 0 (by omega) (by omega), e 10 0 (by omega) (by omega), e 35 0 (by omega) (by omega), e 45 0 (by omega) (by omega)]
    exact h4
  · rw [e 10 0 (by omega) (by omega)]; exact h5
  · rw [e 10 0 (by omega) (by omega)]; exact h6
set_option maxHeartbeats 4000000 in
set_option maxRecDepth 100000 in
theorem p_side (x1 x2 : Int32) : zPr 69 133 [zi x1, zi x2] := by
  intro d I rl rs hR
  have hR0 := hR
  obtain ⟨n, k, t, ⟨b1, b2, b3, b4, b5, b6⟩, -, -, -, -, -⟩ := hR0
  have hn := b1.1
  have hm := b1.2.1
  have h8 := b1.2.2.1
  rcases n_lay x1 n h8 with ⟨l, hl, rfl⟩ | hx1
  · rcases n_cases x2 3 (by decide) with ⟨a, ha, rfl⟩ | hx2
    · obtain ⟨kd, v, th, w, sd, -, ⟨-, -, -, -, p4⟩, -, -, -, -, r5⟩ := b1.2.2.2.1 l hl
      refine z_auto rfl ?_
      refine z_cl rfl (c_has_y hn h8 hl ?_)
      refine z_auto rfl ?_
      refine z_st rfl ?_
      refine z_auto rfl ?_
      refine z_cl rfl (c_isSide_y ha ?_)
      refine z_auto rfl ?_
      refine z_jp rfl ?_
      refine z_auto rfl ?_
      refine z_ald (k := l) rfl rfl (by show l < 8; omega) ?_
      refine z_auto rfl ?_
      refine z_ast (k := l) rfl rfl (by show l < 8; omega) ?_
      refine z_auto rfl ?_
      refine z_rt rfl (zPr_i (fun rl' rs' => ?_))
      refine z_auto rfl ?_
      refine z_cl rfl (m_isLayer_y (by rw [zup_c (by decide)]; exact hm) h8 hl ?_)
      refine z_auto rfl ?_
      refine z_st rfl ?_
      refine z_auto rfl ?_
      refine z_cl rfl (m_isSide_y ha ?_)
      refine z_auto rfl ?_
      refine z_jp rfl ?_
      refine z_auto rfl ?_
      refine z_ald (k := (42 + l)) rfl (nI_add 42 l) (by show 42 + l < 937; omega) ?_
      refine z_auto rfl ?_
      refine z_ast (k := (42 + l)) rfl (nI_add 42 l) (by show 42 + l < 937; omega) ?_
      refine z_auto rfl ?_
      refine z_rt rfl (zPr_o2 (by rw [zup_c (by decide), p4, r5]) (zRel_L hR ?_ ?_))
      · intro c i k h1 h2
        unfold zup
        rw [if_neg (by omega), if_neg (by omega)]
      · intro n' hL
        obtain ⟨g1, g2, g3, g4, g5, g6, g7, g8⟩ := hL
        have hln : l < n' := by
          have := g1.symm.trans hn
          rw [(nI_eq (a := n') (b := n) (by omega) (by omega)).mp this]
          exact hl
        obtain ⟨J, hJ⟩ : ∃ J, J = zup (zup I 24 0 l (nI a)) 40 0 (42 + l) (nI a) := ⟨_, rfl⟩
        rw [← hJ]
        have A : ∀ c i k, c ≠ 24 → c ≠ 40 → J c i k = I c i k := fun c i k h1 h2 => by rw [hJ, zup_c h2, zup_c h1]
        have B : ∀ k, k ≠ 42 + l → J 40 0 k = I 40 0 k := fun k h1 => by rw [hJ, zup_k h1, zup_c (by decide)]
        have B1 : J 40 0 (42 + l) = nI a := by rw [hJ, zup_eq]
        have D : ∀ i, i ≠ l → J 24 0 i = I 24 0 i := fun i h1 => by rw [hJ, zup_c (by decide), zup_k h1]
        have D1 : J 24 0 l = nI a := by rw [hJ, zup_c (by decide), zup_eq]
        clear hJ
        refine ⟨n', (A 4 0 7 (by decide) (by decide)).trans g1, (B 0 (by omega)).trans g2, g3, fun i hi => ?_, fun i x hi hx => ?_, fun x h1 h2 => (A 25 0 x (by decide) (by decide)).trans (g6 x h1 h2), ?_, fun i hi => ?_⟩
        · obtain ⟨kd, v, th, w, sd, q, ⟨p0, p1, p2, p3, p4⟩, r1, r2, r3, r4, r5⟩ := g4 i hi
          rw [A 20 0 i (by decide) (by decide), A 21 0 i (by decide) (by decide), A 22 0 i (by decide) (by decide), A 23 0 i (by decide) (by decide), B (10 + i) (by omega), B (18 + i) (by omega), B (26 + i) (by omega), B (34 + i) (by omega)]
          by_cases e : i = l
          · subst e
            exact ⟨kd, v, th, w, a, by omega, ⟨p0, p1, p2, p3, D1⟩, r1, r2, r3, r4, B1⟩
          · rw [D i e, B (42 + i) (by omega)]
            exact ⟨kd, v, th, w, sd, q, ⟨p0, p1, p2, p3, p4⟩, r1, r2, r3, r4, r5⟩
        · rw [A 25 0 _ (by decide) (by decide), B _ (by omega)]
          exact g5 i x hi hx
        · rw [A 4 0 6 (by decide) (by decide), B 9 (by omega)]
          exact g7
        · rw [B 9 (by omega)]
          exact g8 i hi
    · refine z_auto rfl ?_
      refine z_cl rfl (c_has_y hn h8 hl ?_)
      refine z_auto rfl ?_
      refine z_st rfl ?_
      refine z_auto rfl ?_
      refine z_cl rfl (c_isSide_n hx2 ?_)
      refine z_auto rfl ?_
      refine z_st rfl ?_
      refine z_auto rfl ?_
      refine z_jp rfl ?_
      refine z_auto rfl ?_
      refine z_rt rfl (zPr_i (fun rl' rs' => ?_))
      refine z_auto rfl ?_
      refine z_cl rfl (m_isLayer_y hm h8 hl ?_)
      refine z_auto rfl ?_
      refine z_st rfl ?_
      refine z_auto rfl ?_
      refine z_cl rfl (m_isSide_n hx2 ?_)
      refine z_auto rfl ?_
      refine z_st rfl ?_
      refine z_auto rfl ?_
      refine z_jp rfl ?_
      refine z_auto rfl ?_
      exact z_rt rfl (zPr_o hR)
  · refine z_auto rfl ?_
    refine z_cl rfl (c_has_n hn h8 hx1 ?_)
    refine z_auto rfl ?_
    refine z_jp rfl ?_
    refine z_auto rfl ?_
    refine z_rt rfl (zPr_i (fun rl' rs' => ?_))
    refine z_auto rfl ?_
    refine z_cl rfl (m_isLayer_n hm h8 hx1 ?_)
    refine z_auto rfl ?_
    refine z_jp rfl ?_
    refine z_auto rfl ?_
    exact z_rt rfl (zPr_o hR)
end
section
/-! writing egg, try, broken: zRel anew -/
theorem zRel_D {I J : zMI} (hR : zRel I) (h : ∀ c i k, ¬ (c = 2 ∧ i = 0) → ¬ (c = 1 ∧ i = 0 ∧ k = 6) → ¬ (c = 4 ∧ i = 0 ∧ k = 6) → ¬ (c = 40 ∧ 6 ≤ k ∧ k ≤ 9) → J c i k = I c i k)
    (hE : ∀ t, zbE (I 1 0) (I 2 0) (I 40 0) t → ∃ t', zbE (J 1 0) (J 2 0) (J 40 0) t')
    (hB : ∀ n, I 40 0 0 = nI n → n ≤ 8 → I 4 0 6 = I 40 0 9 → (∀ i, n ≤ i → bt (I 40 0 9) i = false) → J 4 0 6 = J 40 0 9 ∧ ∀ i, n ≤ i → bt (J 40 0 9) i = false) : zRel J := by
  obtain ⟨n, k, t, ⟨b1, b2, b3, b4, b5, b6⟩, h2, h3, h4, h5, h6⟩ := hR
  obtain ⟨t', b6'⟩ := hE t b6
  have e : ∀ c i, ¬ ((c = 1 ∨ c = 2 ∨ c = 4) ∧ i = 0) → c ≠ 40 → J c i = I c i := fun c i h1 h2 => funext (fun k => h c i k (by omega) (by omega) (by omega) (by omega))
  have es : ∀ k, ¬ (6 ≤ k ∧ k ≤ 9) → J 40 0 k = I 40 0 k := fun k hk => h 40 0 k (by omega) (by omega) (by omega) (fun q => hk q.2)
  refine ⟨n, k, t', ⟨?_, ?_, ?_, ?_, ?_, b6'⟩, ?_, ?_, ?_, ?_, ?_⟩
  · obtain ⟨g1, g2, g3, g4, g5, g6, g7, g8⟩ := b1
    obtain ⟨g7', g8'⟩ := hB n g2 g3 g7 g8
    rw [e 20 0 (by omega) (by omega), e 21 0 (by omega) (by omega), e 22 0 (by omega) (by omega), e 23 0 (by omega) (by omega), e 24 0 (by omega) (by omega), e 25 0 (by omega) (by omega)]
    refine ⟨(h 4 0 7 (by omega) (by omega) (by omega) (by omega)).trans g1, (es 0 (by omega)).trans g2, g3, fun i hi => ?_, fun i x hi hx => ?_, g6, g7', g8'⟩
    · rw [es _ (by omega), es _ (by omega), es _ (by omega), es _ (by omega), es _ (by omega)]
      exact g4 i hi
    · rw [es _ (by omega)]
      exact g5 i x hi hx
  · exact zbS_of (h 1 0 5 (by omega) (by omega) (by omega) (by omega)) (fun c j k hc => h c j k (by omega) (by omega) (by omega) (by omega)) (es 1 (by omega)) (es 5 (by omega)) (fun k hk => es k (by omega)) b2
  · rw [e 7 _ (by omega) (by omega), e 26 _ (by omega) (by omega), e 27 _ (by omega) (by omega), e 28 _ (by omega) (by omega)]
    obtain ⟨m, hm⟩ := b3
    exact ⟨m, zbH_of (es 2 (by omega)) (fun k _ _ => es k (by omega)) hm⟩
  · rw [e 7 _ (by omega) (by omega), e 26 _ (by omega) (by omega), e 27 _ (by omega) (by omega), e 28 _ (by omega) (by omega)]
    obtain ⟨m, hm⟩ := b4
    exact ⟨m, zbH_of (es 3 (by omega)) (fun k _ _ => es k (by omega)) hm⟩
  · rw [e 8 _ (by omega) (by omega), e 29 _ (by omega) (by omega)]
    obtain ⟨m, hm⟩ := b5
    exact ⟨m, zbT_of (es 4 (by omega)) (fun k _ _ => es k (by omega)) hm⟩
  · exact zES_fr (fun c k hc => h c _ k (by omega) (by omega) (by omega) (by omega)) h2
  · rw [e 9 0 (by omega) (by omega), e 10 0 (by omega) (by omega), e 41 0 (by omega) (by omega)]
    rcases h3 with q | ⟨q1, q2, n', k', t', ⟨d1, d2, d3, d4, d5, d6⟩, q4⟩
    · exact Or.inl q
    · refine Or.inr ⟨q1, q2, n', k', t', ⟨?_, zbS_of (h 1 1 5 (by omega) (by omega) (by omega) (by omega)) (fun c j k hc => h c j k (by omega) (by omega) (by omega) (by omega)) rfl rfl (fun _ _ => rfl) d2, ?_, ?_, ?_, ?_⟩, q4⟩
      · rw [e 4 1 (by omega) (by omega), e 20 1 (by omega) (by omega), e 21 1 (by omega) (by omega), e 22 1 (by omega) (by omega), e 23 1 (by omega) (by omega), e 24 1 (by omega) (by omega), e 25 1 (by omega) (by omega)]
        exact d1
      · rw [e 7 _ (by omega) (by omega), e 26 _ (by omega) (by omega), e 27 _ (by omega) (by omega), e 28 _ (by omega) (by omega)]
        exact d3
      · rw [e 7 _ (by omega) (by omega), e 26 _ (by omega) (by omega), e 27 _ (by omega) (by omega), e 28 _ (by omega) (by omega)]
        exact d4
      · rw [e 8 _ (by omega) (by omega), e 29 _ (by omega) (by omega)]
        exact d5
      · rw [e 1 _ (by omega) (by omega), e 2 _ (by omega) (by omega)]
        exact d6
  · rw [e 0 0 (by omega) (by omega), e 10 0 (by omega) (by omega), e 35 0 (by omega) (by omega), e 45 0 (by omega) (by omega)]
    exact h4
  · rw [e 10 0 (by omega) (by omega)]; exact h5
  · rw [e 10 0 (by omega) (by omega)]; exact h6
set_option maxHeartbeats 4000000 in
set_option maxRecDepth 100000 in
theorem p_egg : zPr 72 136 [] := by
  intro d I rl rs hR
  have hR0 := hR
  obtain ⟨n, k, t, ⟨-, -, -, -, -, ⟨e1, e2, e3, e4, e5⟩⟩, -, -, -, -, -⟩ := hR0
  have fin : zRel (zup (zup (zup (zup I 2 0 0 0) 2 0 1 1) 40 0 8 0) 40 0 7 0) := by
    refine zRel_D hR (fun c i k h1 h2 h3 h4 => ?_) (fun t hE => ?_) (fun n g1 g2 g3 g4 => ?_)
    · unfold zup
      rw [if_neg (by omega), if_neg (by omega), if_neg (by omega), if_neg (by omega)]
    · obtain ⟨e1, e2, e3, e4, e5⟩ := hE
      refine ⟨t, ?_, ?_, e3, ?_, Or.inl ⟨?_, ?_⟩⟩
      · rw [zup_c (by decide), zup_c (by decide), zup_c (by decide), zup_c (by decide)]; exact e1
      · rw [zup_k (by decide), zup_k (by decide), zup_c (by decide), zup_c (by decide)]; exact e2
      · rw [zup_c (by decide), zup_c (by decide), zup_k (by decide), zup_eq, zup_eq]
      · rw [zup_c (by decide), zup_c (by decide), zup_eq]
      · rw [zup_k (by decide), zup_eq]
    · rw [zup_c (by decide), zup_c (by decide), zup_c (by decide), zup_c (by decide), zup_k (by decide), zup_k (by decide), zup_c (by decide), zup_c (by decide)]
      exact ⟨g3, g4⟩
  have mrun : ∀ v : Int32, (v = if I 40 0 8 = 1 then -5 else I 40 0 7) → ∀ rl' rs', zWm (d + 12) 136 [zr 10 0] (zup (zup I 2 0 0 0) 2 0 1 1) (zRR rl' rs') (fun v2 I2 G2 => some (zi v) = v2 ∧ zRel I2 ∧ ∃ rl2 rs2, G2 = zRR rl2 rs2) := by
    intro v hv rl' rs'
    refine z_auto rfl ?_
    refine z_ald (k := 8) rfl rfl (by decide) ?_
    rw [zup_c (by decide), zup_c (by decide)]
    refine z_auto rfl ?_
    refine z_br rfl (fun c => ?_) (fun c => ?_)
    · refine z_auto rfl ?_
      refine z_ald (k := 7) rfl rfl (by decide) ?_
      rw [zup_c (by decide), zup_c (by decide)]
      refine z_auto rfl ?_
      refine z_jp rfl ?_
      refine z_auto rfl ?_
      refine z_ast (k := 8) rfl rfl (by decide) ?_
      refine z_auto rfl ?_
      refine z_ast (k := 7) rfl rfl (by decide) ?_
      refine z_auto rfl ?_
      exact z_rt rfl (zPr_o2 (by rw [hv, if_neg c]) fin)
    · refine z_auto rfl ?_
      refine z_jp rfl ?_
      refine z_auto rfl ?_
      refine z_ast (k := 8) rfl rfl (by decide) ?_
      refine z_auto rfl ?_
      refine z_ast (k := 7) rfl rfl (by decide) ?_
      refine z_auto rfl ?_
      exact z_rt rfl (zPr_o2 (by rw [hv, if_pos (Classical.not_not.mp c)]) fin)
  refine z_auto rfl ?_
  refine z_br rfl (fun c => ?_) (fun c => ?_)
  · refine z_auto rfl ?_
    refine z_jp rfl ?_
    refine z_auto rfl ?_
    refine z_cl rfl (s_renew ?_)
    refine z_auto rfl ?_
    exact z_rt rfl (zPr_i (mrun _ (by
      rcases e5 with q | q
      · rw [q.1] at c; exact absurd c (by decide)
      · rw [if_pos q.2])))
  · refine z_auto rfl ?_
    refine z_jp rfl ?_
    refine z_auto rfl ?_
    refine z_cl rfl (s_renew ?_)
    refine z_auto rfl ?_
    exact z_rt rfl (zPr_i (mrun _ (by
      rcases e5 with q | q
      · rw [q.2, if_neg (by decide), e4]
      · exact absurd q.1 c)))
end
section
/-! drop, broken -/
section
variable {d : Nat} {I : zMI} {rl rs : Option (Nat × Nat)} {Q : zPQ} {G : zMR} {n k t : Nat} {C : List zCl}
set_option maxHeartbeats 4000000 in
set_option maxRecDepth 100000 in
theorem m_fm {M : zMI} (hS : zSt8 I C n k t) (h40 : M 40 0 = I 40 0) {ad f : Nat} (hf : f ≤ 20) (hd : ad ≤ 100) (h15 : M 10 0 15 = nI ad) {out a : Int32} (h14 : M 10 0 14 = out)
    (h : ∀ K : zMI, zFM M K → K 10 0 19 = (fAll I C n t (nI f) a (nI ad) out).1 → K 10 0 16 = (fAll I C n t (nI f) a (nI ad) out).2.1.2.2 → (K 10 0 17, K 10 0 18) = fEg I C n t (nI f) a (nI ad) out (zlast C 0 20) (I 2 0 0, I 2 0 1) → Q (some (zi (fFo I C n t (nI f) a (nI ad) out))) K (zRR rl rs)) : zWm (d + 3) 144 [zr 10 0, zi (nI f), zi a] M (zRR rl rs) Q := by
  obtain ⟨hb, hC, hH⟩ := hS
  obtain ⟨h1, ⟨g1, g2, g3, g4, g5⟩, -, -, -, ⟨e1, e2, e3, e4, e5⟩⟩ := hb
  have hall := r_all h1 (t := t) (e1.trans e2.symm) (C := C) (f := nI f) (a := a) (add := nI ad) (out := out)
  obtain ⟨b, hb, eb⟩ := r_bl (s := I 40 0) (C := C) (n := n) (f := f) (ad := ad) (t := t) (ld := fLd C a (nI f)) (out := out) hC.2.2.1.2.2.2.1 hC.2.2.1.2.1 h1.2.2.1 (fun k hk => by
    obtain ⟨kd, v, th, w, sd, ⟨q1, q2, q3, q4, q5, q6⟩, -, r1, r2, r3, r4, r5⟩ := h1.2.2.2.1 k hk
    exact ⟨w, q5, r4⟩) hf hd e2 e3
  have hbl : 0 ≤ fBl C (nI f) (fLd C a (nI f)) (zww (fun k => I 40 0 (34 + k)) out n / 10) (I 40 0 6 - I 40 0 6 / 10 * 10) (nI ad) := by
    rw [eb]
    exact nI_pos' (by omega)
  have hw : zww (I 23 0) out n = zww (fun k => I 40 0 (34 + k)) out n := zww_cong n (fun k hk => by
    obtain ⟨kd, v, th, w, sd, q, ⟨p0, p1, p2, p3, p4⟩, r1, r2, r3, r4, r5⟩ := h1.2.2.2.1 k hk
    exact p3.trans r4.symm)
  have hfo : fFo I C n t (nI f) a (nI ad) out = mFo (mAll (I 40 0) C n t (nI f) a (nI ad) out) := by
    rw [r_fo (by rw [hw, e1, ← e2]; exact hbl), hall]
  have heg : (I 2 0 0, I 2 0 1) = (I 40 0 7, if I 40 0 8 = 0 then (1 : Int32) else 0) := by
    rw [e4]
    rcases e5 with ⟨q1, q2⟩ | ⟨q1, q2⟩
    · rw [q1, q2]; rfl
    · rw [q1, q2]; rfl
  rw [hfo, heg] at h
  unfold fEg at h
  rw [hall] at h
  refine m_fallsNow (C := C) (n := n) (t := t) (by rw [h40]; exact hH) (by rw [h40]; exact h1.2.1) h1.2.2.1 (by omega) (by rw [h40]; exact e2) (by rw [h40]; exact r_Ab h1 t) (by rw [h40, h15, h14]; exact hbl) ?_
  rw [h40, h15, h14]
  intro K hK _ q1 q2 q3
  exact h K hK q1 q2 q3
set_option maxHeartbeats 4000000 in
set_option maxRecDepth 100000 in
theorem p_broken (x1 : Int32) {b : Int32} (hb : b = 0 ∨ b = 1) : zPr 70 134 [zi x1, zi b] := by
  intro d I rl rs hR
  have hR0 := hR
  obtain ⟨n, k, t, ⟨b1, b2, b3, b4, b5, b6⟩, -, -, -, -, -⟩ := hR0
  have hn := b1.1
  have hm := b1.2.1
  have h8 := b1.2.2.1
  have h9 := b1.2.2.2.2.2.2.1
  rcases n_lay x1 n h8 with ⟨l, hl, rfl⟩ | hx1
  · have hl32 : l < 32 := by omega
    have fin : ∀ x, (∀ i, n ≤ i → bt x i = false) → zRel (zup (zup I 4 0 6 x) 40 0 9 x) := by
      intro x hx
      refine zRel_D hR (fun c i k h1 h2 h3 h4 => ?_) (fun t hE => ?_) (fun n' g1 g2 g3 g4 => ?_)
      · unfold zup
        rw [if_neg (by omega), if_neg (by omega)]
      · obtain ⟨e1, e2, e3, e4, e5⟩ := hE
        refine ⟨t, ?_, ?_, e3, ?_, ?_⟩
        · rw [zup_c (by decide), zup_c (by decide)]; exact e1
        · rw [zup_k (by decide), zup_c (by decide)]; exact e2
        · rw [zup_c (by decide), zup_c (by decide), zup_k (by decide), zup_c (by decide)]; exact e4
        · rw [zup_c (by decide), zup_c (by decide), zup_k (by decide), zup_c (by decide)]; exact e5
      · rw [zup_c (by decide), zup_eq, zup_eq]
        refine ⟨rfl, fun i hi => hx i ?_⟩
        rw [(nI_eq (a := n) (b := n') (by omega) (by omega)).mp (hm.symm.trans g1)]
        exact hi
    have hor : ∀ i, n ≤ i → bt (I 40 0 9 ||| (1 <<< (nI l &&& 31))) i = false := by
      intro i hi
      rw [b_or, b1.2.2.2.2.2.2.2 i hi]
      by_cases q : i < 32
      · rw [b_sh1 l hl32 q]
        simp
        omega
      · rw [b_big (by omega)]; rfl
    have hand : ∀ i, n ≤ i → bt (I 40 0 9 &&& ((1 <<< (nI l &&& 31)) ^^^ (-1))) i = false := by
      intro i hi
      rw [b_and, b1.2.2.2.2.2.2.2 i hi]
      rfl
    have mrun : ∀ (v x : Int32), (v = (I 40 0 9 >>> (nI l &&& 31)) &&& 1) → ((¬ b = 0 ∧ x = I 40 0 9 ||| (1 <<< (nI l &&& 31))) ∨ (b = 0 ∧ x = I 40 0 9 &&& ((1 <<< (nI l &&& 31)) ^^^ (-1)))) → ∀ rl' rs', zWm (d + 12) 134 [zr 10 0, zi (nI l), zi b] (zup I 4 0 6 x) (zRR rl' rs') (fun v2 I2 G2 => some (zi v) = v2 ∧ zRel I2 ∧ ∃ rl2 rs2, G2 = zRR rl2 rs2) := by
      intro v x hv hx rl' rs'
      refine z_auto rfl ?_
      refine z_cl rfl (m_isLayer_y (by rw [zup_c (by decide)]; exact hm) h8 hl ?_)
      refine z_auto rfl ?_
      refine z_jp rfl ?_
      refine z_auto rfl ?_
      refine z_ald (k := 9) rfl rfl (by decide) ?_
      rw [zup_c (by decide)]
      refine z_auto rfl ?_
      refine z_br rfl (fun c => ?_) (fun c => ?_)
      · rcases hx with q | q
        · exact absurd c q.1
        · refine z_auto rfl ?_
          refine z_ald (k := 9) rfl rfl (by decide) ?_
          rw [zup_c (by decide)]
          refine z_auto rfl ?_
          rw [← q.2]
          refine z_auto rfl ?_
          refine z_jp rfl ?_
          refine z_auto rfl ?_
          refine z_ast (k := 9) rfl rfl (by decide) ?_
          refine z_auto rfl ?_
          exact z_rt rfl (zPr_o2 (by rw [hv]) (fin x (by rw [q.2]; exact hand)))
      · rcases hx with q | q
        · refine z_auto rfl ?_
          refine z_ald (k := 9) rfl rfl (by decide) ?_
          rw [zup_c (by decide)]
          refine z_auto rfl ?_
          rw [← q.2]
          refine z_auto rfl ?_
          refine z_jp rfl ?_
          refine z_auto rfl ?_
          refine z_ast (k := 9) rfl rfl (by decide) ?_
          refine z_auto rfl ?_
          exact z_rt rfl (zPr_o2 (by rw [hv]) (fin x (by rw [q.2]; exact hor)))
        · exact absurd q.1 c
    refine z_auto rfl ?_
    refine z_cl rfl (c_has_y hn h8 hl ?_)
    refine z_auto rfl ?_
    refine z_jp rfl ?_
    refine z_auto rfl ?_
    refine z_cl rfl (s_isBroken (fun q1 => ?_) (fun q1 => ?_))
    · rw [h9] at q1
      refine z_auto rfl ?_
      refine z_cl rfl (s_mark (fun q2 => ?_) (fun q2 => ?_))
      · rw [h9]
        refine z_auto rfl ?_
        refine z_st rfl ?_
        refine z_auto rfl ?_
        refine z_jp rfl ?_
        refine z_auto rfl ?_
        exact z_rt rfl (zPr_i (mrun 1 _ q1.symm (Or.inl ⟨q2, rfl⟩)))
      · rw [h9]
        refine z_auto rfl ?_
        refine z_st rfl ?_
        refine z_auto rfl ?_
        refine z_jp rfl ?_
        refine z_auto rfl ?_
        exact z_rt rfl (zPr_i (mrun 1 _ q1.symm (Or.inr ⟨q2, rfl⟩)))
    · rw [h9] at q1
      have q0 : (I 40 0 9 >>> (nI l &&& 31)) &&& 1 = 0 := (b_bit0 _ hl32).mpr (by
        have : ¬ bt (I 40 0 9) l = true := fun q => q1 ((b_bit1 _ hl32).mpr q)
        simpa using this)
      refine z_auto rfl ?_
      refine z_cl rfl (s_mark (fun q2 => ?_) (fun q2 => ?_))
      · rw [h9]
        refine z_auto rfl ?_
        refine z_jp rfl ?_
        refine z_auto rfl ?_
        refine z_jp rfl ?_
        refine z_auto rfl ?_
        exact z_rt rfl (zPr_i (mrun 0 _ q0.symm (Or.inl ⟨q2, rfl⟩)))
      · rw [h9]
        refine z_auto rfl ?_
        refine z_jp rfl ?_
        refine z_auto rfl ?_
        refine z_jp rfl ?_
        refine z_auto rfl ?_
        exact z_rt rfl (zPr_i (mrun 0 _ q0.symm (Or.inr ⟨q2, rfl⟩)))
  · refine z_auto rfl ?_
    refine z_cl rfl (c_has_n hn h8 hx1 ?_)
    refine z_auto rfl ?_
    refine z_st rfl ?_
    refine z_auto rfl ?_
    refine z_rt rfl (zPr_i (fun rl' rs' => ?_))
    refine z_auto rfl ?_
    refine z_cl rfl (m_isLayer_n hm h8 hx1 ?_)
    refine z_auto rfl ?_
    refine z_st rfl ?_
    refine z_auto rfl ?_
    exact z_rt rfl (zPr_o hR)
end
end
section
/-! drop -/
theorem gFt_bits {A : Nat → Nat → Int32} {fl sd out : Int32} {N : Nat} : ∀ (n : Nat) (s : Int32 × Int32), n ≤ N → n ≤ 8 → (∀ i, N ≤ i → bt s.2 i = false) → ∀ i, N ≤ i → bt (gFt A fl sd out n s).2 i = false
  | 0, _, _, _, h => h
  | n + 1, s, hn, h8, h => by
    have h2 := gFt_bits (A := A) (fl := fl) (sd := sd) (out := out) n s (by omega) (by omega) h
    intro i hi
    rw [gFt, gFs]
    split
    · dsimp only
      split
      · rw [b_or, h2 i hi]
        by_cases q : i < 32
        · rw [b_sh1 n (by omega) q]
          simp
          omega
        · rw [b_big (by omega)]; rfl
      · exact h2 i hi
    · exact h2 i hi
theorem fAll_bits {I : zMI} {C : List zCl} {n t : Nat} {f a add out : Int32} (h8 : n ≤ 8) (h : ∀ i, n ≤ i → bt (I 4 0 6) i = false) : ∀ i, n ≤ i → bt (fAll I C n t f a add out).2.1.2.2 i = false := by
  unfold fAll
  dsimp only
  unfold fFl
  split
  · exact gFt_bits n _ (Nat.le_refl _) h8 h
  · exact gFt_bits n _ (Nat.le_refl _) h8 (gFt_bits n _ (Nat.le_refl _) h8 h)
theorem zup_ne {I : zMI} {c i k c' i' k' : Nat} {v : Int32} (h : ¬ (c = c' ∧ i = i' ∧ k = k')) : zup I c' i' k' v c i k = I c i k := if_neg h
/-- a fall that is kept -/
theorem zRel_drop {I F : zMI} (hR : zRel I) {n t : Nat} (hn : I 40 0 0 = nI n) (h8 : n ≤ 8) (ht : t < 9999) {A W B : Int32} (hB : ∀ i, n ≤ i → bt B i = false) (hW : W = 0 ∨ W = 1)
    (h : ∀ c i k, c ≠ 3 → c ≠ 34 → c ≠ 42 → c ≠ 43 → c ≠ 44 → c ≠ 51 → (c ≠ 2 ∨ i ≠ 2) → (c ≠ 10 ∨ (k < 11 ∨ 20 ≤ k)) → ¬ (c = 2 ∧ i = 0) → ¬ (c = 1 ∧ i = 0 ∧ k = 6) → ¬ (c = 4 ∧ i = 0 ∧ k = 6) → ¬ (c = 40 ∧ 6 ≤ k ∧ k ≤ 9) → F c i k = I c i k)
    (f14 : F 10 0 14 = 0) (f15 : F 10 0 15 = 0) (e1 : F 1 0 6 = nI (t + 1)) (e2 : F 40 0 6 = nI (t + 1)) (e3 : F 2 0 0 = A) (e4 : F 40 0 7 = A) (e5 : F 2 0 1 = W) (e6 : F 40 0 8 = if W = 0 then 1 else 0) (e7 : F 4 0 6 = B) (e8 : F 40 0 9 = B) : zRel F := by
  let X : zMI := fun c i k => if (c = 2 ∧ i = 0) ∨ (c = 1 ∧ i = 0 ∧ k = 6) ∨ (c = 4 ∧ i = 0 ∧ k = 6) ∨ (c = 40 ∧ 6 ≤ k ∧ k ≤ 9) then I c i k else F c i k
  have hX : ∀ c i k, X c i k = if (c = 2 ∧ i = 0) ∨ (c = 1 ∧ i = 0 ∧ k = 6) ∨ (c = 4 ∧ i = 0 ∧ k = 6) ∨ (c = 40 ∧ 6 ≤ k ∧ k ≤ 9) then I c i k else F c i k := fun _ _ _ => rfl
  clear_value X
  have hXI : zFa I X := by
    intro c i k a1 a2 a3 a4 a5 a6 a7 a8
    rw [hX]
    split
    · rfl
    · exact h c i k a1 a2 a3 a4 a5 a6 a7 a8 (by omega) (by omega) (by omega) (by omega)
  have hRX : zRel X := zRel_fr hXI (by rw [hX, if_neg (by omega)]; exact f14) (by rw [hX, if_neg (by omega)]; exact f15) hR
  refine zRel_D hRX (fun c i k h1 h2 h3 h4 => ?_) (fun t' _ => ?_) (fun n' g1 g2 g3 g4 => ?_)
  · rw [hX, if_neg (by omega)]
  · refine ⟨t + 1, e1, e2, by omega, e3.trans e4.symm, ?_⟩
    rcases hW with q | q
    · exact Or.inr ⟨by rw [e5, q], by rw [e6, q]; rfl⟩
    · exact Or.inl ⟨by rw [e5, q], by rw [e6, q]; rfl⟩
  · refine ⟨e7.trans e8.symm, fun i hi => ?_⟩
    rw [e8]
    apply hB
    have : X 40 0 0 = I 40 0 0 := hXI 40 0 0 (by decide) (by decide) (by decide) (by decide) (by decide) (by decide) (by decide) (by decide)
    rw [(nI_eq (a := n) (b := n') (by omega) (by omega)).mp (hn.symm.trans (this.symm.trans g1))]
    exact hi
set_option maxHeartbeats 4000000 in
set_option maxRecDepth 100000 in
theorem p_drop (x1 x2 : Int32) : zPr 74 145 [zi x1, zi x2] := by
  intro d I rl rs hR
  rcases n_cases x1 20 (by decide) with ⟨f, hf, rfl⟩ | hx1
  · rcases n_cases x2 3 (by decide) with ⟨a, ha, rfl⟩ | hx2
    · obtain ⟨C, n, k, t, hS, h14, h15⟩ := r_st hR
      obtain ⟨e1, e2, e3, e4, e5⟩ := hS.1.2.2.2.2.2
      have hb1 := hS.1.1
      refine z_auto rfl ?_
      refine z_cl rfl (c_isFloor_y hf ?_)
      refine z_auto rfl ?_
      refine z_st rfl ?_
      refine z_auto rfl ?_
      refine z_cl rfl (c_isSide_y ha ?_)
      refine z_auto rfl ?_
      refine z_jp rfl ?_
      refine z_auto rfl ?_
      refine z_br rfl (fun c => ?_) (fun c => ?_)
      · have s8 : I 40 0 8 = 1 := by
          rcases e5 with q | q
          · rw [q.1] at c; exact absurd c (by decide)
          · exact q.2
        refine z_auto rfl ?_
        refine z_rt rfl (zPr_i (fun rl' rs' => ?_))
        refine z_auto rfl ?_
        refine z_cl rfl (m_isFloor_y hf ?_)
        refine z_auto rfl ?_
        refine z_st rfl ?_
        refine z_auto rfl ?_
        refine z_cl rfl (m_isSide_y ha ?_)
        refine z_auto rfl ?_
        refine z_jp rfl ?_
        refine z_auto rfl ?_
        refine z_ald (k := 8) rfl rfl (by decide) ?_
        rw [s8]
        refine z_auto rfl ?_
        refine z_jp rfl ?_
        refine z_auto rfl ?_
        exact z_rt rfl (zPr_o hR)
      · have s8 : I 40 0 8 = 0 := by
          rcases e5 with q | q
          · exact q.2
          · exact absurd q.1 c
        refine z_auto rfl ?_
        rw [e1]
        refine z_auto rfl ?_
        refine z_br rfl (fun c2 => ?_) (fun c2 => ?_)
        · have ht : t < 9999 := by
            apply Classical.byContradiction
            intro q
            exact absurd c2 (Int32.not_lt.mpr (nI_le (a := 9999) (b := t) (by omega) (by omega)))
          refine z_auto rfl ?_
          refine z_cl rfl (s_letFall hS.2.1 (fun J hJ hE => ?_))
          have hw01 : (fEg I C n t (nI f) (nI a) 0 0 (zlast C 0 20) (I 2 0 0, I 2 0 1)).2 = 0 ∨ (fEg I C n t (nI f) (nI a) 0 0 (zlast C 0 20) (I 2 0 0, I 2 0 1)).2 = 1 := fEg_01 hS.2.1.2.2.2.2.2.2.2
          have e21 : J 2 2 0 = (fEg I C n t (nI f) (nI a) 0 0 (zlast C 0 20) (I 2 0 0, I 2 0 1)).1 := congrArg Prod.fst hE
          have e22 : J 2 2 1 = (fEg I C n t (nI f) (nI a) 0 0 (zlast C 0 20) (I 2 0 0, I 2 0 1)).2 := congrArg Prod.snd hE
          obtain ⟨hJ0, g1, g7, g8, g2, g9⟩ := hJ
          have j106 : J 1 0 6 = nI t := (hJ0 1 0 6 (by decide) (by decide) (Or.inl (by decide))).trans e1
          have hbits := fAll_bits (I := I) (C := C) (n := n) (t := t) (f := nI f) (a := nI a) (add := 0) (out := 0) hb1.2.2.1 (by rw [hb1.2.2.2.2.2.2.1]; exact hb1.2.2.2.2.2.2.2)
          refine z_auto rfl ?_
          refine z_cl rfl (s_eggCopy (by rw [e22]; exact hw01) ?_)
          refine z_auto rfl ?_
          try simp (decide := true) only [zup_eq, zup_cf, zup_i, zup_k, zLy_3, zLy_34, ne_eq, not_false_eq_true]
          rw [e21, e22, g2, j106, ← nI_succ]
          obtain ⟨M, hM⟩ : ∃ M, M = zup (zup (zup (zup J 2 0 0 (fEg I C n t (nI f) (nI a) 0 0 (zlast C 0 20) (I 2 0 0, I 2 0 1)).1) 2 0 1 (fEg I C n t (nI f) (nI a) 0 0 (zlast C 0 20) (I 2 0 0, I 2 0 1)).2) 4 0 6 (fAll I C n t (nI f) (nI a) 0 0).2.1.2.2) 1 0 6 (nI (t + 1)) := ⟨_, rfl⟩
          rw [← hM]
          have m40 : M 40 0 = I 40 0 := by rw [hM, zup_cf (by decide), zup_cf (by decide), zup_cf (by decide), zup_cf (by decide)]; exact zFr_f hJ0 (by decide) (by decide) (by decide)
          have m14 : M 10 0 14 = 0 := by rw [hM, zup_c (by decide), zup_c (by decide), zup_c (by decide), zup_c (by decide)]; exact (zFr_14 hJ0).trans h14
          have m15 : M 10 0 15 = nI 0 := by rw [hM, zup_c (by decide), zup_c (by decide), zup_c (by decide), zup_c (by decide)]; exact (zFr_15 hJ0).trans h15
          have m37 : M 3 0 7 = (fAll I C n t (nI f) (nI a) 0 0).2.1.1 := by rw [hM, zup_c (by decide), zup_c (by decide), zup_c (by decide), zup_c (by decide)]; exact g7
          have m38 : M 3 0 8 = (fAll I C n t (nI f) (nI a) 0 0).2.1.2.1 := by rw [hM, zup_c (by decide), zup_c (by decide), zup_c (by decide), zup_c (by decide)]; exact g8
          refine z_auto rfl ?_
          refine z_auto rfl ?_
          refine z_cl rfl (s_force ?_)
          rw [m37, m38]
          refine z_auto rfl ?_
          refine z_rt rfl (zPr_i (fun rl' rs' => ?_))
          refine z_auto rfl ?_
          refine z_cl rfl (m_isFloor_y hf ?_)
          refine z_auto rfl ?_
          refine z_st rfl ?_
          refine z_auto rfl ?_
          refine z_cl rfl (m_isSide_y ha ?_)
          refine z_auto rfl ?_
          refine z_jp rfl ?_
          refine z_auto rfl ?_
          refine z_ald (k := 8) rfl rfl (by decide) ?_
          rw [m40, s8]
          refine z_auto rfl ?_
          refine z_st rfl ?_
          refine z_auto rfl ?_
          refine z_ald (k := 6) rfl rfl (by decide) ?_
          rw [m40, e2]
          refine z_auto rfl ?_
          refine z_br rfl (fun c3 => ?_) (fun c3 => ?_)
          · refine z_auto rfl ?_
            refine z_cl rfl (m_fm hS m40 hf (by decide) m15 m14 (fun K hK k19 k16 k17 => ?_))
            have k17a : K 10 0 17 = (fEg I C n t (nI f) (nI a) 0 0 (zlast C 0 20) (I 2 0 0, I 2 0 1)).1 := congrArg Prod.fst k17
            have k18a : K 10 0 18 = (fEg I C n t (nI f) (nI a) 0 0 (zlast C 0 20) (I 2 0 0, I 2 0 1)).2 := congrArg Prod.snd k17
            have k406 : K 40 0 6 = nI t := by rw [zFM_f hK (by decide) (by decide) (by decide), m40, e2]
            refine z_auto rfl ?_
            refine z_ast (k := 9) rfl rfl (by decide) ?_
            refine z_auto rfl ?_
            refine z_ast (k := 7) rfl rfl (by decide) ?_
            try simp (decide := true) only [zup_eq, zup_cf, zup_i, zup_k, zLy_3, zLy_34, ne_eq, not_false_eq_true]
            rw [k16, k17a]
            have key : ∀ w : Int32, (w = if (fEg I C n t (nI f) (nI a) 0 0 (zlast C 0 20) (I 2 0 0, I 2 0 1)).2 = 0 then 1 else 0) → zW (d + 12) kX10_drop (zblk kX10_drop 6) [some (zr 10 0), some (zi (nI f)), some (zi (nI a)), some (zi (fFo I C n t (nI f) (nI a) (nI 0) 0))] [zi w, zi 8, zr 40 0] (zup (zup K 40 0 9 (fAll I C n t (nI f) (nI a) 0 0).2.1.2.2) 40 0 7 (fEg I C n t (nI f) (nI a) 0 0 (zlast C 0 20) (I 2 0 0, I 2 0 1)).1) (zRR rl' rs') (fun v2 I2 G2 => some (zi (if (fAll I C n t (nI f) (nI a) 0 0).2.1.1 < (fAll I C n t (nI f) (nI a) 0 0).2.1.2.1 then (fAll I C n t (nI f) (nI a) 0 0).2.1.2.1 else (fAll I C n t (nI f) (nI a) 0 0).2.1.1)) = v2 ∧ zRel I2 ∧ ∃ rl2 rs2, G2 = zRR rl2 rs2) := by
              intro w hw
              refine z_auto rfl ?_
              refine z_ast (k := 8) rfl rfl (by decide) ?_
              refine z_auto rfl ?_
              refine z_ald (k := 6) rfl rfl (by decide) ?_
              try simp (decide := true) only [zup_eq, zup_cf, zup_i, zup_k, zLy_3, zLy_34, ne_eq, not_false_eq_true]
              rw [k406]
              refine z_auto rfl ?_
              refine z_ast (k := 6) rfl rfl (by decide) ?_
              rw [← nI_succ]
              refine z_auto rfl ?_
              refine z_rt rfl (zPr_o2 rfl (zRel_drop (A := (fEg I C n t (nI f) (nI a) 0 0 (zlast C 0 20) (I 2 0 0, I 2 0 1)).1) hR hb1.2.1 hb1.2.2.1 ht hbits hw01 ?_ ?_ ?_ ?_ ?_ ?_ ?_ ?_ ?_ ?_ ?_))
              · intro c i k a1 a2 a3 a4 a5 a6 a7 a8 a9 a10 a11 a12
                rw [zup_ne (by omega), zup_ne (by omega), zup_ne (by omega), zup_ne (by omega), hK c i k a3 a4 (by omega), hM, zup_ne (by omega), zup_ne (by omega), zup_ne (by omega), zup_ne (by omega)]
                exact hJ0 c i k a1 a2 a7
              · rw [zup_ne (by omega), zup_ne (by omega), zup_ne (by omega), zup_ne (by omega)]
                exact (zFM_14 hK).trans m14
              · rw [zup_ne (by omega), zup_ne (by omega), zup_ne (by omega), zup_ne (by omega)]
                exact (zFM_15 hK).trans m15
              · rw [zup_ne (by omega), zup_ne (by omega), zup_ne (by omega), zup_ne (by omega), hK 1 0 6 (by omega) (by omega) (by omega), hM, zup_eq]
              · rw [zup_eq]
              · rw [zup_ne (by omega), zup_ne (by omega), zup_ne (by omega), zup_ne (by omega), hK 2 0 0 (by omega) (by omega) (by omega), hM, zup_ne (by omega), zup_ne (by omega), zup_ne (by omega), zup_eq]
              · rw [zup_ne (by omega), zup_ne (by omega), zup_eq]
              · rw [zup_ne (by omega), zup_ne (by omega), zup_ne (by omega), zup_ne (by omega), hK 2 0 1 (by omega) (by omega) (by omega), hM, zup_ne (by omega), zup_ne (by omega), zup_eq]
              · rw [zup_ne (by omega), zup_eq]
                exact hw
              · rw [zup_ne (by omega), zup_ne (by omega), zup_ne (by omega), zup_ne (by omega), hK 4 0 6 (by omega) (by omega) (by omega), hM, zup_ne (by omega), zup_eq]
              · rw [zup_ne (by omega), zup_ne (by omega), zup_ne (by omega), zup_eq]
            refine z_auto rfl ?_
            try simp (decide := true) only [zup_eq, zup_cf, zup_i, zup_k, zLy_3, zLy_34, ne_eq, not_false_eq_true]
            rw [k18a]
            refine z_auto rfl ?_
            refine z_br rfl (fun c4 => ?_) (fun c4 => ?_)
            · refine z_auto rfl ?_
              refine z_jp rfl ?_
              exact key 1 (by rw [if_pos c4])
            · refine z_auto rfl ?_
              refine z_jp rfl ?_
              exact key 0 (by rw [if_neg c4])
          · exact absurd ((nI_eq (a := t) (b := 9999) (by omega) (by decide)).mp (Classical.not_not.mp c3)) (by omega)
        · have ht : t = 9999 := by
            apply Classical.byContradiction
            intro q
            exact c2 (nI_lt (a := t) (b := 9999) (by omega) (by decide))
          subst ht
          refine z_auto rfl ?_
          refine z_jp rfl ?_
          refine z_auto rfl ?_
          refine z_rt rfl (zPr_i (fun rl' rs' => ?_))
          refine z_auto rfl ?_
          refine z_cl rfl (m_isFloor_y hf ?_)
          refine z_auto rfl ?_
          refine z_st rfl ?_
          refine z_auto rfl ?_
          refine z_cl rfl (m_isSide_y ha ?_)
          refine z_auto rfl ?_
          refine z_jp rfl ?_
          refine z_auto rfl ?_
          refine z_ald (k := 8) rfl rfl (by decide) ?_
          rw [s8]
          refine z_auto rfl ?_
          refine z_st rfl ?_
          refine z_auto rfl ?_
          refine z_ald (k := 6) rfl rfl (by decide) ?_
          rw [e2]
          refine z_auto rfl ?_
          refine z_st rfl ?_
          refine z_auto rfl ?_
          refine z_jp rfl ?_
          refine z_auto rfl ?_
          exact z_rt rfl (zPr_o hR)
    · refine z_auto rfl ?_
      refine z_cl rfl (c_isFloor_y hf ?_)
      refine z_auto rfl ?_
      refine z_st rfl ?_
      refine z_auto rfl ?_
      refine z_cl rfl (c_isSide_n hx2 ?_)
      refine z_auto rfl ?_
      refine z_st rfl ?_
      refine z_auto rfl ?_
      refine z_jp rfl ?_
      refine z_auto rfl ?_
      refine z_rt rfl (zPr_i (fun rl' rs' => ?_))
      refine z_auto rfl ?_
      refine z_cl rfl (m_isFloor_y hf ?_)
      refine z_auto rfl ?_
      refine z_st rfl ?_
      refine z_auto rfl ?_
      refine z_cl rfl (m_isSide_n hx2 ?_)
      refine z_auto rfl ?_
      refine z_st rfl ?_
      refine z_auto rfl ?_
      refine z_jp rfl ?_
      refine z_auto rfl ?_
      exact z_rt rfl (zPr_o hR)
  · refine z_auto rfl ?_
    refine z_cl rfl (c_isFloor_n hx1 ?_)
    refine z_auto rfl ?_
    refine z_jp rfl ?_
    refine z_auto rfl ?_
    refine z_rt rfl (zPr_i (fun rl' rs' => ?_))
    refine z_auto rfl ?_
    refine z_cl rfl (m_isFloor_n hx1 ?_)
    refine z_auto rfl ?_
    refine z_jp rfl ?_
    refine z_auto rfl ?_
    exact z_rt rfl (zPr_o hR)
end
section
/-! count -/
set_option maxHeartbeats 4000000 in
set_option maxRecDepth 100000 in
theorem p_count (x1 : Int32) : zPr 93 175 [zi x1] := by
  intro d I rl rs hR
  have hR0 := hR
  obtain ⟨n, k, t, ⟨b1, b2, ⟨m1, b3⟩, ⟨m2, b4⟩, ⟨m3, b5⟩, b6⟩, -, -, ⟨r, r1, r2, r3, r4⟩, -, -⟩ := hR0
  have mrun : ∀ (w : Nat), w ≤ 4 → ∀ v : Int32, v = I 40 0 w → ∀ rl' rs', zWm (d + 12) 175 [zr 10 0, zi (nI w)] I (zRR rl' rs') (fun v2 I2 G2 => some (zi v) = v2 ∧ zRel I2 ∧ ∃ rl2 rs2, G2 = zRR rl2 rs2) := by
    intro w hw v hv rl' rs'
    refine z_auto rfl ?_
    refine z_br rfl (fun c => ?_) (fun c => ?_)
    · refine z_auto rfl ?_
      refine z_cl rfl (m_in_y (lo := 0) (hi := 4) (Nat.zero_le _) hw (by decide) ?_)
      refine z_auto rfl ?_
      refine z_st rfl ?_
      refine z_auto rfl ?_
      refine z_ald (k := w) rfl rfl (by show w < 937; omega) ?_
      refine z_auto rfl ?_
      refine z_jp rfl ?_
      refine z_auto rfl ?_
      exact z_rt rfl (zPr_o2 (by rw [hv]) hR)
    · exact absurd ((nI_eq (a := w) (b := 5) (by omega) (by decide)).mp (Classical.not_not.mp c)) (by omega)
  rcases n_cases x1 5 (by decide) with ⟨w, hw, rfl⟩ | hx
  · rcases w with _ | _ | _ | _ | _ | _ | w
    · refine z_auto rfl ?_
      refine z_jp rfl ?_
      refine z_auto rfl ?_
      exact z_rt rfl (zPr_i (mrun 0 (by decide) _ (b1.1.trans b1.2.1.symm)))
    · refine z_auto rfl ?_
      refine z_jp rfl ?_
      refine z_auto rfl ?_
      exact z_rt rfl (zPr_i (mrun 1 (by decide) _ (b2.1.trans b2.2.1.symm)))
    · refine z_auto rfl ?_
      refine z_jp rfl ?_
      refine z_auto rfl ?_
      exact z_rt rfl (zPr_i (mrun 2 (by decide) _ (b3.1.trans b3.2.1.symm)))
    · refine z_auto rfl ?_
      refine z_jp rfl ?_
      refine z_auto rfl ?_
      exact z_rt rfl (zPr_i (mrun 3 (by decide) _ (b4.1.trans b4.2.1.symm)))
    · refine z_auto rfl ?_
      refine z_jp rfl ?_
      refine z_auto rfl ?_
      exact z_rt rfl (zPr_i (mrun 4 (by decide) _ (b5.1.trans b5.2.1.symm)))
    · refine z_auto rfl ?_
      refine z_jp rfl ?_
      refine z_auto rfl ?_
      refine z_rt rfl (zPr_i (fun rl' rs' => ?_))
      refine z_auto rfl ?_
      refine z_st rfl ?_
      refine z_auto rfl ?_
      refine z_jp rfl ?_
      refine z_auto rfl ?_
      exact z_rt rfl (zPr_o2 (by rw [r2, r3]) hR)
    · omega
  · refine z_auto rfl ?_
    refine z_sw rfl (fun q hq hx2 => ?_) (fun hn => ?_)
    · exfalso
      have hq : q ∈ [((0 : Int32), 1), (1, 2), (2, 3), (3, 4), (4, 5), (5, 6)] := hq
      simp only [List.mem_cons, List.not_mem_nil, or_false] at hq
      rcases hq with rfl | rfl | rfl | rfl | rfl | rfl <;> (subst hx2; revert hx; decide)
    · refine z_auto rfl ?_
      refine z_rt rfl (zPr_i (fun rl' rs' => ?_))
      refine z_auto rfl ?_
      refine z_br rfl (fun c => ?_) (fun c => ?_)
      · refine z_auto rfl ?_
        refine z_cl rfl (m_in_n (hx.imp id (fun q => Int32.lt_trans (by decide) q)) ?_)
        refine z_auto rfl ?_
        refine z_jp rfl ?_
        refine z_auto rfl ?_
        refine z_jp rfl ?_
        refine z_auto rfl ?_
        exact z_rt rfl (zPr_o hR)
      · exfalso
        have c := Classical.not_not.mp c
        subst c
        revert hx
        decide
end
section
/-! row -/
set_option maxHeartbeats 4000000 in
set_option maxRecDepth 100000 in
theorem p_row (x1 x2 x3 : Int32) : zPr 71 135 [zi x1, zi x2, zi x3] := by
  intro d I rl rs hR
  have hR0 := hR
  obtain ⟨n, k, t, ⟨b1, b2, b3, b4, b5, b6⟩, -, -, -, -, -⟩ := hR0
  have hn := b1.1
  have hm := b1.2.1
  have h8 := b1.2.2.1
  rcases n_lay x1 n h8 with ⟨l, hl, rfl⟩ | hx1
  · obtain ⟨kd, v, th, w, sd, q, ⟨p0, -, -, -, -⟩, r1, -, -, -, -⟩ := b1.2.2.2.1 l hl
    refine z_auto rfl ?_
    refine z_cl rfl (c_has_y hn h8 hl ?_)
    refine z_auto rfl ?_
    refine z_st rfl ?_
    rcases n_cases x2 2 (by decide) with ⟨j, hj, rfl⟩ | hx2
    · obtain ⟨r0, hr0, w1, w2⟩ := b1.2.2.2.2.1 l j hl (by omega)
      refine z_auto rfl ?_
      refine z_br rfl (fun c => ?_) (fun c => ?_)
      · exact absurd c (nI_pos (by omega))
      · refine z_auto rfl ?_
        refine z_br rfl (fun c2 => ?_) (fun c2 => ?_)
        · rcases n_cases x3 9 (by decide) with ⟨r, hr, rfl⟩ | hx3
          · refine z_auto rfl ?_
            refine z_br rfl (fun c3 => ?_) (fun c3 => ?_)
            · exact absurd c3 (nI_pos (by omega))
            · refine z_auto rfl ?_
              refine z_br rfl (fun c4 => ?_) (fun c4 => ?_)
              · refine z_auto rfl ?_
                refine z_ald (k := l) rfl rfl (by show l < 8; omega) ?_
                refine z_auto rfl ?_
                refine z_br rfl (fun c5 => ?_) (fun c5 => ?_)
                · have ha : nI l * 3 + nI j = nI (l * 3 + j) := by rw [show nI l * 3 = nI (l * 3) from pk_mul l 3, nI_add]
                  have hb : (50 : Int32) + 3 * nI l + nI j = nI (50 + l * 3 + j) := by
                    rw [Int32.mul_comm 3 (nI l), show nI l * 3 = nI (l * 3) from pk_mul l 3, show (50 : Int32) + nI (l * 3) = nI (50 + l * 3) from nI_add 50 (l * 3)]
                    exact nI_add _ _
                  refine z_auto rfl ?_
                  refine z_ald (k := (l * 3 + j)) rfl ha (by show l * 3 + j < 24; omega) ?_
                  refine z_auto rfl ?_
                  refine z_ast (k := (l * 3 + j)) rfl ha (by show l * 3 + j < 24; omega) ?_
                  refine z_auto rfl ?_
                  refine z_rt rfl (zPr_i (fun rl' rs' => ?_))
                  refine z_auto rfl ?_
                  refine z_cl rfl (m_isLayer_y (by rw [zup_c (by decide)]; exact hm) h8 hl ?_)
                  refine z_auto rfl ?_
                  refine z_st rfl ?_
                  refine z_auto rfl ?_
                  refine z_cl rfl (m_in_y (lo := 0) (hi := 2) (Nat.zero_le _) hj (by decide) ?_)
                  refine z_auto rfl ?_
                  refine z_jp rfl ?_
                  refine z_auto rfl ?_
                  refine z_cl rfl (m_in_y (lo := 0) (hi := 9) (Nat.zero_le _) hr (by decide) ?_)
                  refine z_auto rfl ?_
                  refine z_jp rfl ?_
                  refine z_auto rfl ?_
                  refine z_ald (k := (10 + l)) rfl (nI_add 10 l) (by show 10 + l < 937; omega) ?_
                  rw [zup_c (by decide), r1, ← p0]
                  refine z_auto rfl ?_
                  refine z_br rfl (fun c6 => ?_) (fun c6 => ?_)
                  · refine z_auto rfl ?_
                    refine z_ald (k := (50 + l * 3 + j)) rfl hb (by show 50 + l * 3 + j < 937; omega) ?_
                    rw [zup_c (by decide)]
                    refine z_auto rfl ?_
                    refine z_ast (k := (50 + l * 3 + j)) rfl hb (by show 50 + l * 3 + j < 937; omega) ?_
                    refine z_auto rfl ?_
                    refine z_rt rfl (zPr_o2 (by rw [w1, w2]) (zRel_L hR ?_ ?_))
                    · intro c i k h1 h2
                      unfold zup
                      rw [if_neg (by omega), if_neg (by omega)]
                    · intro n' hL
                      obtain ⟨g1, g2, g3, g4, g5, g6, g7, g8⟩ := hL
                      have hln : l < n' := by
                        have := g1.symm.trans hn
                        rw [(nI_eq (a := n') (b := n) (by omega) (by omega)).mp this]
                        exact hl
                      obtain ⟨J, hJ⟩ : ∃ J, J = zup (zup I 25 0 (l * 3 + j) (nI r)) 40 0 (50 + l * 3 + j) (nI r) := ⟨_, rfl⟩
                      rw [← hJ]
                      have A : ∀ c i k, c ≠ 25 → c ≠ 40 → J c i k = I c i k := fun c i k h1 h2 => by rw [hJ, zup_c h2, zup_c h1]
                      have B : ∀ k, k ≠ 50 + l * 3 + j → J 40 0 k = I 40 0 k := fun k h1 => by rw [hJ, zup_k h1, zup_c (by decide)]
                      have B1 : J 40 0 (50 + l * 3 + j) = nI r := by rw [hJ, zup_eq]
                      have D : ∀ i, i ≠ l * 3 + j → J 25 0 i = I 25 0 i := fun i h1 => by rw [hJ, zup_c (by decide), zup_k h1]
                      have D1 : J 25 0 (l * 3 + j) = nI r := by rw [hJ, zup_c (by decide), zup_eq]
                      clear hJ
                      refine ⟨n', (A 4 0 7 (by decide) (by decide)).trans g1, (B 0 (by omega)).trans g2, g3, fun i hi => ?_, fun i x hi hx => ?_, fun x h1 h2 => (D x (by omega)).trans (g6 x h1 h2), ?_, fun i hi => ?_⟩
                      · rw [A 20 0 i (by decide) (by decide), A 21 0 i (by decide) (by decide), A 22 0 i (by decide) (by decide), A 23 0 i (by decide) (by decide), A 24 0 i (by decide) (by decide), B (10 + i) (by omega), B (18 + i) (by omega), B (26 + i) (by omega), B (34 + i) (by omega), B (42 + i) (by omega)]
                        exact g4 i hi
                      · by_cases e : i * 3 + x = l * 3 + j
                        · rw [e, D1, show 50 + i * 3 + x = 50 + l * 3 + j by omega, B1]
                          exact ⟨r, hr, rfl, rfl⟩
                        · rw [D _ e, B _ (by omega)]
                          exact g5 i x hi hx
                      · rw [A 4 0 6 (by decide) (by decide), B 9 (by omega)]
                        exact g7
                      · rw [B 9 (by omega)]
                        exact g8 i hi
                  · exact absurd c5 c6
                · refine z_auto rfl ?_
                  refine z_rt rfl (zPr_i (fun rl' rs' => ?_))
                  refine z_auto rfl ?_
                  refine z_cl rfl (m_isLayer_y hm h8 hl ?_)
                  refine z_auto rfl ?_
                  refine z_st rfl ?_
                  refine z_auto rfl ?_
                  refine z_cl rfl (m_in_y (lo := 0) (hi := 2) (Nat.zero_le _) hj (by decide) ?_)
                  refine z_auto rfl ?_
                  refine z_jp rfl ?_
                  refine z_auto rfl ?_
                  refine z_cl rfl (m_in_y (lo := 0) (hi := 9) (Nat.zero_le _) hr (by decide) ?_)
                  refine z_auto rfl ?_
                  refine z_jp rfl ?_
                  refine z_auto rfl ?_
                  refine z_ald (k := (10 + l)) rfl (nI_add 10 l) (by show 10 + l < 937; omega) ?_
                  rw [r1, ← p0]
                  refine z_auto rfl ?_
                  refine z_br rfl (fun c6 => ?_) (fun c6 => ?_)
                  · exact absurd c6 c5
                  · refine z_auto rfl ?_
                    exact z_rt rfl (zPr_o hR)
              · exact absurd (nI_le (a := r) (b := 9) hr (by decide)) c4
          · have mr : ∀ rl' rs', zWm (d + 12) 135 [zr 10 0, zi (nI l), zi (nI j), zi x3] I (zRR rl' rs') (fun v2 I2 G2 => some (zi (-2)) = v2 ∧ zRel I2 ∧ ∃ rl2 rs2, G2 = zRR rl2 rs2) := by
              intro rl' rs'
              refine z_auto rfl ?_
              refine z_cl rfl (m_isLayer_y hm h8 hl ?_)
              refine z_auto rfl ?_
              refine z_st rfl ?_
              refine z_auto rfl ?_
              refine z_cl rfl (m_in_y (lo := 0) (hi := 2) (Nat.zero_le _) hj (by decide) ?_)
              refine z_auto rfl ?_
              refine z_jp rfl ?_
              refine z_auto rfl ?_
              refine z_cl rfl (m_in_n hx3 ?_)
              refine z_auto rfl ?_
              refine z_st rfl ?_
              refine z_auto rfl ?_
              exact z_rt rfl (zPr_o hR)
            refine z_auto rfl ?_
            refine z_br rfl (fun c3 => ?_) (fun c3 => ?_)
            · refine z_auto rfl ?_
              exact z_rt rfl (zPr_i mr)
            · refine z_auto rfl ?_
              refine z_br rfl (fun c4 => ?_) (fun c4 => ?_)
              · rcases hx3 with q | q
                · exact absurd q c3
                · exact absurd q (Int32.not_lt.mpr c4)
              · refine z_auto rfl ?_
                refine z_jp rfl ?_
                refine z_auto rfl ?_
                exact z_rt rfl (zPr_i mr)
        · exact absurd (nI_lt (a := j) (b := 3) (by omega) (by decide)) c2
    · have mr : ∀ rl' rs', zWm (d + 12) 135 [zr 10 0, zi (nI l), zi x2, zi x3] I (zRR rl' rs') (fun v2 I2 G2 => some (zi (-1)) = v2 ∧ zRel I2 ∧ ∃ rl2 rs2, G2 = zRR rl2 rs2) := by
        intro rl' rs'
        refine z_auto rfl ?_
        refine z_cl rfl (m_isLayer_y hm h8 hl ?_)
        refine z_auto rfl ?_
        refine z_st rfl ?_
        refine z_auto rfl ?_
        refine z_cl rfl (m_in_n hx2 ?_)
        refine z_auto rfl ?_
        refine z_st rfl ?_
        refine z_auto rfl ?_
        refine z_jp rfl ?_
        refine z_auto rfl ?_
        exact z_rt rfl (zPr_o hR)
      refine z_auto rfl ?_
      refine z_br rfl (fun c => ?_) (fun c => ?_)
      · refine z_auto rfl ?_
        exact z_rt rfl (zPr_i mr)
      · refine z_auto rfl ?_
        refine z_br rfl (fun c2 => ?_) (fun c2 => ?_)
        · rcases hx2 with q | q
          · exact absurd q c
          · exact absurd c2 (Int32.not_lt.mpr (n_ge (n := 2) (by decide) q))
        · refine z_auto rfl ?_
          refine z_jp rfl ?_
          refine z_auto rfl ?_
          exact z_rt rfl (zPr_i mr)
  · refine z_auto rfl ?_
    refine z_cl rfl (c_has_n hn h8 hx1 ?_)
    refine z_auto rfl ?_
    refine z_jp rfl ?_
    refine z_auto rfl ?_
    refine z_rt rfl (zPr_i (fun rl' rs' => ?_))
    refine z_auto rfl ?_
    refine z_cl rfl (m_isLayer_n hm h8 hx1 ?_)
    refine z_auto rfl ?_
    refine z_jp rfl ?_
    refine z_auto rfl ?_
    exact z_rt rfl (zPr_o hR)
end
section
/-! best: how great a force can be -/
theorem m_subl {a b : Int32} (ha : 0 ≤ a) (hb : 0 ≤ b) : (if 0 < a - b then a - b else 0) ≤ a := by
  rw [m_pos ha hb]
  split
  · exact ha
  · rename_i c
    rw [Int32.le_iff_toInt_le] at c ha hb ⊢
    rw [Int32.toInt_sub]
    have h1 := Int32.toInt_lt a
    have h2 := Int32.toInt_lt b
    rw [show (0 : Int32).toInt = 0 from rfl] at ha hb
    rw [Int.bmod_def]
    split <;> omega
theorem gFt_le {A : Nat → Nat → Int32} {N : Nat} (hA : zAb A N) {fl sd out : Int32} : ∀ (n : Nat) (s : Int32 × Int32), n ≤ N → 0 ≤ s.1 → (gFt A fl sd out n s).1 ≤ s.1
  | 0, _, _, _ => Int32.le_refl _
  | n + 1, s, hn, h => by
    have h2 := gFt_le hA (fl := fl) (sd := sd) (out := out) n s (by omega) h
    have h3 := gFt_pos (A := A) (fl := fl) (sd := sd) (out := out) n s h
    obtain ⟨v, th, r, hv, hth, hr, a1, a2, a4⟩ := hA n (by omega)
    rw [gFt, gFs]
    split
    · dsimp only
      exact Int32.le_trans (m_subl h3 (m_tk hv hth hr a1 a2 a4 h3)) h2
    · exact h2
theorem n_le {x : Int32} {m : Nat} (h0 : 0 ≤ x) (h : x ≤ nI m) (hm : m < 2147483648) : ∃ y, y ≤ m ∧ x = nI y := by
  rcases n_cases x m hm with q | q | q
  · exact q
  · exact absurd q (Int32.not_lt.mpr h0)
  · exact absurd q (Int32.not_lt.mpr h)
theorem fFo_le {I : zMI} {C : List zCl} {n k t : Nat} (hS : zSt8 I C n k t) {f ad : Nat} (hf : f ≤ 20) (hd : ad ≤ 100) {a out : Int32} : ∃ y, y ≤ 2000 ∧ fFo I C n t (nI f) a (nI ad) out = nI y := by
  obtain ⟨hb, hC, hH⟩ := hS
  obtain ⟨h1, -, -, -, -, ⟨e1, e2, e3, e4, e5⟩⟩ := hb
  have hall := r_all h1 (t := t) (e1.trans e2.symm) (C := C) (f := nI f) (a := a) (add := nI ad) (out := out)
  obtain ⟨b, hb, eb⟩ := r_bl (s := I 40 0) (C := C) (n := n) (f := f) (ad := ad) (t := t) (ld := fLd C a (nI f)) (out := out) hC.2.2.1.2.2.2.1 hC.2.2.1.2.1 h1.2.2.1 (fun k hk => by
    obtain ⟨kd, v, th, w, sd, ⟨q1, q2, q3, q4, q5, q6⟩, -, r1, r2, r3, r4, r5⟩ := h1.2.2.2.1 k hk
    exact ⟨w, q5, r4⟩) hf hd e2 e3
  have hA := r_Ab h1 t
  unfold fFo
  rw [hall]
  unfold mAll
  rw [eb]
  dsimp only
  have p0 : 0 ≤ nI b := nI_pos' (by omega)
  have p1 : nI b / 2 = nI (b / 2) := pk_div (a := b) (d := 2) (by omega) (by omega) (by omega)
  have p2 : 0 ≤ nI b / 2 := by rw [p1]; exact nI_pos' (by omega)
  have p3 : nI b / 2 ≤ nI b := by rw [p1]; exact nI_le (by omega) (by omega)
  have key : ∀ x y : Int32, 0 ≤ x → x ≤ nI b → 0 ≤ y → y ≤ nI b → ∃ z, z ≤ 2000 ∧ (if x < y then y else x) = nI z := by
    intro x y x0 x1 y0 y1
    split
    · obtain ⟨z, hz, e⟩ := n_le y0 y1 (by omega)
      exact ⟨z, by omega, e⟩
    · obtain ⟨z, hz, e⟩ := n_le x0 x1 (by omega)
      exact ⟨z, by omega, e⟩
  unfold fFl
  split
  · exact key _ _ (gFt_pos n _ p0) (gFt_le hA n _ (Nat.le_refl _) p0) (Int32.le_refl _) p0
  · exact key _ _ (gFt_pos n _ p0) (gFt_le hA n _ (Nat.le_refl _) p0) (gFt_pos n _ p2) (Int32.le_trans (gFt_le hA n _ (Nat.le_refl _) p2) p3)
end
section
/-! best -/
/-- the best side so far and its force -/
noncomputable def fBs (g : Nat → Int32) : Nat → Nat × Int32
  | 0 => (0, 100000)
  | m + 1 => if g m < (fBs g m).2 then (m, g m) else fBs g m
section
variable {d : Nat} {I : zMI} {rl rs : Option (Nat × Nat)} {Q : zPQ} {G : zMR} {n k t : Nat} {C : List zCl}
set_option maxHeartbeats 4000000 in
set_option maxRecDepth 100000 in
theorem m_best {J : zMI} (hS : zSt8 I C n k t) (hJ : zFr I J) (h14 : I 10 0 14 = 0) (h15 : I 10 0 15 = 0) {f w : Nat} (hf : f ≤ 20) (hw : w ≤ 1) (h : ∀ K, zFM J K → Q (some (zi (if w = 0 then nI (fBs (fun a => fFo I C n t (nI f) (nI a) 0 0) 4).1 else (fBs (fun a => fFo I C n t (nI f) (nI a) 0 0) 4).2))) K (zRR rl rs)) : zWm (d + 12) 148 [zr 10 0, zi (nI f), zi (nI w)] J (zRR rl rs) Q := by
  have loop : ∀ m i, i + m = 4 → ∀ K, zFM J K → ∀ u6, zW (d + 12) kX10_best (zblk kX10_best 3) [some (zr 10 0), some (zi (nI f)), some (zi (nI w)), some (zi (nI (fBs (fun a => fFo I C n t (nI f) (nI a) 0 0) i).1)), some (zi (fBs (fun a => fFo I C n t (nI f) (nI a) 0 0) i).2), some (zi (nI i)), u6] [] K (zRR rl rs) Q := by
    intro m
    induction m with
    | zero =>
      intro i hi K hK u6
      have : i = 4 := by omega
      subst this
      refine z_auto rfl ?_
      refine z_jp rfl ?_
      rcases w with _ | _ | w
      · refine z_auto rfl ?_
        refine z_st rfl ?_
        refine z_auto rfl ?_
        refine z_jp rfl ?_
        refine z_auto rfl ?_
        exact z_rt rfl (h K hK)
      · refine z_auto rfl ?_
        refine z_jp rfl ?_
        refine z_auto rfl ?_
        refine z_jp rfl ?_
        refine z_auto rfl ?_
        exact z_rt rfl (h K hK)
      · omega
    | succ m ih =>
      intro i hi K hK u6
      refine z_auto rfl ?_
      refine z_br rfl (fun c => ?_) (fun c => ?_)
      · exact absurd c (Int32.not_le.mpr (nI_lt (a := i) (b := 4) (by omega) (by decide)))
      · refine z_auto rfl ?_
        refine z_cl rfl (m_fa hS ((zFa.r hJ).tr (zFa.M hK)) hf (by decide : 0 ≤ 100) ((zFM_15 hK).trans ((zFr_15 hJ).trans h15)) ((zFM_14 hK).trans ((zFr_14 hJ).trans h14)) (fun L hL _ _ _ => ?_))
        have h5 := ih (i + 1) (by omega) L (hK.tr hL)
        rw [fBs, nI_succ] at h5
        refine z_auto rfl ?_
        refine z_br rfl (fun c2 => ?_) (fun c2 => ?_)
        · simp only [if_neg (show ¬ fFo I C n t (nI f) (nI i) 0 0 < (fBs (fun a => fFo I C n t (nI f) (nI a) 0 0) i).2 from Int32.not_lt.mpr c2)] at h5
          refine z_auto rfl ?_
          refine z_jp rfl ?_
          refine z_auto rfl ?_
          refine z_br rfl (fun c3 => ?_) (fun c3 => ?_)
          · refine z_auto rfl ?_
            refine z_jp rfl ?_
            refine z_auto rfl ?_
            refine z_jp rfl ?_
            exact h5 _
          · exact absurd c2 c3
        · simp only [if_pos (show fFo I C n t (nI f) (nI i) 0 0 < (fBs (fun a => fFo I C n t (nI f) (nI a) 0 0) i).2 from Int32.not_le.mp c2)] at h5
          refine z_auto rfl ?_
          refine z_jp rfl ?_
          refine z_auto rfl ?_
          refine z_br rfl (fun c3 => ?_) (fun c3 => ?_)
          · exact absurd c3 c2
          · refine z_auto rfl ?_
            refine z_jp rfl ?_
            refine z_auto rfl ?_
            refine z_jp rfl ?_
            exact h5 _
  refine z_auto rfl ?_
  refine z_cl rfl (m_isFloor_y hf ?_)
  refine z_auto rfl ?_
  refine z_st rfl ?_
  refine z_auto rfl ?_
  refine z_cl rfl (m_in_y (lo := 0) (hi := 1) (Nat.zero_le _) hw (by decide) ?_)
  refine z_auto rfl ?_
  refine z_jp rfl ?_
  refine z_auto rfl ?_
  refine z_jp rfl ?_
  exact loop 4 0 rfl J zFM.rf _
end
end
section
/-! best: the pair -/
section
set_option maxHeartbeats 4000000 in
set_option maxRecDepth 100000 in
theorem p_best (x1 x2 : Int32) : zPr 77 148 [zi x1, zi x2] := by
  intro d I rl rs hR
  rcases n_cases x1 20 (by decide) with ⟨f, hf, rfl⟩ | hx1
  · rcases n_cases x2 1 (by decide) with ⟨w, hw, rfl⟩ | hx2
    · obtain ⟨C, n, k, t, hS, h14, h15⟩ := r_st hR
      obtain ⟨g, hg⟩ : ∃ g : Nat → Int32, g = fun a => fFo I C n t (nI f) (nI a) 0 0 := ⟨_, rfl⟩
      have mrun : ∀ J, zFr I J → ∀ v : Int32, v = (if w = 0 then nI (fBs g 4).1 else (fBs g 4).2) → ∀ rl' rs', zWm (d + 12) 148 [zr 10 0, zi (nI f), zi (nI w)] J (zRR rl' rs') (fun v2 I2 G2 => some (zi v) = v2 ∧ zRel I2 ∧ ∃ rl2 rs2, G2 = zRR rl2 rs2) := by
        intro J hJ v hv rl' rs'
        subst hg
        exact m_best hS hJ h14 h15 hf hw (fun K hK => zPr_o2 (by rw [hv]) (zRel_M hK (zRel_r hJ hR)))
      have loop : ∀ m i, i + m = 4 → ∀ J, zFr I J → ∀ rl rs u6, zW (d + 12) kX9_best (zblk kX9_best 3) [some (zr 9 0), some (zi (nI f)), some (zi (nI w)), some (zi (nI (fBs g i).1)), some (zi (fBs g i).2), some (zi (nI i)), u6] [] J (zRR rl rs) (fun v1 I1 G1 => ∃ rl1 rs1, G1 = zRR rl1 rs1 ∧ zWm (d + 12) 148 [zr 10 0, zi (nI f), zi (nI w)] I1 G1 (fun v2 I2 G2 => v1 = v2 ∧ zRel I2 ∧ ∃ rl2 rs2, G2 = zRR rl2 rs2)) := by
        intro m
        induction m with
        | zero =>
          intro i hi J hJ rl rs u6
          have : i = 4 := by omega
          subst this
          refine z_auto rfl ?_
          refine z_jp rfl ?_
          rcases w with _ | _ | w
          · refine z_auto rfl ?_
            refine z_st rfl ?_
            refine z_auto rfl ?_
            refine z_jp rfl ?_
            refine z_auto rfl ?_
            exact z_rt rfl (zPr_i (mrun J hJ _ rfl))
          · refine z_auto rfl ?_
            refine z_jp rfl ?_
            refine z_auto rfl ?_
            refine z_jp rfl ?_
            refine z_auto rfl ?_
            exact z_rt rfl (zPr_i (mrun J hJ _ rfl))
          · omega
        | succ m ih =>
          intro i hi J hJ rl rs u6
          refine z_auto rfl ?_
          refine z_br rfl (fun c => ?_) (fun c => ?_)
          · exact absurd c (Int32.not_le.mpr (nI_lt (a := i) (b := 4) (by omega) (by decide)))
          · refine z_auto rfl ?_
            refine z_cl rfl (s_forceOf (zCu_fr hJ hS.2.1) (fun K hK => ?_))
            have h5 := ih (i + 1) (by omega) K (hJ.tr hK.1) (some (4, 0)) rs
            rw [fFo_fr hJ, show fFo I C n t (nI f) (nI i) 0 0 = g i by rw [hg]]
            rw [fBs, nI_succ] at h5
            refine z_auto rfl ?_
            refine z_br rfl (fun c2 => ?_) (fun c2 => ?_)
            · simp only [if_neg (show ¬ g i < (fBs g i).2 from Int32.not_lt.mpr c2)] at h5
              refine z_auto rfl ?_
              refine z_jp rfl ?_
              exact h5 _
            · simp only [if_pos (show g i < (fBs g i).2 from Int32.not_le.mp c2)] at h5
              refine z_auto rfl ?_
              refine z_jp rfl ?_
              refine z_auto rfl ?_
              refine z_jp rfl ?_
              exact h5 _
      refine z_auto rfl ?_
      refine z_cl rfl (c_isFloor_y hf ?_)
      refine z_auto rfl ?_
      refine z_st rfl ?_
      refine z_auto rfl ?_
      refine z_br rfl (fun c => ?_) (fun c => ?_)
      · exact absurd c (nI_pos (by omega))
      · refine z_auto rfl ?_
        refine z_br rfl (fun c2 => ?_) (fun c2 => ?_)
        · refine z_auto rfl ?_
          refine z_cl rfl (s_forceOf hS.2.1 (fun J hJ => ?_))
          have h5 := loop 3 1 rfl J hJ.1 (some (4, 0)) rs none
          have e : fBs g 1 = (0, fFo I C n t (nI f) 0 0 0) := by
            obtain ⟨y, hy, e⟩ := fFo_le hS hf (by decide : 0 ≤ 100) (a := 0) (out := 0)
            have e2 : fFo I C n t (nI f) 0 0 0 = nI y := e
            rw [fBs, fBs]
            have e3 : g 0 = nI y := by rw [hg]; exact e
            rw [if_pos (show g 0 < ((0 : Nat), (100000 : Int32)).2 from by rw [e3]; exact nI_lt (a := y) (b := 100000) (by omega) (by decide)), e3, e2]
          rw [e] at h5
          refine z_auto rfl ?_
          refine z_jp rfl ?_
          exact h5
        · exact absurd (nI_le (b := 1) hw (by decide)) c2
    · refine z_auto rfl ?_
      refine z_cl rfl (c_isFloor_y hf ?_)
      refine z_auto rfl ?_
      refine z_st rfl ?_
      have mrun : ∀ rl' rs', zWm (d + 12) 148 [zr 10 0, zi (nI f), zi x2] I (zRR rl' rs') (fun v2 I2 G2 => some (zi (-1)) = v2 ∧ zRel I2 ∧ ∃ rl2 rs2, G2 = zRR rl2 rs2) := by
        intro rl' rs'
        refine z_auto rfl ?_
        refine z_cl rfl (m_isFloor_y hf ?_)
        refine z_auto rfl ?_
        refine z_st rfl ?_
        refine z_auto rfl ?_
        refine z_cl rfl (m_in_n hx2 ?_)
        refine z_auto rfl ?_
        refine z_st rfl ?_
        refine z_auto rfl ?_
        refine z_jp rfl ?_
        refine z_auto rfl ?_
        exact z_rt rfl (zPr_o hR)
      refine z_auto rfl ?_
      refine z_br rfl (fun c => ?_) (fun c => ?_)
      · refine z_auto rfl ?_
        exact z_rt rfl (zPr_i mrun)
      · refine z_auto rfl ?_
        refine z_br rfl (fun c2 => ?_) (fun c2 => ?_)
        · exact absurd hx2 (fun q => q.elim c (fun q => absurd q (Int32.not_lt.mpr c2)))
        · refine z_auto rfl ?_
          refine z_jp rfl ?_
          refine z_auto rfl ?_
          exact z_rt rfl (zPr_i mrun)
  · refine z_auto rfl ?_
    refine z_cl rfl (c_isFloor_n hx1 ?_)
    refine z_auto rfl ?_
    refine z_jp rfl ?_
    refine z_auto rfl ?_
    refine z_rt rfl (zPr_i (fun rl' rs' => ?_))
    refine z_auto rfl ?_
    refine z_cl rfl (m_isFloor_n hx1 ?_)
    refine z_auto rfl ?_
    refine z_jp rfl ?_
    refine z_auto rfl ?_
    exact z_rt rfl (zPr_o hR)
end
end
section
/-! prices on the model's side; told, of, as -/
section
variable {d : Nat} {I : zMI} {rl rs : Option (Nat × Nat)} {Q : zPQ} {G : zMR} {n k t : Nat} {C : List zCl}
theorem fPr_fa {I J : zMI} (h : zFa I J) (C : List zCl) (l : Nat) : fPr J C l = fPr I C l := by
  have g : ∀ c i k, (c = 1 ∨ c = 2 ∨ c = 4 ∨ c = 6 ∨ c = 7 ∨ c = 8 ∨ (20 ≤ c ∧ c ≤ 33)) → (c = 2 → i ≠ 2) → J c i k = I c i k := zFa_k h
  unfold fPr
  rw [g 24 0 l (by omega) (by omega), g 20 0 l (by omega) (by omega), g 22 0 l (by omega) (by omega), g 1 0 6 (by omega) (by omega)]
theorem fPs_fa {I J : zMI} (h : zFa I J) (C : List zCl) : ∀ l, fPs J C l = fPs I C l := by
  intro l
  induction l with
  | zero => rfl
  | succ l ih => rw [fPs, fPs, ih, fPr_fa h]
set_option maxHeartbeats 4000000 in
set_option maxRecDepth 100000 in
theorem m_priceOf {J : zMI} (hS : zSt8 I C n k t) (hJ : zFa I J) {l : Nat} (hl : l < n) (h : ∀ K, zFM J K → Q (some (zi (nI (fPr I C l)))) K (zRR rl rs)) : zWm (d + 2) 130 [zr 10 0, zi (nI l)] J (zRR rl rs) Q := by
  obtain ⟨h1, h2, h3⟩ := zSt8_fr hJ hS
  have h8 := h2.2.2.2.2.1
  obtain ⟨kd, v, th, w, sd, q, ⟨p0, p1, p2, p3, p4⟩, r1, r2, r3, r4, r5⟩ := h1.1.2.2.2.1 l hl
  have e6 := h1.2.2.2.2.2.1.trans h1.2.2.2.2.2.2.1.symm
  refine z_auto rfl ?_
  refine z_ald (k := (42 + l)) rfl (nI_add 42 l) (by show 42 + l < 937; omega) ?_
  refine z_auto rfl ?_
  refine z_ald (k := (10 + l)) rfl (nI_add 10 l) (by show 10 + l < 937; omega) ?_
  refine z_auto rfl ?_
  refine z_ald (k := (26 + l)) rfl (nI_add 26 l) (by show 26 + l < 937; omega) ?_
  rw [r5, r1, r3]
  refine z_auto rfl ?_
  refine z_cl rfl (m_looks h3 (fun K hK _ h12 => ?_))
  have e : K 10 0 12 = nI (fPr I C l) := by
    rw [h12, ← fPr_fa hJ, fPr, p4, p0, p2, e6]
  refine z_auto rfl ?_
  rw [e]
  refine z_auto rfl ?_
  exact z_rt rfl (h K (zFM.of hK))
set_option maxHeartbeats 4000000 in
set_option maxRecDepth 100000 in
theorem m_prices {J : zMI} (hS : zSt8 I C n k t) (hJ : zFa I J) (h : ∀ K, zFM J K → Q (some (zi (nI (fPs I C n)))) K (zRR rl rs)) : zWm (d + 3) 138 [zr 10 0] J (zRR rl rs) Q := by
  have h8 := hS.2.1.2.2.2.2.1
  have loop : ∀ m i, i + m = n → ∀ K, zFM J K → zW (d + 3) kX10_prices (zblk kX10_prices 1) [some (zr 10 0), some (zi (nI (fPs I C i))), some (zi (nI i))] [] K (zRR rl rs) Q := by
    intro m
    induction m with
    | zero =>
      intro i hi K hK
      have hn := (zSt8_fr (hJ.tr (zFa.M hK)) hS).1.1.2.1
      have : i = n := by omega
      subst this
      refine z_auto rfl ?_
      refine z_ald (k := 0) rfl rfl (by decide) ?_
      rw [hn]
      refine z_auto rfl ?_
      refine z_br rfl (fun c => ?_) (fun c => ?_)
      · refine z_auto rfl ?_
        exact z_rt rfl (h K hK)
      · exact absurd (nI_le (Nat.le_refl _) (by omega)) c
    | succ m ih =>
      intro i hi K hK
      have hn := (zSt8_fr (hJ.tr (zFa.M hK)) hS).1.1.2.1
      refine z_auto rfl ?_
      refine z_ald (k := 0) rfl rfl (by decide) ?_
      rw [hn]
      refine z_auto rfl ?_
      refine z_br rfl (fun c => ?_) (fun c => ?_)
      · exact absurd c (nI_ge (by omega) (by omega))
      · refine z_auto rfl ?_
        refine z_cl rfl (m_priceOf hS (hJ.tr (zFa.M hK)) (l := i) (by omega) (fun L hL => ?_))
        have h2 := ih (i + 1) (by omega) L (hK.tr hL)
        rw [fPs, nI_succ] at h2
        refine z_auto rfl ?_
        rw [nI_add]
        refine z_auto rfl ?_
        refine z_jp rfl ?_
        exact h2
  refine z_auto rfl ?_
  refine z_jp rfl ?_
  exact loop n 0 (by omega) J zFM.rf
set_option maxHeartbeats 4000000 in
set_option maxRecDepth 100000 in
theorem p_told (x1 : Int32) : zPr 73 139 [zi x1] := by
  intro d I rl rs hR
  obtain ⟨C, n, k, t, hS, h14, h15⟩ := r_st hR
  obtain ⟨⟨b1, b2, b3, b4, b5, b6⟩, hC, hH⟩ := hS
  have hS : zSt8 I C n k t := ⟨⟨b1, b2, b3, b4, b5, b6⟩, hC, hH⟩
  obtain ⟨e1, e2, e3, e4, e5⟩ := b6
  rcases n_cases x1 7 (by decide) with ⟨w, hw, rfl⟩ | hx
  · rcases w with _ | _ | _ | _ | _ | _ | _ | _ | w
    · refine z_auto rfl ?_
      refine z_jp rfl ?_
      refine z_auto rfl ?_
      refine z_rt rfl (zPr_i (fun rl' rs' => ?_))
      refine z_auto rfl ?_
      refine z_jp rfl ?_
      refine z_auto rfl ?_
      refine z_ald (k := 6) rfl rfl (by decide) ?_
      refine z_auto rfl ?_
      exact z_rt rfl (zPr_o2 (by rw [e1, e2]) hR)
    · refine z_auto rfl ?_
      refine z_jp rfl ?_
      refine z_auto rfl ?_
      refine z_cl rfl (s_bear hC ?_)
      refine z_auto rfl ?_
      refine z_rt rfl (zPr_i (fun rl' rs' => ?_))
      refine z_auto rfl ?_
      refine z_jp rfl ?_
      refine z_auto rfl ?_
      refine z_cl rfl (m_tells0 hH ?_)
      refine z_auto rfl ?_
      exact z_rt rfl (zPr_o hR)
    · refine z_auto rfl ?_
      refine z_jp rfl ?_
      refine z_auto rfl ?_
      refine z_cl rfl (s_holding hC.1 hC.2.1 ?_)
      refine z_auto rfl ?_
      refine z_cl rfl (s_last (w := 1) hC.2.2.1 (by omega) ?_)
      refine z_auto rfl ?_
      refine z_rt rfl (zPr_i (fun rl' rs' => ?_))
      refine z_auto rfl ?_
      refine z_jp rfl ?_
      refine z_auto rfl ?_
      refine z_cl rfl (m_tells1 hH ?_)
      refine z_auto rfl ?_
      exact z_rt rfl (zPr_o hR)
    · refine z_auto rfl ?_
      refine z_jp rfl ?_
      refine z_auto rfl ?_
      refine z_rt rfl (zPr_i (fun rl' rs' => ?_))
      refine z_auto rfl ?_
      refine z_jp rfl ?_
      refine z_auto rfl ?_
      refine z_ald (k := 7) rfl rfl (by decide) ?_
      refine z_auto rfl ?_
      exact z_rt rfl (zPr_o2 (by rw [e4]) hR)
    · refine z_auto rfl ?_
      refine z_jp rfl ?_
      have mrun : ∀ v : Int32, v = 1 - I 40 0 8 → ∀ rl' rs', zWm (d + 12) 139 [zr 10 0, zi (nI 4)] I (zRR rl' rs') (fun v2 I2 G2 => some (zi v) = v2 ∧ zRel I2 ∧ ∃ rl2 rs2, G2 = zRR rl2 rs2) := by
        intro v hv rl' rs'
        refine z_auto rfl ?_
        refine z_jp rfl ?_
        refine z_auto rfl ?_
        refine z_ald (k := 8) rfl rfl (by decide) ?_
        refine z_auto rfl ?_
        exact z_rt rfl (zPr_o2 (by rw [hv]) hR)
      rcases e5 with ⟨q1, q2⟩ | ⟨q1, q2⟩
      · refine z_auto rfl ?_
        refine z_br rfl (fun c => ?_) (fun c => ?_)
        · rw [q1] at c
          exact absurd c (by decide)
        · refine z_auto rfl ?_
          refine z_jp rfl ?_
          refine z_auto rfl ?_
          exact z_rt rfl (zPr_i (mrun _ (by rw [q2]; rfl)))
      · refine z_auto rfl ?_
        refine z_br rfl (fun c => ?_) (fun c => ?_)
        · refine z_auto rfl ?_
          refine z_jp rfl ?_
          refine z_auto rfl ?_
          exact z_rt rfl (zPr_i (mrun _ (by rw [q2]; rfl)))
        · exact absurd q1 c
    · refine z_auto rfl ?_
      refine z_jp rfl ?_
      refine z_auto rfl ?_
      refine z_cl rfl (s_weight hC.2.2.2.1 hC.2.2.2.2.1 ?_)
      refine z_auto rfl ?_
      refine z_rt rfl (zPr_i (fun rl' rs' => ?_))
      refine z_auto rfl ?_
      refine z_jp rfl ?_
      refine z_auto rfl ?_
      refine z_cl rfl (m_weight b1.2.1 b1.2.2.1 ?_)
      refine z_auto rfl ?_
      exact z_rt rfl (zPr_o2 (by
        rw [zww_cong n (fun k hk => by
          obtain ⟨kd, v, th, w, sd, q, ⟨p0, p1, p2, p3, p4⟩, r1, r2, r3, r4, r5⟩ := b1.2.2.2.1 k hk
          exact p3.trans r4.symm)]) hR)
    · refine z_auto rfl ?_
      refine z_jp rfl ?_
      refine z_auto rfl ?_
      refine z_cl rfl (s_prices hC (fun J hJ => ?_))
      refine z_auto rfl ?_
      refine z_rt rfl (zPr_i (fun rl' rs' => ?_))
      refine z_auto rfl ?_
      refine z_jp rfl ?_
      refine z_auto rfl ?_
      refine z_cl rfl (m_prices hS (zFa.r hJ) (fun K hK => ?_))
      refine z_auto rfl ?_
      exact z_rt rfl (zPr_o (zRel_M hK (zRel_r hJ hR)))
    · refine z_auto rfl ?_
      refine z_jp rfl ?_
      refine z_auto rfl ?_
      refine z_rt rfl (zPr_i (fun rl' rs' => ?_))
      refine z_auto rfl ?_
      refine z_jp rfl ?_
      refine z_auto rfl ?_
      refine z_ald (k := 9) rfl rfl (by decide) ?_
      refine z_auto rfl ?_
      exact z_rt rfl (zPr_o2 (by rw [b1.2.2.2.2.2.2.1]) hR)
    · omega
  · refine z_auto rfl ?_
    refine z_sw rfl (fun q hq hx2 => ?_) (fun hn => ?_)
    · exfalso
      have hq : q ∈ [((0 : Int32), 1), (1, 2), (2, 3), (3, 4), (4, 5), (5, 8), (6, 9), (7, 10)] := hq
      simp only [List.mem_cons, List.not_mem_nil, or_false] at hq
      rcases hq with rfl | rfl | rfl | rfl | rfl | rfl | rfl | rfl <;> (subst hx2; revert hx; decide)
    · refine z_auto rfl ?_
      refine z_rt rfl (zPr_i (fun rl' rs' => ?_))
      refine z_auto rfl ?_
      refine z_sw rfl (fun q hq hx2 => ?_) (fun hn => ?_)
      · exfalso
        have hq : q ∈ [((0 : Int32), 1), (1, 2), (2, 3), (3, 4), (4, 5), (5, 6), (6, 7), (7, 8)] := hq
        simp only [List.mem_cons, List.not_mem_nil, or_false] at hq
        rcases hq with rfl | rfl | rfl | rfl | rfl | rfl | rfl | rfl <;> (subst hx2; revert hx; decide)
      · refine z_auto rfl ?_
        exact z_rt rfl (zPr_o hR)
end
end
section
/-! of -/
section
set_option maxHeartbeats 4000000 in
set_option maxRecDepth 100000 in
theorem p_of (x1 x2 : Int32) : zPr 68 132 [zi x1, zi x2] := by
  intro d I rl rs hR
  obtain ⟨C, n, k, t, hS, h14, h15⟩ := r_st hR
  obtain ⟨⟨b1, b2, b3, b4, b5, b6⟩, hC, hH⟩ := hS
  have hS : zSt8 I C n k t := ⟨⟨b1, b2, b3, b4, b5, b6⟩, hC, hH⟩
  have hn := b1.1
  have hm := b1.2.1
  have h8 := b1.2.2.1
  rcases n_lay x1 n h8 with ⟨l, hl, rfl⟩ | hx1
  · obtain ⟨kd, v, th, w, sd, q, ⟨p0, p1, p2, p3, p4⟩, r1, r2, r3, r4, r5⟩ := b1.2.2.2.1 l hl
    refine z_auto rfl ?_
    refine z_cl rfl (c_has_y hn h8 hl ?_)
    refine z_auto rfl ?_
    refine z_jp rfl ?_
    have mrun : ∀ w : Nat, w ≤ 4 → ∀ v : Int32, v = I 40 0 (10 + 8 * w + l) → ∀ rl' rs', zWm (d + 12) 132 [zr 10 0, zi (nI l), zi (nI w)] I (zRR rl' rs') (fun v2 I2 G2 => some (zi v) = v2 ∧ zRel I2 ∧ ∃ rl2 rs2, G2 = zRR rl2 rs2) := by
      intro w hw v hv rl' rs'
      refine z_auto rfl ?_
      refine z_cl rfl (m_isLayer_y hm h8 hl ?_)
      refine z_auto rfl ?_
      refine z_jp rfl ?_
      refine z_auto rfl ?_
      refine z_br rfl (fun c => ?_) (fun c => ?_)
      · refine z_auto rfl ?_
        refine z_br rfl (fun c2 => ?_) (fun c2 => ?_)
        · refine z_auto rfl ?_
          refine z_cl rfl (m_in_y (lo := 0) (hi := 4) (Nat.zero_le _) hw (by decide) ?_)
          refine z_auto rfl ?_
          refine z_st rfl ?_
          have hix : (10 : Int32) + 8 * nI w + nI l = nI (10 + 8 * w + l) := by
            rw [Int32.mul_comm 8 (nI w), show nI w * 8 = nI (8 * w) by rw [show nI w * 8 = nI (w * 8) from pk_mul w 8, Nat.mul_comm], show (10 : Int32) + nI (8 * w) = nI (10 + 8 * w) from nI_add 10 (8 * w)]
            exact nI_add _ _
          refine z_auto rfl ?_
          refine z_ald (k := (10 + 8 * w + l)) rfl hix (by show 10 + 8 * w + l < 937; omega) ?_
          refine z_auto rfl ?_
          refine z_jp rfl ?_
          refine z_auto rfl ?_
          exact z_rt rfl (zPr_o2 (by rw [hv]) hR)
        · exact absurd ((nI_eq (a := w) (b := 6) (by omega) (by decide)).mp (Classical.not_not.mp c2)) (by omega)
      · exact absurd ((nI_eq (a := w) (b := 5) (by omega) (by decide)).mp (Classical.not_not.mp c)) (by omega)
    rcases n_cases x2 6 (by decide) with ⟨w2, hw, rfl⟩ | hx
    · rcases w2 with _ | _ | _ | _ | _ | _ | _ | w2
      · refine z_auto rfl ?_
        refine z_jp rfl ?_
        refine z_auto rfl ?_
        refine z_ald (k := l) rfl rfl (by show l < 8; omega) ?_
        refine z_auto rfl ?_
        exact z_rt rfl (zPr_i (mrun 0 (by decide) _ (p0.trans r1.symm)))
      · refine z_auto rfl ?_
        refine z_jp rfl ?_
        refine z_auto rfl ?_
        refine z_ald (k := l) rfl rfl (by show l < 8; omega) ?_
        refine z_auto rfl ?_
        exact z_rt rfl (zPr_i (mrun 1 (by decide) _ (p1.trans r2.symm)))
      · refine z_auto rfl ?_
        refine z_jp rfl ?_
        refine z_auto rfl ?_
        refine z_ald (k := l) rfl rfl (by show l < 8; omega) ?_
        refine z_auto rfl ?_
        exact z_rt rfl (zPr_i (mrun 2 (by decide) _ (p2.trans r3.symm)))
      · refine z_auto rfl ?_
        refine z_jp rfl ?_
        refine z_auto rfl ?_
        refine z_ald (k := l) rfl rfl (by show l < 8; omega) ?_
        refine z_auto rfl ?_
        exact z_rt rfl (zPr_i (mrun 3 (by decide) _ (p3.trans r4.symm)))
      · refine z_auto rfl ?_
        refine z_jp rfl ?_
        refine z_auto rfl ?_
        refine z_ald (k := l) rfl rfl (by show l < 8; omega) ?_
        refine z_auto rfl ?_
        exact z_rt rfl (zPr_i (mrun 4 (by decide) _ (p4.trans r5.symm)))
      · have mr5 : ∀ v : Int32, v = (I 40 0 9 >>> (nI l &&& 31)) &&& 1 → ∀ rl' rs', zWm (d + 12) 132 [zr 10 0, zi (nI l), zi (nI 5)] I (zRR rl' rs') (fun v2 I2 G2 => some (zi v) = v2 ∧ zRel I2 ∧ ∃ rl2 rs2, G2 = zRR rl2 rs2) := by
          intro v hv rl' rs'
          refine z_auto rfl ?_
          refine z_cl rfl (m_isLayer_y hm h8 hl ?_)
          refine z_auto rfl ?_
          refine z_jp rfl ?_
          refine z_auto rfl ?_
          refine z_st rfl ?_
          refine z_auto rfl ?_
          refine z_ald (k := 9) rfl rfl (by decide) ?_
          refine z_auto rfl ?_
          refine z_jp rfl ?_
          refine z_auto rfl ?_
          exact z_rt rfl (zPr_o2 (by rw [hv]) hR)
        have g7 := b1.2.2.2.2.2.2.1
        refine z_auto rfl ?_
        refine z_jp rfl ?_
        refine z_auto rfl ?_
        refine z_cl rfl (s_isBroken (fun c => ?_) (fun c => ?_))
        · refine z_auto rfl ?_
          refine z_st rfl ?_
          refine z_auto rfl ?_
          refine z_jp rfl ?_
          refine z_auto rfl ?_
          exact z_rt rfl (zPr_i (mr5 _ (by rw [← g7, c])))
        · refine z_auto rfl ?_
          refine z_jp rfl ?_
          refine z_auto rfl ?_
          refine z_jp rfl ?_
          refine z_auto rfl ?_
          exact z_rt rfl (zPr_i (mr5 _ (by
            rw [← g7]
            rw [b_a1] at c ⊢
            split
            · rename_i c2
              rw [if_pos c2] at c
              exact absurd rfl c
            · rfl)))
      · refine z_auto rfl ?_
        refine z_jp rfl ?_
        refine z_auto rfl ?_
        refine z_cl rfl (s_price hC hl (fun J hJ => ?_))
        refine z_auto rfl ?_
        refine z_rt rfl (zPr_i (fun rl' rs' => ?_))
        have hmJ : J 40 0 0 = nI n := (hJ 40 0 0 (by decide) (by decide) (Or.inl (by decide))).trans hm
        refine z_auto rfl ?_
        refine z_cl rfl (m_isLayer_y hmJ h8 hl ?_)
        refine z_auto rfl ?_
        refine z_jp rfl ?_
        refine z_auto rfl ?_
        refine z_jp rfl ?_
        refine z_auto rfl ?_
        refine z_st rfl ?_
        refine z_auto rfl ?_
        refine z_cl rfl (m_priceOf hS (zFa.r hJ) hl (fun K hK => ?_))
        refine z_auto rfl ?_
        refine z_jp rfl ?_
        refine z_auto rfl ?_
        exact z_rt rfl (zPr_o (zRel_M hK (zRel_r hJ hR)))
      · omega
    · refine z_auto rfl ?_
      refine z_sw rfl (fun q hq hx2 => ?_) (fun hn => ?_)
      · exfalso
        have hq : q ∈ [((0 : Int32), 2), (1, 3), (2, 4), (3, 5), (4, 6), (5, 7), (6, 10)] := hq
        simp only [List.mem_cons, List.not_mem_nil, or_false] at hq
        rcases hq with rfl | rfl | rfl | rfl | rfl | rfl | rfl <;> (subst hx2; revert hx; decide)
      · refine z_auto rfl ?_
        refine z_rt rfl (zPr_i (fun rl' rs' => ?_))
        refine z_auto rfl ?_
        refine z_cl rfl (m_isLayer_y hm h8 hl ?_)
        refine z_auto rfl ?_
        refine z_jp rfl ?_
        refine z_auto rfl ?_
        refine z_br rfl (fun c => ?_) (fun c => ?_)
        · refine z_auto rfl ?_
          refine z_br rfl (fun c2 => ?_) (fun c2 => ?_)
          · refine z_auto rfl ?_
            refine z_cl rfl (m_in_n (hx.imp id (fun q => Int32.lt_trans (by decide) q)) ?_)
            refine z_auto rfl ?_
            refine z_jp rfl ?_
            refine z_auto rfl ?_
            refine z_jp rfl ?_
            refine z_auto rfl ?_
            exact z_rt rfl (zPr_o hR)
          · have c2 := Classical.not_not.mp c2
            subst c2
            exact absurd hx (by decide)
        · have c := Classical.not_not.mp c
          subst c
          exact absurd hx (by decide)
  · refine z_auto rfl ?_
    refine z_cl rfl (c_has_n hn h8 hx1 ?_)
    refine z_auto rfl ?_
    refine z_st rfl ?_
    refine z_auto rfl ?_
    refine z_rt rfl (zPr_i (fun rl' rs' => ?_))
    refine z_auto rfl ?_
    refine z_cl rfl (m_isLayer_n hm h8 hx1 ?_)
    refine z_auto rfl ?_
    refine z_st rfl ?_
    refine z_auto rfl ?_
    exact z_rt rfl (zPr_o hR)
end
end
section
/-! as -/
section
variable {d : Nat} {B : List (List zAI)} {is : List zAI} {L : zXL} {S : List zAV} {I : zMI} {G : zMR} {Q : zPQ} {k : Nat} {x : Int32}
theorem z_tld (hx : x = nI k) (hk : k < 7) (kk : zW d B is L (zi (ztab k) :: S) I G Q) : zW d B ((17, 0, 0, 0) :: is) L (zi x :: zr 61 0 :: S) I G Q := by
  have e : zex (17, 0, 0, 0) L (zi x :: zr 61 0 :: S) I G = (if zsh 61 = 1 then (if 0 ≤ x ∧ x.toNatClampNeg < zal 61 then zeN (L, zi (I 61 0 x.toNatClampNeg) :: S, I, G) else zeF) else if zsh 61 = 5 then (if 0 ≤ x ∧ x.toNatClampNeg < 7 then zeN (L, zi (ztab x.toNatClampNeg) :: S, I, G) else zeF) else zeF) := rfl
  subst hx
  have hcl : (nI k).toNatClampNeg = k := nI_clamp (by omega)
  rw [if_neg (by decide), if_pos (by decide), hcl, if_pos ⟨nI_pos' (by omega), hk⟩] at e
  exact z_st e kk
def fUn (kd k : Nat) : Int32 := if k = 0 ∨ k = kd ∨ (0 < k ∧ k < 4 ∧ kd = k + 3) then 1 else 0
theorem n_7 {k : Nat} (h : k ≤ 6) : k = 0 ∨ k = 1 ∨ k = 2 ∨ k = 3 ∨ k = 4 ∨ k = 5 ∨ k = 6 := by omega
set_option maxHeartbeats 4000000 in
set_option maxRecDepth 100000 in
theorem m_isUnder {kd k : Nat} (h1 : kd ≤ 6) (h2 : k ≤ 6) (h : Q (some (zi (fUn kd k))) I G) : zWm d 163 [zi (nI kd), zi (nI k)] I G Q := by
  rcases n_7 h1 with rfl | rfl | rfl | rfl | rfl | rfl | rfl <;> rcases n_7 h2 with rfl | rfl | rfl | rfl | rfl | rfl | rfl <;>
    repeat (refine z_auto rfl ?_; first | exact z_rt rfl h | refine z_jp rfl ?_ | refine z_st rfl ?_)
set_option maxHeartbeats 4000000 in
set_option maxRecDepth 100000 in
theorem s_isUnder {kd k : Nat} (h1 : kd ≤ 6) (h2 : k ≤ 6) (h : Q (some (zi (fUn kd k))) I G) : zWm d 27 [zi (nI kd), zi (nI k)] I G Q := by
  rcases n_7 h1 with rfl | rfl | rfl | rfl | rfl | rfl | rfl <;> rcases n_7 h2 with rfl | rfl | rfl | rfl | rfl | rfl | rfl <;>
    repeat (refine z_auto rfl ?_; first | exact z_rt rfl h | refine z_jp rfl ?_ | refine z_st rfl ?_)
set_option maxHeartbeats 4000000 in
set_option maxRecDepth 100000 in
theorem p_as (x1 x2 : Int32) : zPr 90 172 [zi x1, zi x2] := by
  intro d I rl rs hR
  have hR0 := hR
  obtain ⟨n, k, t, ⟨b1, b2, b3, b4, b5, b6⟩, -, -, -, -, -⟩ := hR0
  have hn := b1.1
  have hm := b1.2.1
  have h8 := b1.2.2.1
  rcases n_lay x1 n h8 with ⟨l, hl, rfl⟩ | hx1
  · obtain ⟨kd, v, th, w, sd, q, ⟨p0, p1, -, -, -⟩, r1, r2, -, -, -⟩ := b1.2.2.2.1 l hl
    refine z_auto rfl ?_
    refine z_cl rfl (c_has_y hn h8 hl ?_)
    refine z_auto rfl ?_
    refine z_st rfl ?_
    rcases n_cases x2 6 (by decide) with ⟨j, hj, rfl⟩ | hx2
    · refine z_auto rfl ?_
      refine z_cl rfl (c_isKind_y hj ?_)
      refine z_auto rfl ?_
      refine z_jp rfl ?_
      refine z_auto rfl ?_
      refine z_ald (k := l) rfl rfl (by show l < 8; omega) ?_
      rw [p0]
      refine z_auto rfl ?_
      refine z_cl rfl (s_isUnder (by omega) hj ?_)
      have mrun : ∀ v2 : Int32, v2 = (if fUn kd j = 0 then -6 else nI v) → ∀ rl' rs', zWm (d + 12) 172 [zr 10 0, zi (nI l), zi (nI j)] I (zRR rl' rs') (fun v3 I2 G2 => some (zi v2) = v3 ∧ zRel I2 ∧ ∃ rl2 rs2, G2 = zRR rl2 rs2) := by
        intro v2 hv rl' rs'
        refine z_auto rfl ?_
        refine z_cl rfl (m_isLayer_y hm h8 hl ?_)
        refine z_auto rfl ?_
        refine z_st rfl ?_
        refine z_auto rfl ?_
        refine z_cl rfl (m_in_y (lo := 0) (hi := 6) (Nat.zero_le _) hj (by decide) ?_)
        refine z_auto rfl ?_
        refine z_jp rfl ?_
        refine z_auto rfl ?_
        refine z_ald (k := (10 + l)) rfl (nI_add 10 l) (by show 10 + l < 937; omega) ?_
        rw [r1]
        refine z_auto rfl ?_
        refine z_cl rfl (m_isUnder (by omega) hj ?_)
        refine z_auto rfl ?_
        refine z_br rfl (fun c => ?_) (fun c => ?_)
        · refine z_auto rfl ?_
          refine z_jp rfl ?_
          refine z_auto rfl ?_
          exact z_rt rfl (zPr_o2 (by rw [hv, if_pos c]) hR)
        · refine z_auto rfl ?_
          refine z_ald (k := (18 + l)) rfl (nI_add 18 l) (by show 18 + l < 937; omega) ?_
          rw [r2]
          refine z_auto rfl ?_
          refine z_jp rfl ?_
          refine z_auto rfl ?_
          exact z_rt rfl (zPr_o2 (by rw [hv, if_neg c]) hR)
      refine z_auto rfl ?_
      refine z_br rfl (fun c => ?_) (fun c => ?_)
      · refine z_auto rfl ?_
        refine z_jp rfl ?_
        refine z_auto rfl ?_
        exact z_rt rfl (zPr_i (mrun _ (by rw [if_pos c])))
      · refine z_auto rfl ?_
        refine z_ald (k := l) rfl rfl (by show l < 8; omega) ?_
        rw [p1]
        refine z_auto rfl ?_
        refine z_jp rfl ?_
        refine z_auto rfl ?_
        exact z_rt rfl (zPr_i (mrun _ (by rw [if_neg c])))
    · refine z_auto rfl ?_
      refine z_cl rfl (c_isKind_n hx2 ?_)
      refine z_auto rfl ?_
      refine z_st rfl ?_
      refine z_auto rfl ?_
      refine z_jp rfl ?_
      refine z_auto rfl ?_
      refine z_rt rfl (zPr_i (fun rl' rs' => ?_))
      refine z_auto rfl ?_
      refine z_cl rfl (m_isLayer_y hm h8 hl ?_)
      refine z_auto rfl ?_
      refine z_st rfl ?_
      refine z_auto rfl ?_
      refine z_cl rfl (m_in_n hx2 ?_)
      refine z_auto rfl ?_
      refine z_st rfl ?_
      refine z_auto rfl ?_
      refine z_jp rfl ?_
      refine z_auto rfl ?_
      exact z_rt rfl (zPr_o hR)
  · refine z_auto rfl ?_
    refine z_cl rfl (c_has_n hn h8 hx1 ?_)
    refine z_auto rfl ?_
    refine z_jp rfl ?_
    refine z_auto rfl ?_
    refine z_rt rfl (zPr_i (fun rl' rs' => ?_))
    refine z_auto rfl ?_
    refine z_cl rfl (m_isLayer_n hm h8 hx1 ?_)
    refine z_auto rfl ?_
    refine z_jp rfl ?_
    refine z_auto rfl ?_
    exact z_rt rfl (zPr_o hR)
end
end
section
/-! layer -/
section
variable {d : Nat} {I : zMI} {rl rs : Option (Nat × Nat)} {Q : zPQ} {G : zMR}
set_option maxHeartbeats 4000000 in
set_option maxRecDepth 100000 in
theorem m_in_c {x lo hi : Int32} (h1 : ¬ x < lo → ¬ hi < x → Q (some (zi 1)) I G) (h0 : (x < lo ∨ hi < x) → Q (some (zi 0)) I G) : zWm d 110 [zi x, zi lo, zi hi] I G Q := by
  refine z_auto rfl ?_
  refine z_br rfl (fun c => ?_) (fun c => ?_)
  · refine z_auto rfl ?_
    refine z_jp rfl ?_
    refine z_auto rfl ?_
    exact z_rt rfl (h0 (Or.inl c))
  · refine z_auto rfl ?_
    refine z_br rfl (fun c2 => ?_) (fun c2 => ?_)
    · refine z_auto rfl ?_
      refine z_jp rfl ?_
      refine z_auto rfl ?_
      exact z_rt rfl (h0 (Or.inr c2))
    · refine z_auto rfl ?_
      refine z_jp rfl ?_
      refine z_auto rfl ?_
      exact z_rt rfl (h1 c c2)
theorem r_clr {x : Int32} {n : Nat} (hn : n < 32) (h : bt x n = false) : x &&& ((1 <<< (nI n &&& 31)) ^^^ (-1)) = x := by
  refine b_ext (fun i hi => ?_)
  rw [b_and, b_xor, b_sh1 n hn hi, b_m1 i hi]
  by_cases c : i = n
  · subst c
    rw [h]
    rfl
  · rw [decide_eq_false c]
    cases bt x i <;> rfl
theorem zRel_lay {I M J : zMI} (hR : zRel I) {n kd v th w sd : Nat} (hn : I 40 0 0 = nI n) (h8 : n < 8) (hq : kd < 7 ∧ v ≤ 9 ∧ 1 ≤ th ∧ th ≤ 9 ∧ w ≤ 20 ∧ sd < 4) {B : Int32} (hB : bt (I 40 0 9) n = false → B = I 40 0 9)
    (hM : M = zup (zup (zup (zup (zup (zup I 20 0 n (nI kd)) 21 0 n (nI v)) 22 0 n (nI th)) 23 0 n (nI w)) 24 0 n (nI sd)) 4 0 7 (nI (n + 1)))
    (hJ : J = zup (zup (zup (zup (zup (zup (zup (zup (zup (zup M 40 0 (10 + n) (nI kd)) 40 0 (18 + n) (nI v)) 40 0 (26 + n) (nI th)) 40 0 (34 + n) (nI w)) 40 0 (42 + n) (nI sd)) 40 0 9 B) 40 0 (50 + n * 3 + 0) 0) 40 0 (50 + n * 3 + 1) 0) 40 0 (50 + n * 3 + 2) 0) 40 0 0 (nI (n + 1))) : zRel J := by
  have A : ∀ c i k, c ≠ 40 → J c i k = M c i k := fun c i k h1 => by
    rw [hJ]
    repeat rw [zup_c h1]
  have B0 : ∀ k, k ≠ 0 → k ≠ 9 → k ≠ 10 + n → k ≠ 18 + n → k ≠ 26 + n → k ≠ 34 + n → k ≠ 42 + n → ¬ (50 + n * 3 ≤ k ∧ k < 50 + n * 3 + 3) → J 40 0 k = I 40 0 k := fun k a1 a2 a3 a4 a5 a6 a7 a8 => by
    rw [hJ, hM]
    repeat rw [zup_ne (by omega)]
  have v0 : J 40 0 0 = nI (n + 1) := by rw [hJ, zup_eq]
  have v9 : J 40 0 9 = B := by
    rw [hJ]
    repeat (first | rw [zup_eq] | rw [zup_ne (by omega)])
  have va : J 40 0 (10 + n) = nI kd := by
    rw [hJ]
    repeat (first | rw [zup_eq] | rw [zup_ne (by omega)])
  have vb : J 40 0 (18 + n) = nI v := by
    rw [hJ]
    repeat (first | rw [zup_eq] | rw [zup_ne (by omega)])
  have vc : J 40 0 (26 + n) = nI th := by
    rw [hJ]
    repeat (first | rw [zup_eq] | rw [zup_ne (by omega)])
  have vd : J 40 0 (34 + n) = nI w := by
    rw [hJ]
    repeat (first | rw [zup_eq] | rw [zup_ne (by omega)])
  have ve : J 40 0 (42 + n) = nI sd := by
    rw [hJ]
    repeat (first | rw [zup_eq] | rw [zup_ne (by omega)])
  have vf : ∀ x, x < 3 → J 40 0 (50 + n * 3 + x) = nI 0 := by
    intro x hx
    rw [hJ]
    rcases (show x = 0 ∨ x = 1 ∨ x = 2 by omega) with rfl | rfl | rfl
    · repeat (first | rw [zup_eq] | rw [zup_ne (by omega)])
      rfl
    · repeat (first | rw [zup_eq] | rw [zup_ne (by omega)])
      rfl
    · repeat (first | rw [zup_eq] | rw [zup_ne (by omega)])
      rfl
  have C0 : ∀ c i k, c ≠ 40 → ¬ (c = 4 ∧ i = 0 ∧ k = 7) → ¬ (20 ≤ c ∧ c ≤ 24 ∧ i = 0 ∧ k = n) → J c i k = I c i k := fun c i k a1 a2 a3 => by
    rw [A c i k a1, hM]
    repeat rw [zup_ne (by omega)]
  have w4 : J 4 0 7 = nI (n + 1) := by rw [A _ _ _ (by decide), hM, zup_eq]
  have w20 : J 20 0 n = nI kd := by
    rw [A _ _ _ (by decide), hM]
    repeat (first | rw [zup_eq] | rw [zup_ne (by omega)])
  have w21 : J 21 0 n = nI v := by
    rw [A _ _ _ (by decide), hM]
    repeat (first | rw [zup_eq] | rw [zup_ne (by omega)])
  have w22 : J 22 0 n = nI th := by
    rw [A _ _ _ (by decide), hM]
    repeat (first | rw [zup_eq] | rw [zup_ne (by omega)])
  have w23 : J 23 0 n = nI w := by
    rw [A _ _ _ (by decide), hM]
    repeat (first | rw [zup_eq] | rw [zup_ne (by omega)])
  have w24 : J 24 0 n = nI sd := by
    rw [A _ _ _ (by decide), hM]
    repeat (first | rw [zup_eq] | rw [zup_ne (by omega)])
  have Z0 : ∀ i k, i ≠ 0 → J 40 i k = I 40 i k := fun i k h1 => by
    rw [hJ, hM]
    repeat rw [zup_ne (by omega)]
  clear hJ hM
  refine zRel_L hR (fun c i k h1 h2 => ?_) (fun n' hL => ?_)
  · by_cases c40 : c = 40
    · subst c40
      by_cases i0 : i = 0
      · subst i0
        exact B0 k (by omega) (by omega) (by omega) (by omega) (by omega) (by omega) (by omega) (by omega)
      · exact Z0 i k i0
    · exact C0 c i k c40 (by omega) (by omega)
  · obtain ⟨g1, g2, g3, g4, g5, g6, g7, g8⟩ := hL
    have hnn : n' = n := (nI_eq (a := n') (b := n) (by omega) (by omega)).mp (g2.symm.trans hn)
    subst hnn
    refine ⟨n' + 1, w4, v0, by omega, fun i hi => ?_, fun i x hi hx => ?_, fun x h1 h2 => ?_, ?_, fun i hi => ?_⟩
    · by_cases e : i = n'
      · subst e
        exact ⟨kd, v, th, w, sd, hq, ⟨w20, w21, w22, w23, w24⟩, va, vb, vc, vd, ve⟩
      · rw [C0 20 0 i (by decide) (by omega) (by omega), C0 21 0 i (by decide) (by omega) (by omega), C0 22 0 i (by decide) (by omega) (by omega), C0 23 0 i (by decide) (by omega) (by omega), C0 24 0 i (by decide) (by omega) (by omega)]
        rw [B0 (10 + i) (by omega) (by omega) (by omega) (by omega) (by omega) (by omega) (by omega) (by omega), B0 (18 + i) (by omega) (by omega) (by omega) (by omega) (by omega) (by omega) (by omega) (by omega), B0 (26 + i) (by omega) (by omega) (by omega) (by omega) (by omega) (by omega) (by omega) (by omega), B0 (34 + i) (by omega) (by omega) (by omega) (by omega) (by omega) (by omega) (by omega) (by omega), B0 (42 + i) (by omega) (by omega) (by omega) (by omega) (by omega) (by omega) (by omega) (by omega)]
        exact g4 i (by omega)
    · rw [C0 25 0 _ (by decide) (by omega) (by omega)]
      by_cases e : i = n'
      · subst e
        exact ⟨0, by decide, (g6 _ (by omega) (by omega)), vf x hx⟩
      · rw [B0 (50 + i * 3 + x) (by omega) (by omega) (by omega) (by omega) (by omega) (by omega) (by omega) (by omega)]
        exact g5 i x (by omega) hx
    · rw [C0 25 0 _ (by decide) (by omega) (by omega)]
      exact g6 x (by omega) h2
    · rw [C0 4 0 6 (by decide) (by omega) (by omega), v9, hB (g8 _ (Nat.le_refl _))]
      exact g7
    · rw [v9, hB (g8 _ (Nat.le_refl _))]
      exact g8 i (by omega)
set_option maxHeartbeats 4000000 in
set_option maxRecDepth 100000 in
theorem p_layer (x1 x2 x3 x4 x5 : Int32) : zPr 67 131 [zi x1, zi x2, zi x3, zi x4, zi x5] := by
  intro d I rl rs hR
  have hR0 := hR
  obtain ⟨n, k, t, ⟨b1, b2, b3, b4, b5, b6⟩, -, -, -, -, -⟩ := hR0
  have hn := b1.1
  have hm := b1.2.1
  have h8 := b1.2.2.1
  have g8 := b1.2.2.2.2.2.2.2
  rcases n_cases x1 6 (by decide) with ⟨kd, hkd, rfl⟩ | hx1
  · refine z_auto rfl ?_
    refine z_cl rfl (c_isKind_y hkd ?_)
    refine z_auto rfl ?_
    refine z_st rfl ?_
    rcases n_cases x5 3 (by decide) with ⟨sd, hsd, rfl⟩ | hx5
    · refine z_auto rfl ?_
      refine z_cl rfl (c_isSide_y hsd ?_)
      refine z_auto rfl ?_
      refine z_jp rfl ?_
      have mbad : (x2 < 0 ∨ 9 < x2 ∨ x3 < 1 ∨ 9 < x3 ∨ x4 < 0 ∨ 20 < x4) → ∀ rl' rs', zWm (d + 12) 131 [zr 10 0, zi (nI kd), zi x2, zi x3, zi x4, zi (nI sd)] I (zRR rl' rs') (fun v2 I2 G2 => some (zi (-2)) = v2 ∧ zRel I2 ∧ ∃ rl2 rs2, G2 = zRR rl2 rs2) := by
        intro hb rl' rs'
        refine z_auto rfl ?_
        refine z_cl rfl (m_in_y (lo := 0) (hi := 6) (Nat.zero_le _) hkd (by decide) ?_)
        refine z_auto rfl ?_
        refine z_st rfl ?_
        refine z_auto rfl ?_
        refine z_cl rfl (m_isSide_y hsd ?_)
        refine z_auto rfl ?_
        refine z_jp rfl ?_
        refine z_auto rfl ?_
        refine z_cl rfl (m_in_c (fun q1 q2 => ?_) (fun q => ?_))
        · refine z_auto rfl ?_
          refine z_st rfl ?_
          refine z_auto rfl ?_
          refine z_cl rfl (m_in_c (fun q3 q4 => ?_) (fun q => ?_))
          · refine z_auto rfl ?_
            refine z_st rfl ?_
            refine z_auto rfl ?_
            refine z_cl rfl (m_in_c (fun q5 q6 => ?_) (fun q => ?_))
            · exfalso
              rcases hb with q | q | q | q | q | q
              · exact q1 q
              · exact q2 q
              · exact q3 q
              · exact q4 q
              · exact q5 q
              · exact q6 q
            · refine z_auto rfl ?_
              refine z_st rfl ?_
              refine z_auto rfl ?_
              refine z_jp rfl ?_
              refine z_auto rfl ?_
              exact z_rt rfl (zPr_o hR)
          · refine z_auto rfl ?_
            refine z_jp rfl ?_
            refine z_auto rfl ?_
            exact z_rt rfl (zPr_o hR)
        · refine z_auto rfl ?_
          refine z_jp rfl ?_
          refine z_auto rfl ?_
          exact z_rt rfl (zPr_o hR)
      refine z_auto rfl ?_
      refine z_br rfl (fun c1 => ?_) (fun c1 => ?_)
      · refine z_auto rfl ?_
        exact z_rt rfl (zPr_i (mbad (by simp only [c1, true_or])))
      · refine z_auto rfl ?_
        refine z_br rfl (fun c2 => ?_) (fun c2 => ?_)
        · refine z_auto rfl ?_
          exact z_rt rfl (zPr_i (mbad (by simp only [c2, true_or, or_true])))
        · refine z_auto rfl ?_
          refine z_br rfl (fun c3 => ?_) (fun c3 => ?_)
          · refine z_auto rfl ?_
            exact z_rt rfl (zPr_i (mbad (by simp only [c3, true_or, or_true])))
          · refine z_auto rfl ?_
            refine z_br rfl (fun c4 => ?_) (fun c4 => ?_)
            · refine z_auto rfl ?_
              exact z_rt rfl (zPr_i (mbad (by simp only [c4, true_or, or_true])))
            · refine z_auto rfl ?_
              refine z_br rfl (fun c5 => ?_) (fun c5 => ?_)
              · refine z_auto rfl ?_
                exact z_rt rfl (zPr_i (mbad (by simp only [c5, true_or, or_true])))
              · refine z_auto rfl ?_
                refine z_br rfl (fun c6 => ?_) (fun c6 => ?_)
                · rcases n_cases x2 9 (by decide) with ⟨v, hv, rfl⟩ | q
                  · rcases n_cases x3 9 (by decide) with ⟨th, hth, rfl⟩ | q
                    · rcases n_cases x4 20 (by decide) with ⟨w, hw, rfl⟩ | q
                      · have hth1 : 1 ≤ th := by
                          rcases Nat.eq_zero_or_pos th with q | q
                          · subst q
                            exact absurd (by decide) c3
                          · exact q
                        refine z_auto rfl ?_
                        refine z_cl rfl (s_add hn h8 (fun e => ?_) (fun hlt => ?_))
                        · refine z_auto rfl ?_
                          refine z_rt rfl (zPr_i (fun rl' rs' => ?_))
                          refine z_auto rfl ?_
                          refine z_cl rfl (m_in_y (lo := 0) (hi := 6) (Nat.zero_le _) hkd (by decide) ?_)
                          refine z_auto rfl ?_
                          refine z_st rfl ?_
                          refine z_auto rfl ?_
                          refine z_cl rfl (m_isSide_y hsd ?_)
                          refine z_auto rfl ?_
                          refine z_jp rfl ?_
                          refine z_auto rfl ?_
                          refine z_cl rfl (m_in_y (lo := 0) (hi := 9) (Nat.zero_le _) hv (by decide) ?_)
                          refine z_auto rfl ?_
                          refine z_st rfl ?_
                          refine z_auto rfl ?_
                          refine z_cl rfl (m_in_y (lo := 1) (hi := 9) hth1 hth (by decide) ?_)
                          refine z_auto rfl ?_
                          refine z_st rfl ?_
                          refine z_auto rfl ?_
                          refine z_cl rfl (m_in_y (lo := 0) (hi := 20) (Nat.zero_le _) hw (by decide) ?_)
                          refine z_auto rfl ?_
                          refine z_jp rfl ?_
                          refine z_auto rfl ?_
                          refine z_ald (k := 0) rfl rfl (by decide) ?_
                          rw [hm, e]
                          refine z_auto rfl ?_
                          refine z_st rfl ?_
                          refine z_auto rfl ?_
                          exact z_rt rfl (zPr_o hR)
                        · refine z_auto rfl ?_
                          refine z_rt rfl (zPr_i (fun rl' rs' => ?_))
                          obtain ⟨M, hM⟩ : ∃ M, M = zup (zup (zup (zup (zup (zup I 20 0 n (nI kd)) 21 0 n (nI v)) 22 0 n (nI th)) 23 0 n (nI w)) 24 0 n (nI sd)) 4 0 7 (nI (n + 1)) := ⟨_, rfl⟩
                          rw [← hM]
                          have m0 : M 40 0 0 = nI n := by
                            rw [hM]
                            repeat rw [zup_c (by decide)]
                            exact hm
                          have m9 : M 40 0 9 = I 40 0 9 := by
                            rw [hM]
                            repeat rw [zup_c (by decide)]
                          have ix : ∀ j : Nat, (50 : Int32) + 3 * nI n + nI j = nI (50 + n * 3 + j) := fun j => by
                            rw [Int32.mul_comm 3 (nI n), show nI n * 3 = nI (n * 3) from pk_mul n 3, show (50 : Int32) + nI (n * 3) = nI (50 + n * 3) from nI_add 50 (n * 3)]
                            exact nI_add _ _
                          refine z_auto rfl ?_
                          refine z_cl rfl (m_in_y (lo := 0) (hi := 6) (Nat.zero_le _) hkd (by decide) ?_)
                          refine z_auto rfl ?_
                          refine z_st rfl ?_
                          refine z_auto rfl ?_
                          refine z_cl rfl (m_isSide_y hsd ?_)
                          refine z_auto rfl ?_
                          refine z_jp rfl ?_
                          refine z_auto rfl ?_
                          refine z_cl rfl (m_in_y (lo := 0) (hi := 9) (Nat.zero_le _) hv (by decide) ?_)
                          refine z_auto rfl ?_
                          refine z_st rfl ?_
                          refine z_auto rfl ?_
                          refine z_cl rfl (m_in_y (lo := 1) (hi := 9) hth1 hth (by decide) ?_)
                          refine z_auto rfl ?_
                          refine z_st rfl ?_
                          refine z_auto rfl ?_
                          refine z_cl rfl (m_in_y (lo := 0) (hi := 20) (Nat.zero_le _) hw (by decide) ?_)
                          refine z_auto rfl ?_
                          refine z_jp rfl ?_
                          refine z_auto rfl ?_
                          refine z_ald (k := 0) rfl rfl (by decide) ?_
                          rw [m0]
                          refine z_auto rfl ?_
                          refine z_br rfl (fun c7 => ?_) (fun c7 => ?_)
                          · refine z_auto rfl ?_
                            refine z_ald (k := 0) rfl rfl (by decide) ?_
                            rw [m0]
                            refine z_auto rfl ?_
                            refine z_ast (k := (10 + n)) rfl (nI_add 10 n) (by show 10 + n < 937; omega) ?_
                            refine z_auto rfl ?_
                            refine z_ast (k := (18 + n)) rfl (nI_add 18 n) (by show 18 + n < 937; omega) ?_
                            refine z_auto rfl ?_
                            refine z_ast (k := (26 + n)) rfl (nI_add 26 n) (by show 26 + n < 937; omega) ?_
                            refine z_auto rfl ?_
                            refine z_ast (k := (34 + n)) rfl (nI_add 34 n) (by show 34 + n < 937; omega) ?_
                            refine z_auto rfl ?_
                            refine z_ast (k := (42 + n)) rfl (nI_add 42 n) (by show 42 + n < 937; omega) ?_
                            refine z_auto rfl ?_
                            refine z_ald (k := 9) rfl rfl (by decide) ?_
                            rw [zup_ne (by omega), zup_ne (by omega), zup_ne (by omega), zup_ne (by omega), zup_ne (by omega), m9]
                            refine z_auto rfl ?_
                            refine z_ast (k := 9) rfl rfl (by decide) ?_
                            refine z_auto rfl ?_
                            refine z_jp rfl ?_
                            refine z_auto rfl ?_
                            refine z_st rfl ?_
                            refine z_auto rfl ?_
                            refine z_ast (k := (50 + n * 3 + 0)) rfl (ix 0) (by show 50 + n * 3 + 0 < 937; omega) ?_
                            refine z_auto rfl ?_
                            refine z_jp rfl ?_
                            refine z_auto rfl ?_
                            refine z_st rfl ?_
                            refine z_auto rfl ?_
                            refine z_ast (k := (50 + n * 3 + 1)) rfl (ix 1) (by show 50 + n * 3 + 1 < 937; omega) ?_
                            refine z_auto rfl ?_
                            refine z_jp rfl ?_
                            refine z_auto rfl ?_
                            refine z_st rfl ?_
                            refine z_auto rfl ?_
                            refine z_ast (k := (50 + n * 3 + 2)) rfl (ix 2) (by show 50 + n * 3 + 2 < 937; omega) ?_
                            refine z_auto rfl ?_
                            refine z_jp rfl ?_
                            refine z_auto rfl ?_
                            refine z_jp rfl ?_
                            refine z_auto rfl ?_
                            refine z_ald (k := 0) rfl rfl (by decide) ?_
                            rw [zup_ne (by omega), zup_ne (by omega), zup_ne (by omega), zup_ne (by omega), zup_ne (by omega), zup_ne (by omega), zup_ne (by omega), zup_ne (by omega), zup_ne (by omega), m0]
                            refine z_auto rfl ?_
                            rw [show nI n + 1 = nI (n + 1) from (nI_succ n).symm]
                            refine z_auto rfl ?_
                            refine z_ast (k := 0) rfl rfl (by decide) ?_
                            refine z_auto rfl ?_
                            exact z_rt rfl (zPr_o2 rfl (zRel_lay hR hm hlt ⟨by omega, hv, hth1, hth, hw, by omega⟩ (fun hb => r_clr (by omega) hb) hM rfl))
                          · exact absurd ((nI_eq (a := n) (b := 8) (by omega) (by decide)).mp (Classical.not_not.mp c7)) (by omega)
                      · exact absurd q (fun q => q.elim c5 (fun q => absurd q (Int32.not_lt.mpr c6)))
                    · exact absurd q (fun q => q.elim (fun q => c3 (Int32.lt_trans q (by decide))) c4)
                  · exact absurd q (fun q => q.elim c1 c2)
                · refine z_auto rfl ?_
                  refine z_jp rfl ?_
                  refine z_auto rfl ?_
                  exact z_rt rfl (zPr_i (mbad (by simp only [show 20 < x4 from Int32.not_le.mp c6, or_true])))
    · refine z_auto rfl ?_
      refine z_cl rfl (c_isSide_n hx5 ?_)
      refine z_auto rfl ?_
      refine z_st rfl ?_
      refine z_auto rfl ?_
      refine z_jp rfl ?_
      refine z_auto rfl ?_
      refine z_rt rfl (zPr_i (fun rl' rs' => ?_))
      refine z_auto rfl ?_
      refine z_cl rfl (m_in_y (lo := 0) (hi := 6) (Nat.zero_le _) hkd (by decide) ?_)
      refine z_auto rfl ?_
      refine z_st rfl ?_
      refine z_auto rfl ?_
      refine z_cl rfl (m_isSide_n hx5 ?_)
      refine z_auto rfl ?_
      refine z_st rfl ?_
      refine z_auto rfl ?_
      refine z_jp rfl ?_
      refine z_auto rfl ?_
      exact z_rt rfl (zPr_o hR)
  · refine z_auto rfl ?_
    refine z_cl rfl (c_isKind_n hx1 ?_)
    refine z_auto rfl ?_
    refine z_jp rfl ?_
    refine z_auto rfl ?_
    refine z_rt rfl (zPr_i (fun rl' rs' => ?_))
    refine z_auto rfl ?_
    refine z_cl rfl (m_in_n hx1 ?_)
    refine z_auto rfl ?_
    refine z_jp rfl ?_
    refine z_auto rfl ?_
    exact z_rt rfl (zPr_o hR)
end
end
section
/-! longs; the lowest terms -/
abbrev nL (n : Nat) : Int64 := (nI n).toInt64
theorem nI_int {n : Nat} (h : n < 2147483648) : (nI n).toInt = n := Int32.toInt_ofNat_of_lt h
theorem nL_int {n : Nat} (h : n < 2147483648) : (nL n).toInt = n := by
  rw [nL, Int32.toInt_toInt64, nI_int h]
theorem nL_ext {x : Int64} {n : Nat} (hn : n < 2147483648) (h : x.toInt = n) : x = nL n := Int64.toInt_inj.mp (h.trans (nL_int hn).symm)
theorem nL_add {a b : Nat} (h : a + b < 2147483648) : nL a + nL b = nL (a + b) := by
  refine nL_ext h ?_
  rw [Int64.toInt_add, nL_int (by omega), nL_int (by omega), Int.bmod_def]
  split <;> omega
theorem nL_div {a b : Nat} (ha : a < 2147483648) (hb : b < 2147483648) : nL a / nL b = nL (a / b) := by
  have h1 : a / b ≤ a := Nat.div_le_self a b
  refine nL_ext (by omega) ?_
  rw [Int64.toInt_div, nL_int ha, nL_int hb, show ((a : Int).tdiv b) = ((a / b : Nat) : Int) from (Int.ofNat_tdiv a b).symm ▸ rfl, Int.bmod_def]
  generalize a / b = q at h1
  split <;> omega
theorem nL_mul {a b : Nat} (h : a * b < 2147483648) (ha : a < 2147483648) (hb : b < 2147483648) : nL a * nL b = nL (a * b) := by
  refine nL_ext h ?_
  rw [Int64.toInt_mul, nL_int ha, nL_int hb, show ((a : Int) * b) = ((a * b : Nat) : Int) from (Int.natCast_mul a b).symm, Int.bmod_def]
  generalize a * b = c at h
  split <;> omega
theorem nL_rem {a b : Nat} (ha : a < 2147483648) (hb : b < 2147483648) : nL a - nL a / nL b * nL b = nL (a % b) := by
  have h1 : a / b ≤ a := Nat.div_le_self a b
  have h2 : a / b * b ≤ a := Nat.div_mul_le_self a b
  have h3 := Nat.mod_add_div a b
  rw [Nat.mul_comm] at h3
  rw [nL_div ha hb, nL_mul (by omega) (by omega) hb]
  refine nL_ext (by omega) ?_
  rw [Int64.toInt_sub, nL_int ha, nL_int (by omega), Int.bmod_def]
  generalize a / b * b = c at h2 h3
  split <;> omega
theorem nL_0 {b : Nat} (hb : b < 2147483648) : nL b = nL 0 ↔ b = 0 := by
  constructor
  · intro h
    have := congrArg Int64.toInt h
    rw [nL_int hb, nL_int (by decide)] at this
    omega
  · intro h
    rw [h]
theorem lg_0 {x y : Int64} : lg_cmp x y = 0 ↔ x = y := by
  unfold lg_cmp
  split
  · rename_i c
    constructor
    · intro h
      exact absurd h (by decide)
    · intro h
      subst h
      exact absurd c (Int64.lt_irrefl)
  · split
    · rename_i c
      exact ⟨fun _ => c, fun _ => rfl⟩
    · rename_i c
      constructor
      · intro h
        exact absurd h (by decide)
      · intro h
        exact absurd h c
section
variable {d : Nat} {I : zMI} {rl rs : Option (Nat × Nat)} {Q : zPQ} {G : zMR}
set_option maxHeartbeats 4000000 in
set_option maxRecDepth 100000 in
theorem m_lowest {a b p : Nat} (ha : a < 2147483648) (hb : b < 2147483648) (hb0 : 0 < b) (hp : p ≤ 1) (h : Q (some (zl (nL ((if p = 0 then a else b) / Nat.gcd a b)))) I G) : zWm d 157 [zl (nL a), zl (nL b), zi (nI p)] I G Q := by
  have loop : ∀ m x y, y ≤ m → x < 2147483648 → y < 2147483648 → Nat.gcd x y = Nat.gcd a b → ∀ u9, zW d kX10_lowest (zblk kX10_lowest 1) [some (zl (nL a)), none, some (zl (nL b)), none, some (zi (nI p)), some (zl (nL x)), none, some (zl (nL y)), none, u9, none] [] I G Q := by
    intro m
    induction m with
    | zero =>
      intro x y hy hx hy2 hg u9
      have : y = 0 := Nat.le_zero.mp hy
      subst this
      have hx0 : x = Nat.gcd a b := by rw [← hg, Nat.gcd_zero_right]
      have hx1 : 0 < x := by rw [hx0]; exact Nat.gcd_pos_of_pos_right a hb0
      refine z_auto rfl ?_
      refine z_jp rfl ?_
      rcases p with _ | _ | p
      · refine z_auto rfl ?_
        refine z_st rfl ?_
        refine z_auto rfl ?_
        refine z_jp rfl ?_
        refine z_auto rfl ?_
        refine z_ck rfl (fun q => absurd ((nL_0 hx).mp q) (by omega)) ?_
        rw [nL_div ha hx, hx0]
        refine z_auto rfl ?_
        exact z_rt rfl h
      · refine z_auto rfl ?_
        refine z_jp rfl ?_
        refine z_auto rfl ?_
        refine z_jp rfl ?_
        refine z_auto rfl ?_
        refine z_ck rfl (fun q => absurd ((nL_0 hx).mp q) (by omega)) ?_
        rw [nL_div hb hx, hx0]
        refine z_auto rfl ?_
        exact z_rt rfl h
      · omega
    | succ m ih =>
      intro x y hy hx hy2 hg u9
      rcases Nat.eq_zero_or_pos y with q | q
      · exact ih x y (by omega) hx hy2 hg u9
      · refine z_auto rfl ?_
        refine z_br rfl (fun c => ?_) (fun c => ?_)
        · exact absurd ((nL_0 hy2).mp (lg_0.mp c)) (by omega)
        · refine z_auto rfl ?_
          refine z_ck rfl (fun q => absurd ((nL_0 hy2).mp q) (by omega)) ?_
          rw [nL_rem hx hy2]
          have hm := Nat.mod_lt x q
          have h5 := ih y (x % y) (by omega) hy2 (by omega) (by rw [← hg, Nat.gcd_comm x y, Nat.gcd_rec y x, Nat.gcd_comm]) (some (zl (nL (x % y))))
          refine z_auto rfl ?_
          refine z_jp rfl ?_
          exact h5
  refine z_auto rfl ?_
  refine z_jp rfl ?_
  exact loop b a b (Nat.le_refl _) ha hb rfl none
set_option maxHeartbeats 4000000 in
set_option maxRecDepth 100000 in
theorem s_lowest {a b p : Nat} (ha : a < 2147483648) (hb : b < 2147483648) (hb0 : 0 < b) (hp : p ≤ 1) (h : Q (some (zl (nL ((if p = 0 then a else b) / Nat.gcd a b)))) I G) : zWm d 108 [zi (nI a), zi (nI b), zi (nI p)] I G Q := by
  have hgb : Nat.gcd a b ≤ b := Nat.gcd_le_right a hb0
  have loop : ∀ by2, Nat.gcd a b ≤ by2 → by2 ≤ b → zW d kX9_inLowestTerms (zblk kX9_inLowestTerms 1) [some (zi (nI a)), some (zi (nI b)), some (zi (nI p)), some (zi (nI by2))] [] I G Q := by
    intro by2
    induction by2 with
    | zero =>
      intro h1 h2
      have := Nat.gcd_pos_of_pos_right a hb0
      omega
    | succ e ih =>
      intro h1 h2
      refine z_auto rfl ?_
      refine z_br rfl (fun c => ?_) (fun c => ?_)
      · have he : e = 0 := by
          apply Classical.byContradiction
          intro q
          exact absurd (nI_lt (a := 1) (b := e + 1) (by omega) (by omega)) (Int32.not_lt.mpr c)
        subst he
        have hg : Nat.gcd a b = 1 := by
          have := Nat.gcd_pos_of_pos_right a hb0
          omega
        rcases p with _ | _ | p
        · refine z_auto rfl ?_
          refine z_st rfl ?_
          refine z_auto rfl ?_
          refine z_jp rfl ?_
          refine z_auto rfl ?_
          exact z_rt rfl (by rw [hg, Nat.div_one] at h; exact h)
        · refine z_auto rfl ?_
          refine z_jp rfl ?_
          refine z_auto rfl ?_
          refine z_jp rfl ?_
          refine z_auto rfl ?_
          exact z_rt rfl (by rw [hg, Nat.div_one] at h; exact h)
        · omega
      · have he : 0 < e := by
          apply Classical.byContradiction
          intro q
          have : e = 0 := by omega
          subst this
          exact c (Int32.le_refl _)
        have ne : ¬ nI (e + 1) = 0 := fun q => absurd ((nI_eq (a := e + 1) (b := 0) (by omega) (by decide)).mp q) (by omega)
        have nxt : ¬ (e + 1 ∣ a ∧ e + 1 ∣ b) → zW d kX9_inLowestTerms (zblk kX9_inLowestTerms 4) [some (zi (nI a)), some (zi (nI b)), some (zi (nI p)), some (zi (nI (e + 1)))] [] I G Q := by
          intro hnd
          have hne : Nat.gcd a b ≠ e + 1 := fun q => hnd (by rw [← q]; exact ⟨Nat.gcd_dvd_left a b, Nat.gcd_dvd_right a b⟩)
          have h5 := ih (by omega) (by omega)
          refine z_auto rfl ?_
          rw [m_dec]
          refine z_auto rfl ?_
          refine z_jp rfl ?_
          exact h5
        refine z_auto rfl ?_
        refine z_ck rfl ne ?_
        rw [show nI a - nI a / nI (e + 1) * nI (e + 1) = nI (a % (e + 1)) from pk_rem (a := a) (d := e + 1) (by omega) (by omega) (by omega)]
        refine z_auto rfl ?_
        refine z_br rfl (fun c2 => ?_) (fun c2 => ?_)
        · exact nxt (fun q => c2 (by rw [Nat.mod_eq_zero_of_dvd q.1]; rfl))
        · refine z_auto rfl ?_
          refine z_ck rfl ne ?_
          rw [show nI b - nI b / nI (e + 1) * nI (e + 1) = nI (b % (e + 1)) from pk_rem (a := b) (d := e + 1) (by omega) (by omega) (by omega)]
          refine z_auto rfl ?_
          refine z_br rfl (fun c3 => ?_) (fun c3 => ?_)
          · exact nxt (fun q => c3 (by rw [Nat.mod_eq_zero_of_dvd q.2]; rfl))
          · have hma := Nat.mod_lt a (show e + 1 > 0 by omega)
            have hmb := Nat.mod_lt b (show e + 1 > 0 by omega)
            have d1 : e + 1 ∣ a := Nat.dvd_of_mod_eq_zero ((nI_eq (a := a % (e + 1)) (b := 0) (by omega) (by decide)).mp (Classical.not_not.mp c2))
            have d2 : e + 1 ∣ b := Nat.dvd_of_mod_eq_zero ((nI_eq (a := b % (e + 1)) (b := 0) (by omega) (by decide)).mp (Classical.not_not.mp c3))
            have hg : Nat.gcd a b = e + 1 := Nat.le_antisymm h1 (Nat.le_of_dvd (Nat.gcd_pos_of_pos_right a hb0) (Nat.dvd_gcd d1 d2))
            rcases p with _ | _ | p
            · refine z_auto rfl ?_
              refine z_st rfl ?_
              refine z_auto rfl ?_
              refine z_ck rfl ne ?_
              rw [show nI a / nI (e + 1) = nI (a / (e + 1)) from pk_div (a := a) (d := e + 1) (by omega) (by omega) (by omega)]
              refine z_auto rfl ?_
              refine z_jp rfl ?_
              refine z_auto rfl ?_
              exact z_rt rfl (by rw [hg] at h; exact h)
            · refine z_auto rfl ?_
              refine z_jp rfl ?_
              refine z_auto rfl ?_
              refine z_ck rfl ne ?_
              rw [show nI b / nI (e + 1) = nI (b / (e + 1)) from pk_div (a := b) (d := e + 1) (by omega) (by omega) (by omega)]
              refine z_auto rfl ?_
              refine z_jp rfl ?_
              refine z_auto rfl ?_
              exact z_rt rfl (by rw [hg] at h; exact h)
            · omega
  refine z_auto rfl ?_
  refine z_jp rfl ?_
  exact loop b hgb (Nat.le_refl _)
end
end
section
/-! mean, odds -/
def fSm (g : Nat → Nat) : Nat → Nat
  | 0 => 0
  | m + 1 => fSm g m + g m
theorem fSm_le {g : Nat → Nat} {M : Nat} (h : ∀ a, g a ≤ M) : ∀ m, fSm g m ≤ M * m
  | 0 => Nat.zero_le _
  | m + 1 => by
    have h1 := fSm_le h m
    have h2 := h m
    rw [fSm, Nat.mul_succ]
    omega
section
set_option maxHeartbeats 4000000 in
set_option maxRecDepth 100000 in
theorem p_mean (x1 x2 : Int32) : zPr 85 159 [zi x1, zi x2] := by
  intro d I rl rs hR
  rcases n_cases x1 20 (by decide) with ⟨f, hf, rfl⟩ | hx1
  · rcases n_cases x2 1 (by decide) with ⟨w, hw, rfl⟩ | hx2
    · obtain ⟨C, n, k, t, hS, h14, h15⟩ := r_st hR
      obtain ⟨g, hg⟩ : ∃ g : Nat → Nat, ∀ a, g a ≤ 2000 ∧ fFo I C n t (nI f) (nI a) 0 0 = nI (g a) := ⟨fun a => Classical.choose (fFo_le hS hf (by decide : 0 ≤ 100) (a := nI a) (out := 0)), fun a => Classical.choose_spec (fFo_le hS hf (by decide : 0 ≤ 100) (a := nI a) (out := 0))⟩
      have hs := fSm_le (fun a => (hg a).1)
      have mrun : ∀ J, zFr I J → ∀ rl' rs', zWm (d + 12) 159 [zr 10 0, zi (nI f), zi (nI w)] J (zRR rl' rs') (fun v2 I2 G2 => some (zl (nL ((if w = 0 then fSm g 4 else 4) / Nat.gcd (fSm g 4) 4))) = v2 ∧ zRel I2 ∧ ∃ rl2 rs2, G2 = zRR rl2 rs2) := by
        intro J hJ rl' rs'
        have loop : ∀ m i, i + m = 4 → ∀ K, zFM J K → zW (d + 12) kX10_mean (zblk kX10_mean 3) [some (zr 10 0), some (zi (nI f)), some (zi (nI w)), some (zl (nL (fSm g i))), none, some (zi (nI i))] [] K (zRR rl' rs') (fun v2 I2 G2 => some (zl (nL ((if w = 0 then fSm g 4 else 4) / Nat.gcd (fSm g 4) 4))) = v2 ∧ zRel I2 ∧ ∃ rl2 rs2, G2 = zRR rl2 rs2) := by
          intro m
          induction m with
          | zero =>
            intro i hi K hK
            have : i = 4 := by omega
            subst this
            have h4 := hs 4
            refine z_auto rfl ?_
            refine z_jp rfl ?_
            refine z_auto rfl ?_
            refine z_cl rfl (m_lowest (a := fSm g 4) (b := 4) (by omega) (by decide) (by decide) hw ?_)
            refine z_auto rfl ?_
            exact z_rt rfl (zPr_o (zRel_M hK (zRel_r hJ hR)))
          | succ m ih =>
            intro i hi K hK
            refine z_auto rfl ?_
            refine z_br rfl (fun c => ?_) (fun c => ?_)
            · exact absurd c (Int32.not_le.mpr (nI_lt (a := i) (b := 4) (by omega) (by decide)))
            · refine z_auto rfl ?_
              refine z_cl rfl (m_fa hS ((zFa.r hJ).tr (zFa.M hK)) hf (by decide : 0 ≤ 100) ((zFM_15 hK).trans ((zFr_15 hJ).trans h15)) ((zFM_14 hK).trans ((zFr_14 hJ).trans h14)) (fun L hL _ _ _ => ?_))
              have h5 := ih (i + 1) (by omega) L (hK.tr hL)
              have h6 := hs i
              have h7 := (hg i).1
              rw [fSm, nI_succ] at h5
              rw [show fFo I C n t (nI f) (nI i) (nI 0) 0 = nI (g i) from (hg i).2]
              refine z_auto rfl ?_
              rw [nL_add (by omega)]
              refine z_auto rfl ?_
              refine z_jp rfl ?_
              exact h5
        refine z_auto rfl ?_
        refine z_cl rfl (m_isFloor_y hf ?_)
        refine z_auto rfl ?_
        refine z_st rfl ?_
        refine z_auto rfl ?_
        refine z_cl rfl (m_in_y (lo := 0) (hi := 1) (Nat.zero_le _) hw (by decide) ?_)
        refine z_auto rfl ?_
        refine z_jp rfl ?_
        refine z_auto rfl ?_
        refine z_jp rfl ?_
        exact loop 4 0 rfl J zFM.rf
      have loop : ∀ m i, i + m = 4 → ∀ J, zFr I J → ∀ rl rs, zW (d + 12) kX9_mean (zblk kX9_mean 3) [some (zr 9 0), some (zi (nI f)), some (zi (nI w)), some (zi (nI (fSm g i))), some (zi (nI i))] [] J (zRR rl rs) (fun v1 I1 G1 => ∃ rl1 rs1, G1 = zRR rl1 rs1 ∧ zWm (d + 12) 159 [zr 10 0, zi (nI f), zi (nI w)] I1 G1 (fun v2 I2 G2 => v1 = v2 ∧ zRel I2 ∧ ∃ rl2 rs2, G2 = zRR rl2 rs2)) := by
        intro m
        induction m with
        | zero =>
          intro i hi J hJ rl rs
          have : i = 4 := by omega
          subst this
          have h4 := hs 4
          refine z_auto rfl ?_
          refine z_jp rfl ?_
          refine z_auto rfl ?_
          refine z_cl rfl (s_lowest (a := fSm g 4) (b := 4) (by omega) (by decide) (by decide) hw ?_)
          refine z_auto rfl ?_
          exact z_rt rfl (zPr_i (mrun J hJ))
        | succ m ih =>
          intro i hi J hJ rl rs
          refine z_auto rfl ?_
          refine z_br rfl (fun c => ?_) (fun c => ?_)
          · exact absurd c (Int32.not_le.mpr (nI_lt (a := i) (b := 4) (by omega) (by decide)))
          · refine z_auto rfl ?_
            refine z_cl rfl (s_forceOf (zCu_fr hJ hS.2.1) (fun K hK => ?_))
            have h5 := ih (i + 1) (by omega) K (hJ.tr hK.1) (some (4, 0)) rs
            rw [fSm, nI_succ] at h5
            rw [fFo_fr hJ, (hg i).2]
            refine z_auto rfl ?_
            rw [nI_add]
            refine z_auto rfl ?_
            refine z_jp rfl ?_
            exact h5
      refine z_auto rfl ?_
      refine z_cl rfl (c_isFloor_y hf ?_)
      refine z_auto rfl ?_
      refine z_st rfl ?_
      refine z_auto rfl ?_
      refine z_br rfl (fun c => ?_) (fun c => ?_)
      · exact absurd c (nI_pos (by omega))
      · refine z_auto rfl ?_
        refine z_br rfl (fun c2 => ?_) (fun c2 => ?_)
        · refine z_auto rfl ?_
          refine z_jp rfl ?_
          exact loop 4 0 rfl I zFr.rf rl rs
        · exact absurd (nI_le (b := 1) hw (by decide)) c2
    · refine z_auto rfl ?_
      refine z_cl rfl (c_isFloor_y hf ?_)
      refine z_auto rfl ?_
      refine z_st rfl ?_
      have mrun : ∀ rl' rs', zWm (d + 12) 159 [zr 10 0, zi (nI f), zi x2] I (zRR rl' rs') (fun v2 I2 G2 => some (zl (-9223372036854775808)) = v2 ∧ zRel I2 ∧ ∃ rl2 rs2, G2 = zRR rl2 rs2) := by
        intro rl' rs'
        refine z_auto rfl ?_
        refine z_cl rfl (m_isFloor_y hf ?_)
        refine z_auto rfl ?_
        refine z_st rfl ?_
        refine z_auto rfl ?_
        refine z_cl rfl (m_in_n hx2 ?_)
        refine z_auto rfl ?_
        refine z_st rfl ?_
        refine z_auto rfl ?_
        refine z_jp rfl ?_
        refine z_auto rfl ?_
        exact z_rt rfl (zPr_o hR)
      refine z_auto rfl ?_
      refine z_br rfl (fun c => ?_) (fun c => ?_)
      · refine z_auto rfl ?_
        exact z_rt rfl (zPr_i mrun)
      · refine z_auto rfl ?_
        refine z_br rfl (fun c2 => ?_) (fun c2 => ?_)
        · exact absurd hx2 (fun q => q.elim c (fun q => absurd q (Int32.not_lt.mpr c2)))
        · refine z_auto rfl ?_
          refine z_jp rfl ?_
          refine z_auto rfl ?_
          exact z_rt rfl (zPr_i mrun)
  · refine z_auto rfl ?_
    refine z_cl rfl (c_isFloor_n hx1 ?_)
    refine z_auto rfl ?_
    refine z_jp rfl ?_
    refine z_auto rfl ?_
    refine z_rt rfl (zPr_i (fun rl' rs' => ?_))
    refine z_auto rfl ?_
    refine z_cl rfl (m_isFloor_n hx1 ?_)
    refine z_auto rfl ?_
    refine z_jp rfl ?_
    refine z_auto rfl ?_
    exact z_rt rfl (zPr_o hR)
end
end
section
/-! odds -/
section
set_option maxHeartbeats 4000000 in
set_option maxRecDepth 100000 in
theorem p_odds (x1 x2 : Int32) : zPr 84 158 [zi x1, zi x2] := by
  intro d I rl rs hR
  rcases n_cases x1 20 (by decide) with ⟨f, hf, rfl⟩ | hx1
  · rcases n_cases x2 1 (by decide) with ⟨w, hw, rfl⟩ | hx2
    · obtain ⟨C, n, k, t, hS, h14, h15⟩ := r_st hR
      obtain ⟨g, hg1, hg2, hg0⟩ : ∃ g : Nat → Nat, (∀ a, g a ≤ 1) ∧ (∀ a, fWh I C n t (nI f) (nI (a / 10)) (nI (a % 10)) 0 → g a = 1) ∧ (∀ a, ¬ fWh I C n t (nI f) (nI (a / 10)) (nI (a % 10)) 0 → g a = 0) := ⟨fun a => @ite Nat (fWh I C n t (nI f) (nI (a / 10)) (nI (a % 10)) 0) (Classical.propDecidable _) 1 0, fun a => by
        dsimp only
        split <;> decide, fun a h => if_pos h, fun a h => if_neg h⟩
      have hs := fSm_le hg1
      have mrun : ∀ J, zFr I J → ∀ rl' rs', zWm (d + 12) 158 [zr 10 0, zi (nI f), zi (nI w)] J (zRR rl' rs') (fun v2 I2 G2 => some (zl (nL ((if w = 0 then fSm g 40 else 40) / Nat.gcd (fSm g 40) 40))) = v2 ∧ zRel I2 ∧ ∃ rl2 rs2, G2 = zRR rl2 rs2) := by
        intro J hJ rl' rs'
        have loop : ∀ m i, i + m = 40 → ∀ K, zFa J K → K 10 0 14 = 0 → zW (d + 12) kX10_odds (zblk kX10_odds 3) [some (zr 10 0), some (zi (nI f)), some (zi (nI w)), some (zl (nL (fSm g i))), none, some (zi (nI i))] [] K (zRR rl' rs') (fun v2 I2 G2 => some (zl (nL ((if w = 0 then fSm g 40 else 40) / Nat.gcd (fSm g 40) 40))) = v2 ∧ zRel I2 ∧ ∃ rl2 rs2, G2 = zRR rl2 rs2) := by
          intro m
          induction m with
          | zero =>
            intro i hi K hK k14
            have : i = 40 := by omega
            subst this
            have h4 := hs 40
            have e14 : (zup K 10 0 15 0) 10 0 14 = 0 := by rw [zup_k (by decide)]; exact k14
            refine z_auto rfl ?_
            refine z_jp rfl ?_
            refine z_auto rfl ?_
            refine z_cl rfl (m_lowest (a := fSm g 40) (b := 40) (by omega) (by decide) (by decide) hw ?_)
            refine z_auto rfl ?_
            exact z_rt rfl (zPr_o (zRel_fr (I := I) (((zFa.r hJ).tr hK).tr (fun c i k a1 a2 a3 a4 a5 a6 a7 a8 => by rw [zup_ne (by omega)])) e14 zup_eq hR))
          | succ m ih =>
            intro i hi K hK k14
            refine z_auto rfl ?_
            refine z_br rfl (fun c => ?_) (fun c => ?_)
            · exact absurd c (Int32.not_le.mpr (nI_lt (a := i) (b := 40) (by omega) (by decide)))
            · refine z_auto rfl ?_
              first | refine z_st rfl ?_ | refine z_ck rfl (by decide) ?_
              rw [show nI i - nI i / 10 * 10 = nI (i % 10) from pk_rem (a := i) (d := 10) (by omega) (by omega) (by omega)]
              refine z_auto rfl ?_
              first | refine z_st rfl ?_ | refine z_ck rfl (by decide) ?_
              rw [show nI i / 10 = nI (i / 10) from pk_div (a := i) (d := 10) (by omega) (by omega) (by omega)]
              have hm := Nat.mod_lt i (show 10 > 0 by decide)
              have hK2 : zFa J (zup K 10 0 15 (nI (i % 10))) := hK.tr (fun c i k a1 a2 a3 a4 a5 a6 a7 a8 => by rw [zup_ne (by omega)])
              have e14 : (zup K 10 0 15 (nI (i % 10))) 10 0 14 = 0 := by rw [zup_k (by decide)]; exact k14
              have h6 := hs i
              have h5 : ∀ L, zFM (zup K 10 0 15 (nI (i % 10))) L → zW (d + 12) kX10_odds (zblk kX10_odds 3) [some (zr 10 0), some (zi (nI f)), some (zi (nI w)), some (zl (nL (fSm g i + g i))), none, some (zi (nI i + 1))] [] L (zRR rl' rs') (fun v2 I2 G2 => some (zl (nL ((if w = 0 then fSm g 40 else 40) / Nat.gcd (fSm g 40) 40))) = v2 ∧ zRel I2 ∧ ∃ rl2 rs2, G2 = zRR rl2 rs2) := fun L hL => by
                have h7 := ih (i + 1) (by omega) L (hK2.tr (zFa.M hL)) ((zFM_14 hL).trans e14)
                rw [fSm, nI_succ] at h7
                exact h7
              refine z_auto rfl ?_
              refine z_cl rfl (m_sw hS ((zFa.r hJ).tr hK2) hf (show i % 10 ≤ 100 by omega) zup_eq e14 (fun L x hL h18 hw => ?_) (fun L x hL h18 hw => ?_))
              · have h8 := h5 L hL
                rw [hg2 i hw] at h8
                refine z_auto rfl ?_
                rw [h18]
                refine z_auto rfl ?_
                refine z_st rfl ?_
                refine z_auto rfl ?_
                refine z_jp rfl ?_
                refine z_auto rfl ?_
                rw [show nL (fSm g i) + Int32.toInt64 1 = nL (fSm g i + 1) from nL_add (b := 1) (by omega)]
                refine z_auto rfl ?_
                refine z_jp rfl ?_
                exact h8
              · have h8 := h5 L hL
                rw [hg0 i hw] at h8
                refine z_auto rfl ?_
                rw [h18]
                refine z_auto rfl ?_
                refine z_jp rfl ?_
                refine z_auto rfl ?_
                refine z_jp rfl ?_
                refine z_auto rfl ?_
                rw [show nL (fSm g i) + Int32.toInt64 0 = nL (fSm g i + 0) from nL_add (b := 0) (by omega)]
                refine z_auto rfl ?_
                refine z_jp rfl ?_
                exact h8
        refine z_auto rfl ?_
        refine z_cl rfl (m_isFloor_y hf ?_)
        refine z_auto rfl ?_
        refine z_st rfl ?_
        refine z_auto rfl ?_
        refine z_cl rfl (m_in_y (lo := 0) (hi := 1) (Nat.zero_le _) hw (by decide) ?_)
        refine z_auto rfl ?_
        refine z_jp rfl ?_
        refine z_auto rfl ?_
        refine z_jp rfl ?_
        exact loop 40 0 rfl J zFa.rf ((zFr_14 hJ).trans h14)
      have loop : ∀ m i, i + m = 40 → ∀ J, zFr I J → ∀ rl rs, zW (d + 12) kX9_odds (zblk kX9_odds 3) [some (zr 9 0), some (zi (nI f)), some (zi (nI w)), some (zi (nI (fSm g i))), some (zi (nI i))] [] J (zRR rl rs) (fun v1 I1 G1 => ∃ rl1 rs1, G1 = zRR rl1 rs1 ∧ zWm (d + 12) 158 [zr 10 0, zi (nI f), zi (nI w)] I1 G1 (fun v2 I2 G2 => v1 = v2 ∧ zRel I2 ∧ ∃ rl2 rs2, G2 = zRR rl2 rs2)) := by
        intro m
        induction m with
        | zero =>
          intro i hi J hJ rl rs
          have : i = 40 := by omega
          subst this
          have h4 := hs 40
          refine z_auto rfl ?_
          refine z_jp rfl ?_
          refine z_auto rfl ?_
          refine z_cl rfl (s_lowest (a := fSm g 40) (b := 40) (by omega) (by decide) (by decide) hw ?_)
          refine z_auto rfl ?_
          exact z_rt rfl (zPr_i (mrun J hJ))
        | succ m ih =>
          intro i hi J hJ rl rs
          refine z_auto rfl ?_
          refine z_br rfl (fun c => ?_) (fun c => ?_)
          · exact absurd c (Int32.not_le.mpr (nI_lt (a := i) (b := 40) (by omega) (by decide)))
          · refine z_auto rfl ?_
            first | refine z_st rfl ?_ | refine z_ck rfl (by decide) ?_
            rw [show nI i / 10 = nI (i / 10) from pk_div (a := i) (d := 10) (by omega) (by omega) (by omega)]
            refine z_auto rfl ?_
            first | refine z_st rfl ?_ | refine z_ck rfl (by decide) ?_
            rw [show nI i - nI i / 10 * 10 = nI (i % 10) from pk_rem (a := i) (d := 10) (by omega) (by omega) (by omega)]
            have h5 : ∀ L, zFr I L → ∀ rl rs, zW (d + 12) kX9_odds (zblk kX9_odds 3) [some (zr 9 0), some (zi (nI f)), some (zi (nI w)), some (zi (nI (fSm g i + g i))), some (zi (nI i + 1))] [] L (zRR rl rs) (fun v1 I1 G1 => ∃ rl1 rs1, G1 = zRR rl1 rs1 ∧ zWm (d + 12) 158 [zr 10 0, zi (nI f), zi (nI w)] I1 G1 (fun v2 I2 G2 => v1 = v2 ∧ zRel I2 ∧ ∃ rl2 rs2, G2 = zRR rl2 rs2)) := fun L hL rl rs => by
              have h7 := ih (i + 1) (by omega) L hL rl rs
              rw [fSm, nI_succ] at h7
              exact h7
            refine z_auto rfl ?_
            refine z_cl rfl (c_sw hS hJ (fun L hL hw => ?_) (fun L hL hw => ?_))
            · have h8 := h5 L hL (some (4, 0)) rs
              rw [hg2 i hw, nI_succ] at h8
              refine z_auto rfl ?_
              refine z_st rfl ?_
              refine z_auto rfl ?_
              refine z_jp rfl ?_
              refine z_auto rfl ?_
              refine z_jp rfl ?_
              exact h8
            · have h8 := h5 L hL (some (4, 0)) rs
              rw [hg0 i hw] at h8
              refine z_auto rfl ?_
              refine z_jp rfl ?_
              refine z_auto rfl ?_
              refine z_jp rfl ?_
              exact h8
      refine z_auto rfl ?_
      refine z_cl rfl (c_isFloor_y hf ?_)
      refine z_auto rfl ?_
      refine z_st rfl ?_
      refine z_auto rfl ?_
      refine z_br rfl (fun c => ?_) (fun c => ?_)
      · exact absurd c (nI_pos (by omega))
      · refine z_auto rfl ?_
        refine z_br rfl (fun c2 => ?_) (fun c2 => ?_)
        · refine z_auto rfl ?_
          refine z_jp rfl ?_
          exact loop 40 0 rfl I zFr.rf rl rs
        · exact absurd (nI_le (b := 1) hw (by decide)) c2
    · refine z_auto rfl ?_
      refine z_cl rfl (c_isFloor_y hf ?_)
      refine z_auto rfl ?_
      refine z_st rfl ?_
      have mrun : ∀ rl' rs', zWm (d + 12) 158 [zr 10 0, zi (nI f), zi x2] I (zRR rl' rs') (fun v2 I2 G2 => some (zl (-9223372036854775808)) = v2 ∧ zRel I2 ∧ ∃ rl2 rs2, G2 = zRR rl2 rs2) := by
        intro rl' rs'
        refine z_auto rfl ?_
        refine z_cl rfl (m_isFloor_y hf ?_)
        refine z_auto rfl ?_
        refine z_st rfl ?_
        refine z_auto rfl ?_
        refine z_cl rfl (m_in_n hx2 ?_)
        refine z_auto rfl ?_
        refine z_st rfl ?_
        refine z_auto rfl ?_
        refine z_jp rfl ?_
        refine z_auto rfl ?_
        exact z_rt rfl (zPr_o hR)
      refine z_auto rfl ?_
      refine z_br rfl (fun c => ?_) (fun c => ?_)
      · refine z_auto rfl ?_
        exact z_rt rfl (zPr_i mrun)
      · refine z_auto rfl ?_
        refine z_br rfl (fun c2 => ?_) (fun c2 => ?_)
        · exact absurd hx2 (fun q => q.elim c (fun q => absurd q (Int32.not_lt.mpr c2)))
        · refine z_auto rfl ?_
          refine z_jp rfl ?_
          refine z_auto rfl ?_
          exact z_rt rfl (zPr_i mrun)
  · refine z_auto rfl ?_
    refine z_cl rfl (c_isFloor_n hx1 ?_)
    refine z_auto rfl ?_
    refine z_jp rfl ?_
    refine z_auto rfl ?_
    refine z_rt rfl (zPr_i (fun rl' rs' => ?_))
    refine z_auto rfl ?_
    refine z_cl rfl (m_isFloor_n hx1 ?_)
    refine z_auto rfl ?_
    refine z_jp rfl ?_
    refine z_auto rfl ?_
    exact z_rt rfl (zPr_o hR)
end
end
section
/-! writing sheets and tape: zRel anew; feed, see, book -/
theorem zRel_S {I J : zMI} (hR : zRel I) (h : ∀ c i k, ¬ ((c = 7 ∨ c = 26 ∨ c = 27 ∨ c = 28) ∧ i ≤ 1) → ¬ ((c = 8 ∨ c = 29) ∧ i = 0) → ¬ (c = 40 ∧ ((2 ≤ k ∧ k ≤ 4) ∨ (74 ≤ k ∧ k < 222))) → J c i k = I c i k)
    (hA : (∃ m, zbH (I 7 0) (I 26 0) (I 27 0) (I 28 0) (I 40 0) 2 74 1 m) → ∃ m, zbH (J 7 0) (J 26 0) (J 27 0) (J 28 0) (J 40 0) 2 74 1 m)
    (hB : (∃ m, zbH (I 7 1) (I 26 1) (I 27 1) (I 28 1) (I 40 0) 3 98 9999 m) → ∃ m, zbH (J 7 1) (J 26 1) (J 27 1) (J 28 1) (J 40 0) 3 98 9999 m)
    (hT : (∃ m, zbT (I 8 0) (I 29 0) (I 40 0) m) → ∃ m, zbT (J 8 0) (J 29 0) (J 40 0) m) : zRel J := by
  obtain ⟨n, k, t, ⟨b1, b2, b3, b4, b5, b6⟩, h2, h3, h4, h5, h6⟩ := hR
  have e : ∀ c i, ¬ ((c = 7 ∨ c = 26 ∨ c = 27 ∨ c = 28) ∧ i ≤ 1) → ¬ ((c = 8 ∨ c = 29) ∧ i = 0) → c ≠ 40 → J c i = I c i := fun c i h1 h2 h3 => funext (fun k => h c i k h1 h2 (fun q => h3 q.1))
  have es : ∀ k, ¬ ((2 ≤ k ∧ k ≤ 4) ∨ (74 ≤ k ∧ k < 222)) → J 40 0 k = I 40 0 k := fun k hk => h 40 0 k (by omega) (by omega) (fun q => hk q.2)
  refine ⟨n, k, t, ⟨?_, ?_, hA b3, hB b4, hT b5, ?_⟩, ?_, ?_, ?_, ?_, ?_⟩
  · obtain ⟨g1, g2, g3, g4, g5, g6, g7, g8⟩ := b1
    rw [e 4 0 (by omega) (by omega) (by omega), e 20 0 (by omega) (by omega) (by omega), e 21 0 (by omega) (by omega) (by omega), e 22 0 (by omega) (by omega) (by omega), e 23 0 (by omega) (by omega) (by omega), e 24 0 (by omega) (by omega) (by omega), e 25 0 (by omega) (by omega) (by omega)]
    refine ⟨g1, (es 0 (by omega)).trans g2, g3, fun i hi => ?_, fun i x hi hx => ?_, g6, g7.trans (es 9 (by omega)).symm, fun i hi => by rw [es 9 (by omega)]; exact g8 i hi⟩
    · rw [es _ (by omega), es _ (by omega), es _ (by omega), es _ (by omega), es _ (by omega)]
      exact g4 i hi
    · rw [es _ (by omega)]
      exact g5 i x hi hx
  · exact zbS_of (h 1 0 5 (by omega) (by omega) (by omega)) (fun c j k hc => h c j k (by omega) (by omega) (by omega)) (es 1 (by omega)) (es 5 (by omega)) (fun k hk => es k (by omega)) b2
  · rw [e 1 _ (by omega) (by omega) (by omega), e 2 _ (by omega) (by omega) (by omega)]
    obtain ⟨q1, q2, q3, q4, q5⟩ := b6
    exact ⟨q1, (es 6 (by omega)).trans q2, q3, q4.trans (es 7 (by omega)).symm, by rw [es 8 (by omega)]; exact q5⟩
  · exact zES_fr (fun c k hc => h c _ k (by omega) (by omega) (by omega)) h2
  · rw [e 9 0 (by omega) (by omega) (by omega), e 10 0 (by omega) (by omega) (by omega), e 41 0 (by omega) (by omega) (by omega)]
    rcases h3 with q | ⟨q1, q2, n', k', t', ⟨d1, d2, d3, d4, d5, d6⟩, q4⟩
    · exact Or.inl q
    · refine Or.inr ⟨q1, q2, n', k', t', ⟨?_, zbS_of (h 1 1 5 (by omega) (by omega) (by omega)) (fun c j k hc => h c j k (by omega) (by omega) (by omega)) rfl rfl (fun _ _ => rfl) d2, ?_, ?_, ?_, ?_⟩, q4⟩
      · rw [e 4 1 (by omega) (by omega) (by omega), e 20 1 (by omega) (by omega) (by omega), e 21 1 (by omega) (by omega) (by omega), e 22 1 (by omega) (by omega) (by omega), e 23 1 (by omega) (by omega) (by omega), e 24 1 (by omega) (by omega) (by omega), e 25 1 (by omega) (by omega) (by omega)]
        exact d1
      · rw [e 7 _ (by omega) (by omega) (by omega), e 26 _ (by omega) (by omega) (by omega), e 27 _ (by omega) (by omega) (by omega), e 28 _ (by omega) (by omega) (by omega)]
        exact d3
      · rw [e 7 _ (by omega) (by omega) (by omega), e 26 _ (by omega) (by omega) (by omega), e 27 _ (by omega) (by omega) (by omega), e 28 _ (by omega) (by omega) (by omega)]
        exact d4
      · rw [e 8 _ (by omega) (by omega) (by omega), e 29 _ (by omega) (by omega) (by omega)]
        exact d5
      · rw [e 1 _ (by omega) (by omega) (by omega), e 2 _ (by omega) (by omega) (by omega)]
        exact d6
  · rw [e 0 0 (by omega) (by omega) (by omega), e 10 0 (by omega) (by omega) (by omega), e 35 0 (by omega) (by omega) (by omega), e 45 0 (by omega) (by omega) (by omega)]
    exact h4
  · rw [e 10 0 (by omega) (by omega) (by omega)]; exact h5
  · rw [e 10 0 (by omega) (by omega) (by omega)]; exact h6
theorem zRel_T {I J : zMI} (hR : zRel I) (h : ∀ c i k, ¬ ((c = 8 ∨ c = 29) ∧ i = 0) → ¬ (c = 40 ∧ (k = 4 ∨ (122 ≤ k ∧ k < 222))) → J c i k = I c i k) (hT : (∃ m, zbT (I 8 0) (I 29 0) (I 40 0) m) → ∃ m, zbT (J 8 0) (J 29 0) (J 40 0) m) : zRel J := by
  have e : ∀ c i, ¬ ((c = 8 ∨ c = 29) ∧ i = 0) → c ≠ 40 → J c i = I c i := fun c i h1 h2 => funext (fun k => h c i k h1 (fun q => h2 q.1))
  refine zRel_S hR (fun c i k a1 a2 a3 => h c i k (by omega) (by omega)) (fun ⟨m, hm⟩ => ⟨m, ?_⟩) (fun ⟨m, hm⟩ => ⟨m, ?_⟩) hT
  · rw [e 7 _ (by omega) (by omega), e 26 _ (by omega) (by omega), e 27 _ (by omega) (by omega), e 28 _ (by omega) (by omega)]
    exact zbH_of (h 40 0 2 (by omega) (by omega)) (fun k _ _ => h 40 0 k (by omega) (by omega)) hm
  · rw [e 7 _ (by omega) (by omega), e 26 _ (by omega) (by omega), e 27 _ (by omega) (by omega), e 28 _ (by omega) (by omega)]
    exact zbH_of (h 40 0 3 (by omega) (by omega)) (fun k _ _ => h 40 0 k (by omega) (by omega)) hm
theorem zRel_H {I J : zMI} (hR : zRel I) {i q o X : Nat} (hi : (i = 0 ∧ q = 2 ∧ o = 74 ∧ X = 1) ∨ (i = 1 ∧ q = 3 ∧ o = 98 ∧ X = 9999)) (h : ∀ c j k, ¬ ((c = 7 ∨ c = 26 ∨ c = 27 ∨ c = 28) ∧ j = i) → ¬ (c = 40 ∧ (k = q ∨ (o ≤ k ∧ k < o + 24))) → J c j k = I c j k)
    (hH : ∃ m, zbH (J 7 i) (J 26 i) (J 27 i) (J 28 i) (J 40 0) q o X m) : zRel J := by
  have e : ∀ c j, ¬ ((c = 7 ∨ c = 26 ∨ c = 27 ∨ c = 28) ∧ j = i) → c ≠ 40 → J c j = I c j := fun c j h1 h2 => funext (fun k => h c j k h1 (fun q => h2 q.1))
  have hT : (∃ m, zbT (I 8 0) (I 29 0) (I 40 0) m) → ∃ m, zbT (J 8 0) (J 29 0) (J 40 0) m := by
    rintro ⟨m, hm⟩
    rw [e 8 _ (by omega) (by omega), e 29 _ (by omega) (by omega)]
    exact ⟨m, zbT_of (h 40 0 4 (by omega) (by omega)) (fun k _ _ => h 40 0 k (by omega) (by omega)) hm⟩
  rcases hi with ⟨rfl, rfl, rfl, rfl⟩ | ⟨rfl, rfl, rfl, rfl⟩
  · refine zRel_S hR (fun c i k a1 a2 a3 => h c i k (by omega) (by omega)) (fun _ => hH) (fun ⟨m, hm⟩ => ⟨m, ?_⟩) hT
    rw [e 7 _ (by omega) (by omega), e 26 _ (by omega) (by omega), e 27 _ (by omega) (by omega), e 28 _ (by omega) (by omega)]
    exact zbH_of (h 40 0 3 (by omega) (by omega)) (fun k _ _ => h 40 0 k (by omega) (by omega)) hm
  · refine zRel_S hR (fun c i k a1 a2 a3 => h c i k (by omega) (by omega)) (fun ⟨m, hm⟩ => ⟨m, ?_⟩) (fun _ => hH) hT
    rw [e 7 _ (by omega) (by omega), e 26 _ (by omega) (by omega), e 27 _ (by omega) (by omega), e 28 _ (by omega) (by omega)]
    exact zbH_of (h 40 0 2 (by omega) (by omega)) (fun k _ _ => h 40 0 k (by omega) (by omega)) hm
/-- a row more, or none -/
theorem zRel_row {I J : zMI} (hR : zRel I) {i q o X n f a x : Nat} (hi : (i = 0 ∧ q = 2 ∧ o = 74 ∧ X = 1) ∨ (i = 1 ∧ q = 3 ∧ o = 98 ∧ X = 9999)) (hH : zbH (I 7 i) (I 26 i) (I 27 i) (I 28 i) (I 40 0) q o X n) (h8 : n < 8) (hf : f ≤ 20) (ha : a ≤ 3) (hx : x ≤ X)
    (hJ : J = zup (zup (zup (zup (zup (zup (zup (zup I 26 i n (nI f)) 27 i n (nI a)) 28 i n (nI x)) 7 i 3 (nI (n + 1))) 40 0 (o + n) (nI f)) 40 0 (o + 8 + n) (nI a)) 40 0 (o + 16 + n) (nI x)) 40 0 q (nI (n + 1))) : zRel J := by
  have A : ∀ c j k, ¬ ((c = 7 ∨ c = 26 ∨ c = 27 ∨ c = 28) ∧ j = i) → ¬ (c = 40 ∧ (k = q ∨ (o ≤ k ∧ k < o + 24))) → J c j k = I c j k := by
    intro c j k h1 h2
    rw [hJ]
    repeat rw [zup_ne (by omega)]
  have v7 : J 7 i 3 = nI (n + 1) := by
    rw [hJ]
    repeat (first | rw [zup_eq] | rw [zup_ne (by omega)])
  have vq : J 40 0 q = nI (n + 1) := by rw [hJ, zup_eq]
  have va : J 40 0 (o + n) = nI f := by
    rw [hJ]
    repeat (first | rw [zup_eq] | rw [zup_ne (by omega)])
  have vb : J 40 0 (o + 8 + n) = nI a := by
    rw [hJ]
    repeat (first | rw [zup_eq] | rw [zup_ne (by omega)])
  have vc : J 40 0 (o + 16 + n) = nI x := by
    rw [hJ]
    repeat (first | rw [zup_eq] | rw [zup_ne (by omega)])
  have w26 : J 26 i n = nI f := by
    rw [hJ]
    repeat (first | rw [zup_eq] | rw [zup_ne (by omega)])
  have w27 : J 27 i n = nI a := by
    rw [hJ]
    repeat (first | rw [zup_eq] | rw [zup_ne (by omega)])
  have w28 : J 28 i n = nI x := by
    rw [hJ]
    repeat (first | rw [zup_eq] | rw [zup_ne (by omega)])
  have B : ∀ c k, c ≠ 7 → c ≠ 40 → k ≠ n → J c i k = I c i k := by
    intro c k h1 h2 h3
    rw [hJ]
    repeat rw [zup_ne (by omega)]
  have D : ∀ k, k ≠ q → k ≠ o + n → k ≠ o + 8 + n → k ≠ o + 16 + n → J 40 0 k = I 40 0 k := by
    intro k h1 h2 h3 h4
    rw [hJ]
    repeat rw [zup_ne (by omega)]
  clear hJ
  refine zRel_H hR hi A ⟨n + 1, v7, vq, by omega, fun j hj => ?_⟩
  obtain ⟨h1, h2, h3, h4⟩ := hH
  by_cases e : j = n
  · subst e
    exact ⟨f, a, x, ⟨hf, by omega, hx⟩, ⟨w26, w27, w28⟩, va, vb, vc⟩
  · rw [B 26 j (by omega) (by omega) e, B 27 j (by omega) (by omega) e, B 28 j (by omega) (by omega) e, D (o + j) (by omega) (by omega) (by omega) (by omega), D (o + 8 + j) (by omega) (by omega) (by omega) (by omega), D (o + 16 + j) (by omega) (by omega) (by omega) (by omega)]
    exact h4 j (by omega)
theorem zRel_row0 {I : zMI} (hR : zRel I) {i q o X : Nat} (hi : (i = 0 ∧ q = 2 ∧ o = 74 ∧ X = 1) ∨ (i = 1 ∧ q = 3 ∧ o = 98 ∧ X = 9999)) : zRel (zup (zup I 7 i 3 0) 40 0 q 0) := by
  refine zRel_H hR hi (fun c j k h1 h2 => by rw [zup_ne (by omega), zup_ne (by omega)]) ⟨0, ?_, zup_eq, by omega, fun j hj => absurd hj (Nat.not_lt_zero j)⟩
  rw [zup_ne (by omega), zup_eq]
  rfl
section
variable {d : Nat} {I : zMI} {rl rs : Option (Nat × Nat)} {Q : zPQ} {G : zMR}
set_option maxHeartbeats 4000000 in
set_option maxRecDepth 100000 in
theorem s_write {i n : Nat} {x y z : Int32} (hn : I 7 i 3 = nI n) (h8 : n ≤ 8) (hm : x = -1 → Q (some (zi 0)) (zup I 7 i 3 0) (zRR rl rs)) (hb : ¬ x = -1 → ((x < 0 ∨ 20 < x) ∨ (∃ f, f ≤ 20 ∧ x = nI f) ∧ (y < 0 ∨ 3 < y)) → Q (some (zi (-1))) I (zRR rl rs)) (hf : ∀ f a, f ≤ 20 → a ≤ 3 → x = nI f → y = nI a → n = 8 → Q (some (zi (-4))) I (zRR rl rs))
    (h : ∀ f a, f ≤ 20 → a ≤ 3 → x = nI f → y = nI a → n < 8 → Q (some (zi (nI (n + 1)))) (zup (zup (zup (zup I 26 i n x) 27 i n y) 28 i n z) 7 i 3 (nI (n + 1))) (zRR rl rs)) : zWm (d + 1) 107 [zr 7 i, zi x, zi y, zi z] I (zRR rl rs) Q := by
  refine z_auto rfl ?_
  refine z_br rfl (fun c => ?_) (fun c => ?_)
  · rcases n_cases x 20 (by decide) with ⟨f, hf2, e⟩ | hx
    · subst e
      refine z_auto rfl ?_
      refine z_cl rfl (c_isFloor_y hf2 ?_)
      refine z_auto rfl ?_
      refine z_st rfl ?_
      rcases n_cases y 3 (by decide) with ⟨a, ha, e⟩ | hy
      · subst e
        refine z_auto rfl ?_
        refine z_cl rfl (c_isSide_y ha ?_)
        refine z_auto rfl ?_
        refine z_jp rfl ?_
        refine z_auto rfl ?_
        refine z_cl rfl (s_sadd hn h8 (fun e => ?_) (fun hlt => ?_))
        · refine z_auto rfl ?_
          refine z_jp rfl ?_
          refine z_auto rfl ?_
          refine z_jp rfl ?_
          refine z_auto rfl ?_
          exact z_rt rfl (hf f a hf2 ha rfl rfl e)
        · have e7 : (zup (zup (zup (zup I 26 i n (nI f)) 27 i n (nI a)) 28 i n z) 7 i 3 (nI (n + 1))) 7 i 3 = nI (n + 1) := zup_eq
          refine z_auto rfl ?_
          refine z_st rfl ?_
          refine z_auto rfl ?_
          rw [e7]
          refine z_auto rfl ?_
          refine z_jp rfl ?_
          refine z_auto rfl ?_
          exact z_rt rfl (h f a hf2 ha rfl rfl hlt)
      · refine z_auto rfl ?_
        refine z_cl rfl (c_isSide_n hy ?_)
        refine z_auto rfl ?_
        refine z_st rfl ?_
        refine z_auto rfl ?_
        refine z_jp rfl ?_
        refine z_auto rfl ?_
        exact z_rt rfl (hb c (Or.inr ⟨⟨f, hf2, rfl⟩, hy⟩))
    · refine z_auto rfl ?_
      refine z_cl rfl (c_isFloor_n hx ?_)
      refine z_auto rfl ?_
      refine z_jp rfl ?_
      refine z_auto rfl ?_
      exact z_rt rfl (hb c (Or.inl hx))
  · refine z_auto rfl ?_
    exact z_rt rfl (hm (Classical.not_not.mp c))
set_option maxHeartbeats 4000000 in
set_option maxRecDepth 100000 in
theorem p_feed (x1 : Int32) : zPr 65 114 [zi x1] := by
  intro d I rl rs hR
  have hR0 := hR
  obtain ⟨n0, k, t, ⟨b1, b2, b3, b4, ⟨n, b5⟩, b6⟩, -, -, -, -, -⟩ := hR0
  obtain ⟨h1, h2, h3, h4⟩ := b5
  rcases n_cases x1 127 (by decide) with ⟨x, hx, rfl⟩ | hx
  · refine z_auto rfl ?_
    refine z_br rfl (fun c => ?_) (fun c => ?_)
    · exact absurd c (nI_pos (by omega))
    · refine z_auto rfl ?_
      refine z_br rfl (fun c2 => ?_) (fun c2 => ?_)
      · refine z_auto rfl ?_
        refine z_cl rfl (s_put h1 h3 (fun e => ?_) (fun hlt => ?_))
        · refine z_auto rfl ?_
          refine z_jp rfl ?_
          refine z_auto rfl ?_
          refine z_jp rfl ?_
          refine z_auto rfl ?_
          refine z_rt rfl (zPr_i (fun rl' rs' => ?_))
          refine z_auto rfl ?_
          refine z_cl rfl (m_in_y (lo := 0) (hi := 127) (Nat.zero_le _) hx (by decide) ?_)
          refine z_auto rfl ?_
          refine z_jp rfl ?_
          refine z_auto rfl ?_
          refine z_ald (k := 4) rfl rfl (by decide) ?_
          rw [h2, e]
          refine z_auto rfl ?_
          refine z_st rfl ?_
          refine z_auto rfl ?_
          exact z_rt rfl (zPr_o hR)
        · have e1 : (zup (zup I 29 0 n (nI x)) 8 0 1 (nI (n + 1))) 8 0 1 = nI (n + 1) := zup_eq
          refine z_auto rfl ?_
          refine z_st rfl ?_
          refine z_auto rfl ?_
          rw [e1]
          refine z_auto rfl ?_
          refine z_jp rfl ?_
          refine z_auto rfl ?_
          refine z_rt rfl (zPr_i (fun rl' rs' => ?_))
          obtain ⟨M, hM⟩ : ∃ M, M = zup (zup I 29 0 n (nI x)) 8 0 1 (nI (n + 1)) := ⟨_, rfl⟩
          rw [← hM]
          have m4 : M 40 0 4 = nI n := by
            rw [hM]
            repeat rw [zup_c (by decide)]
            exact h2
          refine z_auto rfl ?_
          refine z_cl rfl (m_in_y (lo := 0) (hi := 127) (Nat.zero_le _) hx (by decide) ?_)
          refine z_auto rfl ?_
          refine z_jp rfl ?_
          refine z_auto rfl ?_
          refine z_ald (k := 4) rfl rfl (by decide) ?_
          rw [m4]
          refine z_auto rfl ?_
          refine z_br rfl (fun c3 => ?_) (fun c3 => ?_)
          · refine z_auto rfl ?_
            refine z_ald (k := 4) rfl rfl (by decide) ?_
            rw [m4]
            refine z_auto rfl ?_
            refine z_ast (k := (122 + n)) rfl (nI_add 122 n) (by show 122 + n < 937; omega) ?_
            refine z_auto rfl ?_
            refine z_ald (k := 4) rfl rfl (by decide) ?_
            rw [zup_ne (by omega), m4]
            refine z_auto rfl ?_
            rw [show nI n + 1 = nI (n + 1) from (nI_succ n).symm]
            refine z_auto rfl ?_
            refine z_ast (k := 4) rfl rfl (by decide) ?_
            refine z_auto rfl ?_
            refine z_ald (k := 4) rfl rfl (by decide) ?_
            rw [zup_eq]
            refine z_auto rfl ?_
            refine z_rt rfl (zPr_o2 rfl ?_)
            obtain ⟨J, hJ⟩ : ∃ J, J = zup (zup M 40 0 (122 + n) (nI x)) 40 0 4 (nI (n + 1)) := ⟨_, rfl⟩
            rw [← hJ]
            have A : ∀ c i k, ¬ ((c = 8 ∨ c = 29) ∧ i = 0) → ¬ (c = 40 ∧ (k = 4 ∨ (122 ≤ k ∧ k < 222))) → J c i k = I c i k := fun c i k a1 a2 => by
              rw [hJ, hM]
              repeat rw [zup_ne (by omega)]
            have B : ∀ k, k ≠ n → J 29 0 k = I 29 0 k := fun k a1 => by
              rw [hJ, hM]
              repeat rw [zup_ne (by omega)]
            have D : ∀ k, k ≠ 4 → k ≠ 122 + n → J 40 0 k = I 40 0 k := fun k a1 a2 => by
              rw [hJ, hM]
              repeat rw [zup_ne (by omega)]
            have v1 : J 8 0 1 = nI (n + 1) := by
              rw [hJ, hM]
              repeat (first | rw [zup_eq] | rw [zup_ne (by omega)])
            have v2 : J 40 0 4 = nI (n + 1) := by rw [hJ, zup_eq]
            have v3 : J 29 0 n = nI x := by
              rw [hJ, hM]
              repeat (first | rw [zup_eq] | rw [zup_ne (by omega)])
            have v4 : J 40 0 (122 + n) = nI x := by
              rw [hJ]
              repeat (first | rw [zup_eq] | rw [zup_ne (by omega)])
            clear hJ
            refine zRel_T hR A (fun _ => ⟨n + 1, v1, v2, by omega, fun i hi => ?_⟩)
            by_cases e : i = n
            · subst e
              exact ⟨x, by omega, v3, v4⟩
            · rw [B i e, D _ (by omega) (by omega)]
              exact h4 i (by omega)
          · exact absurd ((nI_eq (a := n) (b := 100) (by omega) (by decide)).mp (Classical.not_not.mp c3)) (by omega)
      · exact absurd (nI_le (b := 127) hx (by decide)) c2
  · have mrun : ∀ rl' rs', zWm (d + 12) 114 [zr 10 0, zi x1] I (zRR rl' rs') (fun v2 I2 G2 => some (zi (-2)) = v2 ∧ zRel I2 ∧ ∃ rl2 rs2, G2 = zRR rl2 rs2) := by
      intro rl' rs'
      refine z_auto rfl ?_
      refine z_cl rfl (m_in_n hx ?_)
      refine z_auto rfl ?_
      refine z_st rfl ?_
      refine z_auto rfl ?_
      exact z_rt rfl (zPr_o hR)
    refine z_auto rfl ?_
    refine z_br rfl (fun c => ?_) (fun c => ?_)
    · refine z_auto rfl ?_
      exact z_rt rfl (zPr_i mrun)
    · refine z_auto rfl ?_
      refine z_br rfl (fun c2 => ?_) (fun c2 => ?_)
      · exact absurd hx (fun q => q.elim c (fun q => absurd q (Int32.not_lt.mpr c2)))
      · refine z_auto rfl ?_
        refine z_jp rfl ?_
        refine z_auto rfl ?_
        exact z_rt rfl (zPr_i mrun)
set_option maxHeartbeats 4000000 in
set_option maxRecDepth 100000 in
theorem p_see (x1 x2 : Int32) {b : Int32} (hb : b = 0 ∨ b = 1) : zPr 82 154 [zi x1, zi x2, zi b] := by
  intro d I rl rs hR
  have hR0 := hR
  obtain ⟨n0, k, t, ⟨b1, b2, ⟨n, b3⟩, b4, b5, b6⟩, -, -, -, -, -⟩ := hR0
  have hH : zbH (I 7 0) (I 26 0) (I 27 0) (I 28 0) (I 40 0) 2 74 1 n := b3
  obtain ⟨h1, h2, h3, h4⟩ := b3
  have h1 : I 7 0 3 = nI n := h1
  have crun : zW (d + 12) kX9_see (zblk kX9_see 2) [some (zr 9 0), some (zi x1), some (zi x2), some (zi b)] [zi b, zi x2, zi x1, zr 7 0] I (zRR rl rs) (fun v1 I1 G1 => ∃ rl1 rs1, G1 = zRR rl1 rs1 ∧ zWm (d + 12) 154 [zr 10 0, zi x1, zi x2, zi b] I1 G1 (fun v2 I2 G2 => v1 = v2 ∧ zRel I2 ∧ ∃ rl2 rs2, G2 = zRR rl2 rs2)) := by
    refine z_auto rfl ?_
    refine z_cl rfl (s_write h1 h3 (fun e => ?_) (fun q1 q2 => ?_) (fun f a hf ha e1 e2 e => ?_) (fun f a hf ha e1 e2 hlt => ?_))
    · refine z_auto rfl ?_
      refine z_rt rfl (zPr_i (fun rl' rs' => ?_))
      subst e
      refine z_auto rfl ?_
      refine z_st rfl ?_
      refine z_auto rfl ?_
      refine z_ast (k := 2) rfl rfl (by decide) ?_
      refine z_auto rfl ?_
      exact z_rt rfl (zPr_o (zRel_row0 hR (Or.inl ⟨rfl, rfl, rfl, rfl⟩)))
    · refine z_auto rfl ?_
      refine z_rt rfl (zPr_i (fun rl' rs' => ?_))
      refine z_auto rfl ?_
      refine z_br rfl (fun c => ?_) (fun c => ?_)
      · rcases q2 with q | ⟨⟨f, hf, rfl⟩, q⟩
        · refine z_auto rfl ?_
          refine z_cl rfl (m_isFloor_n q ?_)
          refine z_auto rfl ?_
          refine z_jp rfl ?_
          refine z_auto rfl ?_
          exact z_rt rfl (zPr_o hR)
        · refine z_auto rfl ?_
          refine z_cl rfl (m_isFloor_y hf ?_)
          refine z_auto rfl ?_
          refine z_st rfl ?_
          refine z_auto rfl ?_
          refine z_cl rfl (m_isSide_n q ?_)
          refine z_auto rfl ?_
          refine z_st rfl ?_
          refine z_auto rfl ?_
          refine z_jp rfl ?_
          refine z_auto rfl ?_
          exact z_rt rfl (zPr_o hR)
      · exact absurd (Classical.not_not.mp c) q1
    · subst e1
      subst e2
      refine z_auto rfl ?_
      refine z_rt rfl (zPr_i (fun rl' rs' => ?_))
      refine z_auto rfl ?_
      refine z_br rfl (fun c => ?_) (fun c => ?_)
      · refine z_auto rfl ?_
        refine z_cl rfl (m_isFloor_y hf ?_)
        refine z_auto rfl ?_
        refine z_st rfl ?_
        refine z_auto rfl ?_
        refine z_cl rfl (m_isSide_y ha ?_)
        refine z_auto rfl ?_
        refine z_jp rfl ?_
        refine z_auto rfl ?_
        refine z_ald (k := 2) rfl rfl (by decide) ?_
        rw [h2, e]
        refine z_auto rfl ?_
        refine z_st rfl ?_
        refine z_auto rfl ?_
        exact z_rt rfl (zPr_o hR)
      · exact absurd (show nI f < 0 by rw [Classical.not_not.mp c]; decide) (nI_pos (by omega))
    · subst e1
      subst e2
      refine z_auto rfl ?_
      refine z_rt rfl (zPr_i (fun rl' rs' => ?_))
      obtain ⟨M, hM⟩ : ∃ M, M = zup (zup (zup (zup I 26 0 n (nI f)) 27 0 n (nI a)) 28 0 n b) 7 0 3 (nI (n + 1)) := ⟨_, rfl⟩
      rw [← hM]
      have m2 : M 40 0 2 = nI n := by
        rw [hM]
        repeat rw [zup_c (by decide)]
        exact h2
      obtain ⟨x, hx, ex⟩ : ∃ x : Nat, x ≤ 1 ∧ b = nI x := by
        rcases hb with q | q
        · exact ⟨0, by decide, q⟩
        · exact ⟨1, by decide, q⟩
      have fin : zRel (zup (zup (zup (zup M 40 0 (74 + n) (nI f)) 40 0 (82 + n) (nI a)) 40 0 (90 + n) b) 40 0 2 (nI (n + 1))) := zRel_row (x := x) hR (Or.inl ⟨rfl, rfl, rfl, rfl⟩) hH hlt hf ha hx (by rw [hM, ex])
      have tail : zW (d + 12) kX10_see (zblk kX10_see 6) [some (zr 10 0), some (zi (nI f)), some (zi (nI a)), some (zi b)] [zi b, zi (90 + nI n), zr 40 0] (zup (zup M 40 0 (74 + n) (nI f)) 40 0 (82 + n) (nI a)) (zRR rl' rs') (fun v2 I2 G2 => some (zi (nI (n + 1))) = v2 ∧ zRel I2 ∧ ∃ rl2 rs2, G2 = zRR rl2 rs2) := by
        refine z_auto rfl ?_
        refine z_ast (k := (90 + n)) rfl (nI_add 90 n) (by show 90 + n < 937; omega) ?_
        refine z_auto rfl ?_
        refine z_ald (k := 2) rfl rfl (by decide) ?_
        rw [zup_ne (by omega), zup_ne (by omega), zup_ne (by omega), m2]
        refine z_auto rfl ?_
        rw [show nI n + 1 = nI (n + 1) from (nI_succ n).symm]
        refine z_auto rfl ?_
        refine z_ast (k := 2) rfl rfl (by decide) ?_
        refine z_auto rfl ?_
        refine z_ald (k := 2) rfl rfl (by decide) ?_
        rw [zup_eq]
        refine z_auto rfl ?_
        exact z_rt rfl (zPr_o2 rfl fin)
      refine z_auto rfl ?_
      refine z_br rfl (fun c => ?_) (fun c => ?_)
      · refine z_auto rfl ?_
        refine z_cl rfl (m_isFloor_y hf ?_)
        refine z_auto rfl ?_
        refine z_st rfl ?_
        refine z_auto rfl ?_
        refine z_cl rfl (m_isSide_y ha ?_)
        refine z_auto rfl ?_
        refine z_jp rfl ?_
        refine z_auto rfl ?_
        refine z_ald (k := 2) rfl rfl (by decide) ?_
        rw [m2]
        refine z_auto rfl ?_
        refine z_br rfl (fun c3 => ?_) (fun c3 => ?_)
        · refine z_auto rfl ?_
          refine z_ald (k := 2) rfl rfl (by decide) ?_
          rw [m2]
          refine z_auto rfl ?_
          refine z_ast (k := (74 + n)) rfl (nI_add 74 n) (by show 74 + n < 937; omega) ?_
          refine z_auto rfl ?_
          refine z_ald (k := 2) rfl rfl (by decide) ?_
          rw [zup_ne (by omega), m2]
          refine z_auto rfl ?_
          refine z_ast (k := (82 + n)) rfl (nI_add 82 n) (by show 82 + n < 937; omega) ?_
          refine z_auto rfl ?_
          refine z_ald (k := 2) rfl rfl (by decide) ?_
          rw [zup_ne (by omega), zup_ne (by omega), m2]
          refine z_auto rfl ?_
          refine z_br rfl (fun c4 => ?_) (fun c4 => ?_)
          · subst c4
            refine z_auto rfl ?_
            refine z_jp rfl ?_
            exact tail
          · have c5 : b = 1 := hb.elim (fun q => absurd q c4) id
            subst c5
            refine z_auto rfl ?_
            refine z_jp rfl ?_
            exact tail
        · exact absurd ((nI_eq (a := n) (b := 8) (by omega) (by decide)).mp (Classical.not_not.mp c3)) (by omega)
      · exact absurd (show nI f < 0 by rw [Classical.not_not.mp c]; decide) (nI_pos (by omega))
  rcases hb with rfl | rfl
  · refine z_auto rfl ?_
    refine z_jp rfl ?_
    refine z_auto rfl ?_
    refine z_jp rfl ?_
    exact crun
  · refine z_auto rfl ?_
    refine z_st rfl ?_
    refine z_auto rfl ?_
    refine z_jp rfl ?_
    exact crun
set_option maxHeartbeats 4000000 in
set_option maxRecDepth 100000 in
theorem p_book (x1 x2 x3 : Int32) : zPr 86 160 [zi x1, zi x2, zi x3] := by
  intro d I rl rs hR
  have hR0 := hR
  obtain ⟨n0, k, t, ⟨b1, b2, b3, ⟨n, b4⟩, b5, b6⟩, -, -, -, -, -⟩ := hR0
  have hH : zbH (I 7 1) (I 26 1) (I 27 1) (I 28 1) (I 40 0) 3 98 9999 n := b4
  obtain ⟨h1, h2, h3, h4⟩ := b4
  have h1 : I 7 1 3 = nI n := h1
  have hw : ∀ u4, (∀ f a, f ≤ 20 → a ≤ 3 → x1 = nI f → x2 = nI a → ∃ x, x ≤ 9999 ∧ x3 = nI x) → zW (d + 12) kX9_book (zblk kX9_book 4) [some (zr 9 0), some (zi x1), some (zi x2), some (zi x3), u4] [] I (zRR rl rs) (fun v1 I1 G1 => ∃ rl1 rs1, G1 = zRR rl1 rs1 ∧ zWm (d + 12) 160 [zr 10 0, zi x1, zi x2, zi x3] I1 G1 (fun v2 I2 G2 => v1 = v2 ∧ zRel I2 ∧ ∃ rl2 rs2, G2 = zRR rl2 rs2)) := by
    intro u4 hok
    refine z_auto rfl ?_
    refine z_cl rfl (s_write h1 h3 (fun e => ?_) (fun q1 q2 => ?_) (fun f a hf ha e1 e2 e => ?_) (fun f a hf ha e1 e2 hlt => ?_))
    · refine z_auto rfl ?_
      refine z_rt rfl (zPr_i (fun rl' rs' => ?_))
      subst e
      refine z_auto rfl ?_
      refine z_st rfl ?_
      refine z_auto rfl ?_
      refine z_ast (k := 3) rfl rfl (by decide) ?_
      refine z_auto rfl ?_
      exact z_rt rfl (zPr_o (zRel_row0 hR (Or.inr ⟨rfl, rfl, rfl, rfl⟩)))
    · refine z_auto rfl ?_
      refine z_rt rfl (zPr_i (fun rl' rs' => ?_))
      refine z_auto rfl ?_
      refine z_br rfl (fun c => ?_) (fun c => ?_)
      · rcases q2 with q | ⟨⟨f, hf, rfl⟩, q⟩
        · refine z_auto rfl ?_
          refine z_cl rfl (m_isFloor_n q ?_)
          refine z_auto rfl ?_
          refine z_jp rfl ?_
          refine z_auto rfl ?_
          exact z_rt rfl (zPr_o hR)
        · refine z_auto rfl ?_
          refine z_cl rfl (m_isFloor_y hf ?_)
          refine z_auto rfl ?_
          refine z_st rfl ?_
          refine z_auto rfl ?_
          refine z_cl rfl (m_isSide_n q ?_)
          refine z_auto rfl ?_
          refine z_st rfl ?_
          refine z_auto rfl ?_
          refine z_jp rfl ?_
          refine z_auto rfl ?_
          exact z_rt rfl (zPr_o hR)
      · exact absurd (Classical.not_not.mp c) q1
    · obtain ⟨x, hx, e3⟩ := hok f a hf ha e1 e2
      subst e1
      subst e2
      subst e3
      refine z_auto rfl ?_
      refine z_rt rfl (zPr_i (fun rl' rs' => ?_))
      refine z_auto rfl ?_
      refine z_br rfl (fun c => ?_) (fun c => ?_)
      · refine z_auto rfl ?_
        refine z_cl rfl (m_isFloor_y hf ?_)
        refine z_auto rfl ?_
        refine z_st rfl ?_
        refine z_auto rfl ?_
        refine z_cl rfl (m_isSide_y ha ?_)
        refine z_auto rfl ?_
        refine z_jp rfl ?_
        refine z_auto rfl ?_
        refine z_cl rfl (m_in_y (lo := 0) (hi := 9999) (Nat.zero_le _) hx (by decide) ?_)
        refine z_auto rfl ?_
        refine z_jp rfl ?_
        refine z_auto rfl ?_
        refine z_ald (k := 3) rfl rfl (by decide) ?_
        rw [h2, e]
        refine z_auto rfl ?_
        refine z_st rfl ?_
        refine z_auto rfl ?_
        exact z_rt rfl (zPr_o hR)
      · exact absurd (show nI f < 0 by rw [Classical.not_not.mp c]; decide) (nI_pos (by omega))
    · obtain ⟨x, hx, e3⟩ := hok f a hf ha e1 e2
      subst e1
      subst e2
      subst e3
      refine z_auto rfl ?_
      refine z_rt rfl (zPr_i (fun rl' rs' => ?_))
      obtain ⟨M, hM⟩ : ∃ M, M = zup (zup (zup (zup I 26 1 n (nI f)) 27 1 n (nI a)) 28 1 n (nI x)) 7 1 3 (nI (n + 1)) := ⟨_, rfl⟩
      rw [← hM]
      have m2 : M 40 0 3 = nI n := by
        rw [hM]
        repeat rw [zup_c (by decide)]
        exact h2
      have fin : zRel (zup (zup (zup (zup M 40 0 (98 + n) (nI f)) 40 0 (106 + n) (nI a)) 40 0 (114 + n) (nI x)) 40 0 3 (nI (n + 1))) := zRel_row (x := x) hR (Or.inr ⟨rfl, rfl, rfl, rfl⟩) hH hlt hf ha hx (by rw [hM])
      refine z_auto rfl ?_
      refine z_br rfl (fun c => ?_) (fun c => ?_)
      · refine z_auto rfl ?_
        refine z_cl rfl (m_isFloor_y hf ?_)
        refine z_auto rfl ?_
        refine z_st rfl ?_
        refine z_auto rfl ?_
        refine z_cl rfl (m_isSide_y ha ?_)
        refine z_auto rfl ?_
        refine z_jp rfl ?_
        refine z_auto rfl ?_
        refine z_cl rfl (m_in_y (lo := 0) (hi := 9999) (Nat.zero_le _) hx (by decide) ?_)
        refine z_auto rfl ?_
        refine z_jp rfl ?_
        refine z_auto rfl ?_
        refine z_ald (k := 3) rfl rfl (by decide) ?_
        rw [m2]
        refine z_auto rfl ?_
        refine z_br rfl (fun c3 => ?_) (fun c3 => ?_)
        · refine z_auto rfl ?_
          refine z_ald (k := 3) rfl rfl (by decide) ?_
          rw [m2]
          refine z_auto rfl ?_
          refine z_ast (k := (98 + n)) rfl (nI_add 98 n) (by show 98 + n < 937; omega) ?_
          refine z_auto rfl ?_
          refine z_ald (k := 3) rfl rfl (by decide) ?_
          rw [zup_ne (by omega), m2]
          refine z_auto rfl ?_
          refine z_ast (k := (106 + n)) rfl (nI_add 106 n) (by show 106 + n < 937; omega) ?_
          refine z_auto rfl ?_
          refine z_ald (k := 3) rfl rfl (by decide) ?_
          rw [zup_ne (by omega), zup_ne (by omega), m2]
          refine z_auto rfl ?_
          refine z_ast (k := (114 + n)) rfl (nI_add 114 n) (by show 114 + n < 937; omega) ?_
          refine z_auto rfl ?_
          refine z_ald (k := 3) rfl rfl (by decide) ?_
          rw [zup_ne (by omega), zup_ne (by omega), zup_ne (by omega), m2]
          refine z_auto rfl ?_
          rw [show nI n + 1 = nI (n + 1) from (nI_succ n).symm]
          refine z_auto rfl ?_
          refine z_ast (k := 3) rfl rfl (by decide) ?_
          refine z_auto rfl ?_
          refine z_ald (k := 3) rfl rfl (by decide) ?_
          rw [zup_eq]
          refine z_auto rfl ?_
          exact z_rt rfl (zPr_o2 rfl fin)
        · exact absurd ((nI_eq (a := n) (b := 8) (by omega) (by decide)).mp (Classical.not_not.mp c3)) (by omega)
      · exact absurd (show nI f < 0 by rw [Classical.not_not.mp c]; decide) (nI_pos (by omega))
  rcases n_cases x1 20 (by decide) with ⟨f, hf, rfl⟩ | hx1
  · refine z_auto rfl ?_
    refine z_cl rfl (c_isFloor_y hf ?_)
    refine z_auto rfl ?_
    refine z_st rfl ?_
    rcases n_cases x2 3 (by decide) with ⟨a, ha, rfl⟩ | hx2
    · refine z_auto rfl ?_
      refine z_cl rfl (c_isSide_y ha ?_)
      refine z_auto rfl ?_
      refine z_st rfl ?_
      refine z_auto rfl ?_
      refine z_jp rfl ?_
      refine z_auto rfl ?_
      refine z_st rfl ?_
      have mbad : (x3 < 0 ∨ 9999 < x3) → ∀ rl' rs', zWm (d + 12) 160 [zr 10 0, zi (nI f), zi (nI a), zi x3] I (zRR rl' rs') (fun v2 I2 G2 => some (zi (-2)) = v2 ∧ zRel I2 ∧ ∃ rl2 rs2, G2 = zRR rl2 rs2) := by
        intro hb rl' rs'
        refine z_auto rfl ?_
        refine z_br rfl (fun c => ?_) (fun c => ?_)
        · refine z_auto rfl ?_
          refine z_cl rfl (m_isFloor_y hf ?_)
          refine z_auto rfl ?_
          refine z_st rfl ?_
          refine z_auto rfl ?_
          refine z_cl rfl (m_isSide_y ha ?_)
          refine z_auto rfl ?_
          refine z_jp rfl ?_
          refine z_auto rfl ?_
          refine z_cl rfl (m_in_n hb ?_)
          refine z_auto rfl ?_
          refine z_st rfl ?_
          refine z_auto rfl ?_
          exact z_rt rfl (zPr_o hR)
        · exact absurd (show nI f < 0 by rw [Classical.not_not.mp c]; decide) (nI_pos (by omega))
      refine z_auto rfl ?_
      refine z_br rfl (fun c => ?_) (fun c => ?_)
      · refine z_auto rfl ?_
        exact z_rt rfl (zPr_i (mbad (Or.inl c)))
      · refine z_auto rfl ?_
        refine z_br rfl (fun c2 => ?_) (fun c2 => ?_)
        · refine hw _ (fun _ _ _ _ _ _ => ?_)
          rcases n_cases x3 9999 (by decide) with q | q
          · exact q
          · exact absurd q (fun q => q.elim c (fun q => absurd q (Int32.not_lt.mpr c2)))
        · refine z_auto rfl ?_
          refine z_jp rfl ?_
          refine z_auto rfl ?_
          exact z_rt rfl (zPr_i (mbad (Or.inr (Int32.not_le.mp c2))))
    · refine z_auto rfl ?_
      refine z_cl rfl (c_isSide_n hx2 ?_)
      refine z_auto rfl ?_
      refine z_jp rfl ?_
      refine z_auto rfl ?_
      refine z_jp rfl ?_
      refine z_auto rfl ?_
      refine z_jp rfl ?_
      exact hw _ (fun f' a' _ ha' _ e2 => absurd hx2 (by rw [e2]; exact n_no (m := 3) ha' (by decide)))
  · refine z_auto rfl ?_
    refine z_cl rfl (c_isFloor_n hx1 ?_)
    refine z_auto rfl ?_
    refine z_jp rfl ?_
    refine z_auto rfl ?_
    refine z_jp rfl ?_
    refine z_auto rfl ?_
    refine z_jp rfl ?_
    exact hw _ (fun f' a' hf' _ e1 _ => absurd hx1 (by rw [e1]; exact n_no (m := 20) hf' (by decide)))
end
end
section
/-! looked, failed -/
section
set_option maxHeartbeats 4000000 in
set_option maxRecDepth 100000 in
theorem p_looked : zPr 87 161 [] := by
  intro d I rl rs hR
  obtain ⟨C, n, k, t, hS, h14, h15⟩ := r_st hR
  have hS0 := hS
  obtain ⟨⟨b1, b2, b3, ⟨m, b4⟩, b5, b6⟩, -, -⟩ := hS0
  obtain ⟨h1, h2, h3, h4⟩ := b4
  have h1 : I 7 1 3 = nI m := h1
  have h4 : ∀ i, i < m → ∃ f sd x : Nat, (f ≤ 20 ∧ sd < 4 ∧ x ≤ 9999) ∧ (I 26 1 i = nI f ∧ I 27 1 i = nI sd ∧ I 28 1 i = nI x) ∧ I 40 0 (98 + i) = nI f ∧ I 40 0 (98 + 8 + i) = nI sd ∧ I 40 0 (98 + 16 + i) = nI x := h4
  obtain ⟨e, he, hb, hl⟩ : ∃ e, e ≤ m ∧ (e = m ∨ ¬ fFo I C n t (I 26 1 e) (I 27 1 e) 0 0 = I 28 1 e) ∧ ∀ g, g < e → fFo I C n t (I 26 1 g) (I 27 1 g) 0 0 = I 28 1 g := by
    rcases n_first (fun g => fFo I C n t (I 26 1 g) (I 27 1 g) 0 0 = I 28 1 g) m with h | ⟨f, h1, h2, h3⟩
    · exact ⟨m, Nat.le_refl _, Or.inl rfl, h⟩
    · exact ⟨f, by omega, Or.inr h2, h3⟩
  have mrun : ∀ J, zFr I J → ∀ v : Int32, (v = if e = m then -5 else nI e) → ∀ rl' rs', zWm (d + 12) 161 [zr 10 0] J (zRR rl' rs') (fun v2 I2 G2 => some (zi v) = v2 ∧ zRel I2 ∧ ∃ rl2 rs2, G2 = zRR rl2 rs2) := by
    intro J hJ v hv rl' rs'
    have loop : ∀ q i, i + q = e → ∀ K, zFM J K → zW (d + 12) kX10_looked (zblk kX10_looked 1) [some (zr 10 0), some (zi (nI i))] [] K (zRR rl' rs') (fun v2 I2 G2 => some (zi v) = v2 ∧ zRel I2 ∧ ∃ rl2 rs2, G2 = zRR rl2 rs2) := by
      intro q
      induction q with
      | zero =>
        intro i hi K hK
        have : i = e := by omega
        subst this
        have k40 : ∀ x, K 40 0 x = I 40 0 x := fun x => (hK 40 0 x (by decide) (by decide) (Or.inl (by decide))).trans (hJ 40 0 x (by decide) (by decide) (Or.inl (by decide)))
        refine z_auto rfl ?_
        refine z_ald (k := 3) rfl rfl (by decide) ?_
        rw [k40, h2]
        refine z_auto rfl ?_
        refine z_br rfl (fun c => ?_) (fun c => ?_)
        · have : i = m := by
            apply Classical.byContradiction
            intro q
            exact absurd c (Int32.not_le.mpr (nI_lt (a := i) (b := m) (by omega) (by omega)))
          refine z_auto rfl ?_
          exact z_rt rfl (zPr_o2 (by rw [hv, if_pos this]) (zRel_M hK (zRel_r hJ hR)))
        · have him : i < m := by
            apply Classical.byContradiction
            intro q
            have : i = m := by omega
            subst this
            exact c (Int32.le_refl _)
          obtain ⟨f, sd, x, ⟨q1, q2, q3⟩, ⟨p0, p1, p2⟩, r1, r2, r3⟩ := h4 i him
          have hne : ¬ fFo I C n t (nI f) (nI sd) 0 0 = nI x := by
            rcases hb with q | q
            · omega
            · rw [p0, p1, p2] at q
              exact q
          refine z_auto rfl ?_
          refine z_ald (k := (98 + i)) rfl (nI_add 98 i) (by show 98 + i < 937; omega) ?_
          refine z_auto rfl ?_
          refine z_ald (k := (106 + i)) rfl (nI_add 106 i) (by show 106 + i < 937; omega) ?_
          rw [k40, k40, r1, r2]
          refine z_auto rfl ?_
          refine z_cl rfl (m_fa hS ((zFa.r hJ).tr (zFa.M hK)) q1 (by decide : 0 ≤ 100) ((zFM_15 hK).trans ((zFr_15 hJ).trans h15)) ((zFM_14 hK).trans ((zFr_14 hJ).trans h14)) (fun L hL _ _ _ => ?_))
          have l40 : L 40 0 (114 + i) = nI x := (hL 40 0 _ (by decide) (by decide) (Or.inl (by decide))).trans ((k40 _).trans r3)
          refine z_auto rfl ?_
          refine z_ald (k := (114 + i)) rfl (nI_add 114 i) (by show 114 + i < 937; omega) ?_
          rw [l40]
          refine z_auto rfl ?_
          refine z_br rfl (fun c2 => ?_) (fun c2 => ?_)
          · exact absurd c2 hne
          · refine z_auto rfl ?_
            exact z_rt rfl (zPr_o2 (by rw [hv, if_neg (by omega)]) (zRel_M (hK.tr hL) (zRel_r hJ hR)))
      | succ q ih =>
        intro i hi K hK
        have k40 : ∀ x, K 40 0 x = I 40 0 x := fun x => (hK 40 0 x (by decide) (by decide) (Or.inl (by decide))).trans (hJ 40 0 x (by decide) (by decide) (Or.inl (by decide)))
        obtain ⟨f, sd, x, ⟨q1, q2, q3⟩, ⟨p0, p1, p2⟩, r1, r2, r3⟩ := h4 i (by omega)
        have heq := hl i (by omega)
        rw [p0, p1, p2] at heq
        refine z_auto rfl ?_
        refine z_ald (k := 3) rfl rfl (by decide) ?_
        rw [k40, h2]
        refine z_auto rfl ?_
        refine z_br rfl (fun c => ?_) (fun c => ?_)
        · exact absurd c (Int32.not_le.mpr (nI_lt (by omega) (by omega)))
        · refine z_auto rfl ?_
          refine z_ald (k := (98 + i)) rfl (nI_add 98 i) (by show 98 + i < 937; omega) ?_
          refine z_auto rfl ?_
          refine z_ald (k := (106 + i)) rfl (nI_add 106 i) (by show 106 + i < 937; omega) ?_
          rw [k40, k40, r1, r2]
          refine z_auto rfl ?_
          refine z_cl rfl (m_fa hS ((zFa.r hJ).tr (zFa.M hK)) q1 (by decide : 0 ≤ 100) ((zFM_15 hK).trans ((zFr_15 hJ).trans h15)) ((zFM_14 hK).trans ((zFr_14 hJ).trans h14)) (fun L hL _ _ _ => ?_))
          have l40 : L 40 0 (114 + i) = nI x := (hL 40 0 _ (by decide) (by decide) (Or.inl (by decide))).trans ((k40 _).trans r3)
          refine z_auto rfl ?_
          refine z_ald (k := (114 + i)) rfl (nI_add 114 i) (by show 114 + i < 937; omega) ?_
          rw [l40]
          have h5 := ih (i + 1) (by omega) L (hK.tr hL)
          rw [nI_succ] at h5
          refine z_auto rfl ?_
          refine z_br rfl (fun c2 => ?_) (fun c2 => ?_)
          · refine z_auto rfl ?_
            refine z_jp rfl ?_
            exact h5
          · exact absurd heq c2
    refine z_auto rfl ?_
    refine z_jp rfl ?_
    exact loop e 0 (Nat.zero_add _) J zFM.rf
  have loop : ∀ q i, i + q = e → ∀ J, zFr I J → ∀ rl rs, zW (d + 12) kX9_looked (zblk kX9_looked 1) [some (zr 9 0), some (zr 7 1), some (zi (nI i))] [] J (zRR rl rs) (fun v1 I1 G1 => ∃ rl1 rs1, G1 = zRR rl1 rs1 ∧ zWm (d + 12) 161 [zr 10 0] I1 G1 (fun v2 I2 G2 => v1 = v2 ∧ zRel I2 ∧ ∃ rl2 rs2, G2 = zRR rl2 rs2)) := by
    intro q
    induction q with
    | zero =>
      intro i hi J hJ rl rs
      have : i = e := by omega
      subst this
      have j7 : J 7 1 3 = nI m := (hJ 7 1 3 (by decide) (by decide) (Or.inl (by decide))).trans h1
      refine z_auto rfl ?_
      rw [j7]
      refine z_auto rfl ?_
      refine z_br rfl (fun c => ?_) (fun c => ?_)
      · have : i = m := by
          apply Classical.byContradiction
          intro q
          exact absurd c (Int32.not_le.mpr (nI_lt (a := i) (b := m) (by omega) (by omega)))
        refine z_auto rfl ?_
        exact z_rt rfl (zPr_i (mrun J hJ _ (by rw [if_pos this])))
      · have him : i < m := by
          apply Classical.byContradiction
          intro q
          have : i = m := by omega
          subst this
          exact c (Int32.le_refl _)
        obtain ⟨f, sd, x, ⟨q1, q2, q3⟩, ⟨p0, p1, p2⟩, r1, r2, r3⟩ := h4 i him
        have hne : ¬ fFo I C n t (nI f) (nI sd) 0 0 = nI x := by
          rcases hb with q | q
          · omega
          · rw [p0, p1, p2] at q
            exact q
        have j26 : J 26 1 i = nI f := (hJ 26 1 i (by decide) (by decide) (Or.inl (by decide))).trans p0
        have j27 : J 27 1 i = nI sd := (hJ 27 1 i (by decide) (by decide) (Or.inl (by decide))).trans p1
        refine z_auto rfl ?_
        refine z_br rfl (fun c1 => ?_) (fun c1 => ?_)
        · exact absurd c1 (Int32.not_le.mpr (nI_lt (a := i) (b := 8) (by omega) (by decide)))
        · refine z_auto rfl ?_
          refine z_ald (k := i) rfl rfl (by show i < 8; omega) ?_
          refine z_auto rfl ?_
          refine z_ald (k := i) rfl rfl (by show i < 8; omega) ?_
          rw [j26, j27]
          refine z_auto rfl ?_
          refine z_cl rfl (s_forceOf (zCu_fr hJ hS.2.1) (fun K hK => ?_))
          have k28 : K 28 1 i = nI x := (hK.1 28 1 i (by decide) (by decide) (Or.inl (by decide))).trans ((hJ 28 1 i (by decide) (by decide) (Or.inl (by decide))).trans p2)
          refine z_auto rfl ?_
          refine z_ald (k := i) rfl rfl (by show i < 8; omega) ?_
          rw [k28, fFo_fr hJ]
          refine z_auto rfl ?_
          refine z_br rfl (fun c2 => ?_) (fun c2 => ?_)
          · exact absurd c2 hne
          · refine z_auto rfl ?_
            exact z_rt rfl (zPr_i (mrun K (hJ.tr hK.1) _ (by rw [if_neg (by omega)])))
    | succ q ih =>
      intro i hi J hJ rl rs
      have j7 : J 7 1 3 = nI m := (hJ 7 1 3 (by decide) (by decide) (Or.inl (by decide))).trans h1
      obtain ⟨f, sd, x, ⟨q1, q2, q3⟩, ⟨p0, p1, p2⟩, r1, r2, r3⟩ := h4 i (by omega)
      have heq := hl i (by omega)
      rw [p0, p1, p2] at heq
      have j26 : J 26 1 i = nI f := (hJ 26 1 i (by decide) (by decide) (Or.inl (by decide))).trans p0
      have j27 : J 27 1 i = nI sd := (hJ 27 1 i (by decide) (by decide) (Or.inl (by decide))).trans p1
      refine z_auto rfl ?_
      rw [j7]
      refine z_auto rfl ?_
      refine z_br rfl (fun c => ?_) (fun c => ?_)
      · exact absurd c (Int32.not_le.mpr (nI_lt (by omega) (by omega)))
      · refine z_auto rfl ?_
        refine z_br rfl (fun c1 => ?_) (fun c1 => ?_)
        · exact absurd c1 (Int32.not_le.mpr (nI_lt (a := i) (b := 8) (by omega) (by decide)))
        · refine z_auto rfl ?_
          refine z_ald (k := i) rfl rfl (by show i < 8; omega) ?_
          refine z_auto rfl ?_
          refine z_ald (k := i) rfl rfl (by show i < 8; omega) ?_
          rw [j26, j27]
          refine z_auto rfl ?_
          refine z_cl rfl (s_forceOf (zCu_fr hJ hS.2.1) (fun K hK => ?_))
          have k28 : K 28 1 i = nI x := (hK.1 28 1 i (by decide) (by decide) (Or.inl (by decide))).trans ((hJ 28 1 i (by decide) (by decide) (Or.inl (by decide))).trans p2)
          refine z_auto rfl ?_
          refine z_ald (k := i) rfl rfl (by show i < 8; omega) ?_
          rw [k28, fFo_fr hJ]
          have h5 := ih (i + 1) (by omega) K (hJ.tr hK.1) (some (4, 0)) rs
          rw [nI_succ] at h5
          refine z_auto rfl ?_
          refine z_br rfl (fun c2 => ?_) (fun c2 => ?_)
          · refine z_auto rfl ?_
            refine z_jp rfl ?_
            exact h5
          · exact absurd heq c2
  refine z_auto rfl ?_
  refine z_jp rfl ?_
  exact loop e 0 (Nat.zero_add _) I zFr.rf rl rs
end
end
section
/-! failed -/
def fMk (b : Nat → Int32) (x : Int32) : Nat → Int32
  | 0 => 0
  | m + 1 => if b m = x then fMk b x m ||| (1 <<< (nI m &&& 31)) else fMk b x m
theorem b_all : ∀ n, n ≤ 8 → ∀ i, i < 32 → bt ((1 <<< (nI n &&& 31)) - 1) i = decide (i < n) := by decide +kernel
theorem b_neg {x : Int32} (h : x < 0) : bt x 31 = true := by
  have h1 : x.toBitVec.toInt < 0 := Int32.lt_iff_toInt_lt.mp h
  have h2 : x.toBitVec.msb = true := by
    rw [BitVec.msb_eq_toInt]
    exact decide_eq_true h1
  rw [BitVec.msb_eq_getLsbD_last] at h2
  exact h2
theorem r_set {x : Int32} {n : Nat} (h8 : n ≤ 8) : x &&& (((1 <<< (nI n &&& 31)) - 1) ^^^ (-1)) = 0 ↔ x >>> (nI n &&& 31) = 0 := by
  constructor
  · intro h
    have hb : ∀ i, i < 32 → n ≤ i → bt x i = false := by
      intro i hi hn
      have := congrArg (fun y => bt y i) h
      try dsimp only at this
      rw [b_and, b_xor, b_all n h8 i hi, b_m1 i hi, b_0, decide_eq_false (by omega)] at this
      cases hx : bt x i
      · rfl
      · rw [hx] at this
        exact absurd this (by decide)
    refine b_ext (fun i hi => ?_)
    rw [b_sshr n (by omega) x hi, b_0]
    split
    · exact hb _ (by omega) (by omega)
    · exact hb _ (by omega) (by omega)
  · intro h
    refine b_ext (fun i hi => ?_)
    rw [b_and, b_xor, b_all n h8 i hi, b_m1 i hi, b_0]
    by_cases c : i < n
    · rw [decide_eq_true c]
      cases bt x i <;> rfl
    · have := congrArg (fun y => bt y (i - n)) h
      try dsimp only at this
      rw [b_sshr n (by omega) x (by omega), b_0, if_pos (by omega), show n + (i - n) = i by omega] at this
      rw [this]
      rfl
theorem r_set0 {x : Int32} {n : Nat} (h8 : n ≤ 8) (h : x >>> (nI n &&& 31) = 0) : ¬ x < 0 := by
  intro c
  have h1 := b_neg c
  have := congrArg (fun y => bt y 31) h
  try dsimp only at this
  rw [b_sshr n (by omega) x (by omega), b_0] at this
  split at this
  · rename_i q
    have : n = 0 := by omega
    subst this
    rw [h1] at this
    exact absurd this (by decide)
  · rw [h1] at this
    exact absurd this (by decide)
section
variable {d : Nat} {I : zMI} {rl rs : Option (Nat × Nat)} {Q : zPQ} {G : zMR} {n k t : Nat} {C : List zCl}
set_option maxHeartbeats 4000000 in
set_option maxRecDepth 100000 in
theorem m_isSet {x : Int32} (hm : I 40 0 0 = nI n) (h8 : n ≤ 8) (h1 : x >>> (nI n &&& 31) = 0 → Q (some (zi 1)) I (zRR rl rs)) (h0 : ¬ x >>> (nI n &&& 31) = 0 → Q (some (zi 0)) I (zRR rl rs)) : zWm d 152 [zr 10 0, zi x] I (zRR rl rs) Q := by
  refine z_auto rfl ?_
  refine z_br rfl (fun c => ?_) (fun c => ?_)
  · refine z_auto rfl ?_
    refine z_jp rfl ?_
    refine z_auto rfl ?_
    exact z_rt rfl (h0 (fun q => r_set0 h8 q c))
  · refine z_auto rfl ?_
    refine z_ald (k := 0) rfl rfl (by decide) ?_
    rw [hm]
    refine z_auto rfl ?_
    refine z_br rfl (fun c2 => ?_) (fun c2 => ?_)
    · refine z_auto rfl ?_
      refine z_jp rfl ?_
      refine z_auto rfl ?_
      exact z_rt rfl (h0 c2)
    · refine z_auto rfl ?_
      refine z_jp rfl ?_
      refine z_auto rfl ?_
      exact z_rt rfl (h1 (Classical.not_not.mp c2))
set_option maxHeartbeats 4000000 in
set_option maxRecDepth 100000 in
theorem p_failed (x1 x2 : Int32) : zPr 81 153 [zi x1, zi x2] := by
  intro d I rl rs hR
  obtain ⟨C, n, k, t, hS, h14, h15⟩ := r_st hR
  have hn := hS.1.1.1
  have hm := hS.1.1.2.1
  have h8 := hS.1.1.2.2.1
  rcases n_cases x1 3 (by decide) with ⟨a, ha, rfl⟩ | hx1
  · refine z_auto rfl ?_
    refine z_cl rfl (c_isSide_y ha ?_)
    refine z_auto rfl ?_
    refine z_jp rfl ?_
    refine z_auto rfl ?_
    refine z_cl rfl (s_allBits ?_)
    refine z_auto rfl ?_
    rw [hn]
    refine z_auto rfl ?_
    refine z_br rfl (fun c => ?_) (fun c => ?_)
    · obtain ⟨b, hb⟩ : ∃ b : Nat → Int32, b = fun i => (fAll I C n t (nI i) (nI a) 0 0).2.1.2.2 := ⟨_, rfl⟩
      have mrun : ∀ J, zFr I J → ∀ rl' rs', zWm (d + 12) 153 [zr 10 0, zi (nI a), zi x2] J (zRR rl' rs') (fun v2 I2 G2 => some (zi (fMk b x2 21)) = v2 ∧ zRel I2 ∧ ∃ rl2 rs2, G2 = zRR rl2 rs2) := by
        intro J hJ rl' rs'
        have loop : ∀ q i, i + q = 21 → ∀ K, zFM J K → zW (d + 12) kX10_failed (zblk kX10_failed 3) [some (zr 10 0), some (zi (nI a)), some (zi x2), some (zi (fMk b x2 i)), some (zi (nI i))] [] K (zRR rl' rs') (fun v2 I2 G2 => some (zi (fMk b x2 21)) = v2 ∧ zRel I2 ∧ ∃ rl2 rs2, G2 = zRR rl2 rs2) := by
          intro q
          induction q with
          | zero =>
            intro i hi K hK
            have : i = 21 := by omega
            subst this
            refine z_auto rfl ?_
            refine z_jp rfl ?_
            refine z_auto rfl ?_
            exact z_rt rfl (zPr_o (zRel_M hK (zRel_r hJ hR)))
          | succ q ih =>
            intro i hi K hK
            refine z_auto rfl ?_
            refine z_br rfl (fun c1 => ?_) (fun c1 => ?_)
            · exact absurd c1 (Int32.not_lt.mpr (nI_le (b := 20) (by omega) (by decide)))
            · refine z_auto rfl ?_
              refine z_cl rfl (m_fa hS ((zFa.r hJ).tr (zFa.M hK)) (f := i) (by omega) (by decide : 0 ≤ 100) ((zFM_15 hK).trans ((zFr_15 hJ).trans h15)) ((zFM_14 hK).trans ((zFr_14 hJ).trans h14)) (fun L hL _ h16 _ => ?_))
              have h5 := ih (i + 1) (by omega) L (hK.tr hL)
              have e16 : L 10 0 16 = b i := by rw [hb]; exact h16
              rw [fMk, nI_succ] at h5
              refine z_auto rfl ?_
              rw [e16]
              refine z_auto rfl ?_
              refine z_br rfl (fun c2 => ?_) (fun c2 => ?_)
              · rw [if_neg c2] at h5
                refine z_auto rfl ?_
                refine z_jp rfl ?_
                refine z_auto rfl ?_
                rw [Int32.or_zero]
                refine z_auto rfl ?_
                refine z_jp rfl ?_
                exact h5
              · rw [if_pos (Classical.not_not.mp c2)] at h5
                refine z_auto rfl ?_
                refine z_jp rfl ?_
                refine z_auto rfl ?_
                refine z_jp rfl ?_
                exact h5
        have j0 : J 40 0 0 = nI n := (hJ 40 0 0 (by decide) (by decide) (Or.inl (by decide))).trans hm
        refine z_auto rfl ?_
        refine z_cl rfl (m_isSide_y ha ?_)
        refine z_auto rfl ?_
        refine z_jp rfl ?_
        refine z_auto rfl ?_
        refine z_cl rfl (m_isSet j0 h8 (fun _ => ?_) (fun q => absurd ((r_set h8).mp c) q))
        refine z_auto rfl ?_
        refine z_jp rfl ?_
        refine z_auto rfl ?_
        refine z_jp rfl ?_
        exact loop 21 0 rfl J zFM.rf
      have loop : ∀ q i, i + q = 21 → ∀ J, zFr I J → ∀ rl rs, zW (d + 12) kX9_failed (zblk kX9_failed 3) [some (zr 9 0), some (zi (nI a)), some (zi x2), some (zi (fMk b x2 i)), some (zi (nI i))] [] J (zRR rl rs) (fun v1 I1 G1 => ∃ rl1 rs1, G1 = zRR rl1 rs1 ∧ zWm (d + 12) 153 [zr 10 0, zi (nI a), zi x2] I1 G1 (fun v2 I2 G2 => v1 = v2 ∧ zRel I2 ∧ ∃ rl2 rs2, G2 = zRR rl2 rs2)) := by
        intro q
        induction q with
        | zero =>
          intro i hi J hJ rl rs
          have : i = 21 := by omega
          subst this
          refine z_auto rfl ?_
          refine z_jp rfl ?_
          refine z_auto rfl ?_
          exact z_rt rfl (zPr_i (mrun J hJ))
        | succ q ih =>
          intro i hi J hJ rl rs
          refine z_auto rfl ?_
          refine z_br rfl (fun c1 => ?_) (fun c1 => ?_)
          · exact absurd c1 (Int32.not_lt.mpr (nI_le (b := 20) (by omega) (by decide)))
          · refine z_auto rfl ?_
            refine z_cl rfl (s_letFall (zCu_fr hJ hS.2.1) (fun K hK _ => ?_))
            have h5 := ih (i + 1) (by omega) K (hJ.tr hK.1) (some (4, 0)) rs
            have e2 : K 3 0 2 = b i := by
              rw [hb, hK.2.2.2.2.1, fAll_fr hJ]
            rw [fMk, nI_succ] at h5
            refine z_auto rfl ?_
            rw [e2]
            refine z_auto rfl ?_
            refine z_br rfl (fun c2 => ?_) (fun c2 => ?_)
            · rw [if_neg c2] at h5
              refine z_auto rfl ?_
              refine z_jp rfl ?_
              exact h5
            · rw [if_pos (Classical.not_not.mp c2)] at h5
              refine z_auto rfl ?_
              refine z_jp rfl ?_
              refine z_auto rfl ?_
              refine z_jp rfl ?_
              exact h5
      refine z_auto rfl ?_
      refine z_jp rfl ?_
      exact loop 21 0 rfl I zFr.rf rl rs
    · refine z_auto rfl ?_
      refine z_rt rfl (zPr_i (fun rl' rs' => ?_))
      refine z_auto rfl ?_
      refine z_cl rfl (m_isSide_y ha ?_)
      refine z_auto rfl ?_
      refine z_jp rfl ?_
      refine z_auto rfl ?_
      refine z_cl rfl (m_isSet hm h8 (fun q => absurd ((r_set h8).mpr q) c) (fun q => ?_))
      refine z_auto rfl ?_
      refine z_st rfl ?_
      refine z_auto rfl ?_
      exact z_rt rfl (zPr_o hR)
  · refine z_auto rfl ?_
    refine z_cl rfl (c_isSide_n hx1 ?_)
    refine z_auto rfl ?_
    refine z_st rfl ?_
    refine z_auto rfl ?_
    refine z_rt rfl (zPr_i (fun rl' rs' => ?_))
    refine z_auto rfl ?_
    refine z_cl rfl (m_isSide_n hx1 ?_)
    refine z_auto rfl ?_
    refine z_st rfl ?_
    refine z_auto rfl ?_
    exact z_rt rfl (zPr_o hR)
end
end
section
/-! image, undo -/
theorem zbL_cg {a4 a20 a21 a22 a23 a24 a25 s b4 b20 b21 b22 b23 b24 b25 s' : Nat → Int32} {n : Nat} (h47 : b4 7 = a4 7) (h46 : b4 6 = a4 6) (h20 : ∀ k, k < 8 → b20 k = a20 k) (h21 : ∀ k, k < 8 → b21 k = a21 k) (h22 : ∀ k, k < 8 → b22 k = a22 k) (h23 : ∀ k, k < 8 → b23 k = a23 k) (h24 : ∀ k, k < 8 → b24 k = a24 k) (h25 : ∀ k, k < 24 → b25 k = a25 k) (hs : ∀ k, k < 937 → s' k = s k) (h : zbL a4 a20 a21 a22 a23 a24 a25 s n) : zbL b4 b20 b21 b22 b23 b24 b25 s' n := by
  obtain ⟨g1, g2, g3, g4, g5, g6, g7, g8⟩ := h
  refine ⟨h47.trans g1, (hs 0 (by omega)).trans g2, g3, fun i hi => ?_, fun i x hi hx => ?_, fun x h1 h2 => (h25 x h2).trans (g6 x h1 h2), (h46.trans g7).trans (hs 9 (by omega)).symm, fun i hi => ?_⟩
  · rw [h20 i (by omega), h21 i (by omega), h22 i (by omega), h23 i (by omega), h24 i (by omega), hs _ (by omega), hs _ (by omega), hs _ (by omega), hs _ (by omega), hs _ (by omega)]
    exact g4 i hi
  · rw [h25 _ (by omega), hs _ (by omega)]
    exact g5 i x hi hx
  · rw [hs 9 (by omega)]
    exact g8 i hi
theorem zbH_cg {a7 a26 a27 a28 s b7 b26 b27 b28 s' : Nat → Int32} {q o X n : Nat} (hq : q < 937) (ho : o + 24 ≤ 937) (h7 : b7 3 = a7 3) (h26 : ∀ k, k < 8 → b26 k = a26 k) (h27 : ∀ k, k < 8 → b27 k = a27 k) (h28 : ∀ k, k < 8 → b28 k = a28 k) (hs : ∀ k, k < 937 → s' k = s k) (h : zbH a7 a26 a27 a28 s q o X n) : zbH b7 b26 b27 b28 s' q o X n := by
  obtain ⟨h1, h2, h3, h4⟩ := h
  refine ⟨h7.trans h1, (hs q hq).trans h2, h3, fun i hi => ?_⟩
  rw [h26 i (by omega), h27 i (by omega), h28 i (by omega), hs _ (by omega), hs _ (by omega), hs _ (by omega)]
  exact h4 i hi
theorem zbT_cg {a8 a29 s b8 b29 s' : Nat → Int32} {n : Nat} (h8 : b8 1 = a8 1) (h29 : ∀ k, k < 100 → b29 k = a29 k) (hs : ∀ k, k < 937 → s' k = s k) (h : zbT a8 a29 s n) : zbT b8 b29 s' n := by
  obtain ⟨h1, h2, h3, h4⟩ := h
  refine ⟨h8.trans h1, (hs 4 (by omega)).trans h2, h3, fun i hi => ?_⟩
  rw [h29 i (by omega), hs _ (by omega)]
  exact h4 i hi
theorem zMS_cg {s s' : Nat → Int32} {a : Nat} {C : List zCl} (ha : a < 5) (hs : ∀ k, k < 937 → s' k = s k) (hM : zMS s a C) : zMS s' a C := by
  obtain ⟨q1, q2, q3, q4, q5, q6⟩ := hM
  refine ⟨(hs _ (by omega)).trans q1, q2, fun k x hk => ?_, (hs _ (by omega)).trans q4, (hs _ (by omega)).trans q5, q6⟩
  have hk2 : k < (zmf C).length := (List.getElem?_eq_some_iff.mp hk).1
  exact (hs _ (by omega)).trans (q3 k x hk)
theorem zbS_cg {I J : zMI} {b b' : Nat} {s s' : Nat → Int32} {k : Nat} (h15 : J 1 b 5 = I 1 b' 5) (hE : ∀ c j k, (c = 6 ∨ c = 30 ∨ c = 31 ∨ c = 32 ∨ c = 33) → J c j k = I c j k) (hs : ∀ k, k < 937 → s' k = s k) (hS : zbS I b' s k) : zbS J b s' k := by
  obtain ⟨g1, g2, g3, g4, g5⟩ := hS
  refine ⟨h15.trans g1, (hs 1 (by omega)).trans g2, g3, (hs 5 (by omega)).trans g4, fun j hj => ?_⟩
  obtain ⟨C, c1, c2⟩ := g5 j hj
  exact ⟨C, zES_fr (fun c k hc => hE c _ k hc) c1, zMS_cg (by omega) hs c2⟩
/-- box b is now as box b' was -/
def zPy (I J : zMI) (b b' : Nat) : Prop := (∀ c k, ((c = 1 ∧ (k = 5 ∨ k = 6)) ∨ (c = 2 ∧ k ≤ 1) ∨ (c = 4 ∧ (k = 6 ∨ k = 7)) ∨ (20 ≤ c ∧ c ≤ 24 ∧ k < 8) ∨ (c = 25 ∧ k < 24) ∨ (c = 8 ∧ k = 1) ∨ (c = 29 ∧ k < 100)) → J c b k = I c b' k) ∧
  (∀ c k e, e ≤ 1 → ((c = 7 ∧ k = 3) ∨ (26 ≤ c ∧ c ≤ 28 ∧ k < 8)) → J c (2 * b + e) k = I c (2 * b' + e) k) ∧
  (∀ c i k, ¬ ((c = 1 ∨ c = 2 ∨ c = 4 ∨ c = 8 ∨ (20 ≤ c ∧ c ≤ 25) ∨ c = 29) ∧ i = b) → ¬ ((c = 7 ∨ (26 ≤ c ∧ c ≤ 28)) ∧ (i = 2 * b ∨ i = 2 * b + 1)) → J c i k = I c i k)
theorem zPy_bx {I J : zMI} {b b' : Nat} {s s' : Nat → Int32} {n k t : Nat} (h : zPy I J b b') (hs : ∀ k, k < 937 → s' k = s k) (hx : zbx I b' s n k t) : zbx J b s' n k t := by
  obtain ⟨p1, p2, p3⟩ := h
  obtain ⟨h1, h2, ⟨m1, h3⟩, ⟨m2, h4⟩, ⟨m3, h5⟩, ⟨e1, e2, e3, e4, e5⟩⟩ := hx
  refine ⟨?_, ?_, ⟨m1, ?_⟩, ⟨m2, ?_⟩, ⟨m3, ?_⟩, ?_⟩
  · exact zbL_cg (p1 4 7 (by omega)) (p1 4 6 (by omega)) (fun k hk => p1 20 k (by omega)) (fun k hk => p1 21 k (by omega)) (fun k hk => p1 22 k (by omega)) (fun k hk => p1 23 k (by omega)) (fun k hk => p1 24 k (by omega)) (fun k hk => p1 25 k (by omega)) hs h1
  · exact zbS_cg (p1 1 5 (by omega)) (fun c j k hc => p3 c j k (by omega) (by omega)) hs h2
  · exact zbH_cg (by omega) (by omega) (p2 7 3 0 (by omega) (by omega)) (fun k hk => p2 26 k 0 (by omega) (by omega)) (fun k hk => p2 27 k 0 (by omega) (by omega)) (fun k hk => p2 28 k 0 (by omega) (by omega)) hs h3
  · exact zbH_cg (by omega) (by omega) (p2 7 3 1 (by omega) (by omega)) (fun k hk => p2 26 k 1 (by omega) (by omega)) (fun k hk => p2 27 k 1 (by omega) (by omega)) (fun k hk => p2 28 k 1 (by omega) (by omega)) hs h4
  · exact zbT_cg (p1 8 1 (by omega)) (fun k hk => p1 29 k (by omega)) hs h5
  · refine ⟨(p1 1 6 (by omega)).trans e1, (hs 6 (by omega)).trans e2, e3, ((p1 2 0 (by omega)).trans e4).trans (hs 7 (by omega)).symm, ?_⟩
    rw [p1 2 1 (by omega), hs 8 (by omega)]
    exact e5
/-- a box that nothing touches -/
theorem zbx_id {I J : zMI} {b : Nat} {s s' : Nat → Int32} {n k t : Nat} (h : ∀ c i k, ((c = 1 ∨ c = 2 ∨ c = 4 ∨ c = 8 ∨ (20 ≤ c ∧ c ≤ 25) ∨ c = 29) ∧ i = b) ∨ ((c = 7 ∨ (26 ≤ c ∧ c ≤ 28)) ∧ (i = 2 * b ∨ i = 2 * b + 1)) ∨ c = 6 ∨ (30 ≤ c ∧ c ≤ 33) → J c i k = I c i k) (hs : ∀ k, k < 937 → s' k = s k) (hx : zbx I b s n k t) : zbx J b s' n k t := by
  obtain ⟨h1, h2, ⟨m1, h3⟩, ⟨m2, h4⟩, ⟨m3, h5⟩, ⟨e1, e2, e3, e4, e5⟩⟩ := hx
  refine ⟨?_, ?_, ⟨m1, ?_⟩, ⟨m2, ?_⟩, ⟨m3, ?_⟩, ?_⟩
  · exact zbL_cg (h 4 b 7 (by omega)) (h 4 b 6 (by omega)) (fun k hk => h 20 b k (by omega)) (fun k hk => h 21 b k (by omega)) (fun k hk => h 22 b k (by omega)) (fun k hk => h 23 b k (by omega)) (fun k hk => h 24 b k (by omega)) (fun k hk => h 25 b k (by omega)) hs h1
  · exact zbS_cg (h 1 b 5 (by omega)) (fun c j k hc => h c j k (by omega)) hs h2
  · exact zbH_cg (by omega) (by omega) (h 7 _ 3 (by omega)) (fun k hk => h 26 _ k (by omega)) (fun k hk => h 27 _ k (by omega)) (fun k hk => h 28 _ k (by omega)) hs h3
  · exact zbH_cg (by omega) (by omega) (h 7 _ 3 (by omega)) (fun k hk => h 26 _ k (by omega)) (fun k hk => h 27 _ k (by omega)) (fun k hk => h 28 _ k (by omega)) hs h4
  · exact zbT_cg (h 8 b 1 (by omega)) (fun k hk => h 29 b k (by omega)) hs h5
  · refine ⟨(h 1 b 6 (by omega)).trans e1, (hs 6 (by omega)).trans e2, e3, ((h 2 b 0 (by omega)).trans e4).trans (hs 7 (by omega)).symm, ?_⟩
    rw [h 2 b 1 (by omega), hs 8 (by omega)]
    exact e5
theorem zcp_ne {I : zMI} {cs js cd jd n c i k : Nat} (h : ¬ (c = cd ∧ i = jd ∧ k < n)) : zcp I cs js cd jd n c i k = I c i k := if_neg h
theorem zcp_eq {I : zMI} {cs js cd jd n k : Nat} (h : k < n) : zcp I cs js cd jd n cd jd k = I cs js k := if_pos ⟨rfl, rfl, h⟩
theorem z_cpy {d : Nat} {B : List (List zAI)} {is : List zAI} {L : zXL} {S : List zAV} {I : zMI} {G : zMR} {Q : zPQ} {c0 j0 c j : Nat} {n dp sp : Int32} (h : zsh c = 1 ∧ zsh c0 = 1 ∧ zal c0 = zal c ∧ n = nI (zal c) ∧ sp = 0 ∧ dp = 0 ∧ zshort S = true) (kk : zW d B is L S (zcp I c0 j0 c j (zal c)) G Q) : zW d B ((44, 0, 0, 0) :: is) L (zi n :: zi dp :: zr c j :: zi sp :: zr c0 j0 :: S) I G Q := z_ck rfl h kk
section
variable {d : Nat} {I : zMI} {rl rs : Option (Nat × Nat)} {Q : zPQ} {G : zMR} {b b' : Nat}
set_option maxHeartbeats 4000000 in
set_option maxRecDepth 100000 in
theorem s_cp8 (hb : b ≠ b') (h : ∀ J : zMI, (∀ c i k, ¬ ((c = 8 ∨ c = 29) ∧ i = b) → J c i k = I c i k) → J 8 b 1 = I 8 b' 1 → (∀ k, k < 100 → J 29 b k = I 29 b' k) → Q none J (zRR rl rs)) : zWm d 63 [zr 8 b, zr 8 b'] I (zRR rl rs) Q := by
  refine z_auto rfl ?_
  refine z_cpy ⟨rfl, rfl, rfl, rfl, rfl, rfl, rfl⟩ ?_
  refine z_auto rfl ?_
  exact z_rt rfl (h _ (fun c i k h1 => by rw [zup_ne (by omega), zcp_ne (by omega)]) (by rw [zup_eq, zcp_ne (by omega)]) (fun k hk => by rw [zup_ne (by omega)]; exact zcp_eq hk))
set_option maxHeartbeats 4000000 in
set_option maxRecDepth 100000 in
theorem s_cp7 (hb : b ≠ b') (h : ∀ J : zMI, (∀ c i k, ¬ ((c = 7 ∨ c = 26 ∨ c = 27 ∨ c = 28) ∧ i = b) → J c i k = I c i k) → J 7 b 3 = I 7 b' 3 → (∀ c k, (c = 26 ∨ c = 27 ∨ c = 28) → k < 8 → J c b k = I c b' k) → Q none J (zRR rl rs)) : zWm d 60 [zr 7 b, zr 7 b'] I (zRR rl rs) Q := by
  refine z_auto rfl ?_
  refine z_cpy ⟨rfl, rfl, rfl, rfl, rfl, rfl, rfl⟩ ?_
  refine z_auto rfl ?_
  refine z_cpy ⟨rfl, rfl, rfl, rfl, rfl, rfl, rfl⟩ ?_
  refine z_auto rfl ?_
  refine z_cpy ⟨rfl, rfl, rfl, rfl, rfl, rfl, rfl⟩ ?_
  refine z_auto rfl ?_
  refine z_rt rfl (h _ (fun c i k h1 => ?_) ?_ (fun c k hc hk => ?_))
  · rw [zup_ne (by omega), zcp_ne (by omega), zcp_ne (by omega), zcp_ne (by omega)]
  · rw [zup_eq, zcp_ne (by omega), zcp_ne (by omega), zcp_ne (by omega)]
  · rcases hc with rfl | rfl | rfl
    · rw [zup_ne (by omega), zcp_ne (by omega), zcp_ne (by omega)]
      exact zcp_eq hk
    · rw [zup_ne (by omega), zcp_ne (by omega)]
      exact (zcp_eq hk).trans (zcp_ne (by omega))
    · rw [zup_ne (by omega)]
      exact (zcp_eq hk).trans ((zcp_ne (by omega)).trans (zcp_ne (by omega)))
set_option maxHeartbeats 4000000 in
set_option maxRecDepth 100000 in
theorem s_cp4 (hb : b ≠ b') (h : ∀ J : zMI, (∀ c i k, ¬ ((c = 4 ∨ (20 ≤ c ∧ c ≤ 25)) ∧ i = b) → J c i k = I c i k) → (∀ k, (k = 6 ∨ k = 7) → J 4 b k = I 4 b' k) → (∀ c k, 20 ≤ c → c ≤ 24 → k < 8 → J c b k = I c b' k) → (∀ k, k < 24 → J 25 b k = I 25 b' k) → Q none J (zRR rl rs)) : zWm d 34 [zr 4 b, zr 4 b'] I (zRR rl rs) Q := by
  refine z_auto rfl ?_
  refine z_cpy ⟨rfl, rfl, rfl, rfl, rfl, rfl, rfl⟩ ?_
  refine z_auto rfl ?_
  refine z_cpy ⟨rfl, rfl, rfl, rfl, rfl, rfl, rfl⟩ ?_
  refine z_auto rfl ?_
  refine z_cpy ⟨rfl, rfl, rfl, rfl, rfl, rfl, rfl⟩ ?_
  refine z_auto rfl ?_
  refine z_cpy ⟨rfl, rfl, rfl, rfl, rfl, rfl, rfl⟩ ?_
  refine z_auto rfl ?_
  refine z_cpy ⟨rfl, rfl, rfl, rfl, rfl, rfl, rfl⟩ ?_
  refine z_auto rfl ?_
  refine z_cpy ⟨rfl, rfl, rfl, rfl, rfl, rfl, rfl⟩ ?_
  refine z_auto rfl ?_
  refine z_rt rfl (h _ (fun c i k h1 => ?_) (fun k hk => ?_) (fun c k hc1 hc2 hk => ?_) (fun k hk => ?_))
  · rw [zup_ne (by omega), zup_ne (by omega), zcp_ne (by omega), zcp_ne (by omega), zcp_ne (by omega), zcp_ne (by omega), zcp_ne (by omega), zcp_ne (by omega)]
  · rcases hk with rfl | rfl
    · rw [zup_ne (by omega), zup_eq, zcp_ne (by omega), zcp_ne (by omega), zcp_ne (by omega), zcp_ne (by omega), zcp_ne (by omega), zcp_ne (by omega)]
    · rw [zup_eq, zup_ne (by omega), zcp_ne (by omega), zcp_ne (by omega), zcp_ne (by omega), zcp_ne (by omega), zcp_ne (by omega), zcp_ne (by omega)]
  · rw [zup_ne (by omega), zup_ne (by omega), zcp_ne (by omega)]
    rcases (show c = 20 ∨ c = 21 ∨ c = 22 ∨ c = 23 ∨ c = 24 by omega) with rfl | rfl | rfl | rfl | rfl
    · rw [zcp_ne (by omega), zcp_ne (by omega), zcp_ne (by omega), zcp_ne (by omega)]
      exact zcp_eq hk
    · rw [zcp_ne (by omega), zcp_ne (by omega), zcp_ne (by omega)]
      exact (zcp_eq hk).trans (zcp_ne (by omega))
    · rw [zcp_ne (by omega), zcp_ne (by omega)]
      exact (zcp_eq hk).trans ((zcp_ne (by omega)).trans (zcp_ne (by omega)))
    · rw [zcp_ne (by omega)]
      exact (zcp_eq hk).trans ((zcp_ne (by omega)).trans ((zcp_ne (by omega)).trans (zcp_ne (by omega))))
    · exact (zcp_eq hk).trans ((zcp_ne (by omega)).trans ((zcp_ne (by omega)).trans ((zcp_ne (by omega)).trans (zcp_ne (by omega)))))
  · rw [zup_ne (by omega), zup_ne (by omega)]
    exact (zcp_eq hk).trans ((zcp_ne (by omega)).trans ((zcp_ne (by omega)).trans ((zcp_ne (by omega)).trans ((zcp_ne (by omega)).trans (zcp_ne (by omega))))))
set_option maxHeartbeats 4000000 in
set_option maxRecDepth 100000 in
theorem s_cp1 (hb : b ≠ b') (hw : I 2 b' 1 = 0 ∨ I 2 b' 1 = 1) (h : ∀ J, zPy I J b b' → Q none J (zRR rl rs)) : zWm (d + 1) 10 [zr 1 b, zr 1 b'] I (zRR rl rs) Q := by
  refine z_auto rfl ?_
  refine z_cl rfl (s_cp8 hb (fun J1 f1 u1 u2 => ?_))
  refine z_auto rfl ?_
  refine z_cl rfl (s_cp4 hb (fun J2 f2 v1 v2 v3 => ?_))
  have w2 : J2 2 b' 1 = I 2 b' 1 := (f2 _ _ _ (by omega)).trans (f1 _ _ _ (by omega))
  refine z_auto rfl ?_
  refine z_cl rfl (s_eggCopy (by rw [w2]; exact hw) ?_)
  obtain ⟨J3, hJ3⟩ : ∃ J3, J3 = zup (zup J2 2 b 0 (J2 2 b' 0)) 2 b 1 (zup J2 2 b 0 (J2 2 b' 0) 2 b' 1) := ⟨_, rfl⟩
  rw [← hJ3]
  have f3 : ∀ c i k, ¬ (c = 2 ∧ i = b) → J3 c i k = J2 c i k := fun c i k h1 => by rw [hJ3, zup_ne (by omega), zup_ne (by omega)]
  have x0 : J3 2 b 0 = J2 2 b' 0 := by rw [hJ3, zup_ne (by omega), zup_eq]
  have x1 : J3 2 b 1 = J2 2 b' 1 := by rw [hJ3, zup_eq, zup_ne (by omega)]
  clear hJ3
  refine z_auto rfl ?_
  refine z_cl rfl (s_cp7 (b := 2 * b) (b' := 2 * b') (by omega) (fun J4 f4 y1 y2 => ?_))
  refine z_auto rfl ?_
  refine z_cl rfl (s_cp7 (b := 2 * b + 1) (b' := 2 * b' + 1) (by omega) (fun J5 f5 z1 z2 => ?_))
  refine z_auto rfl ?_
  have g5 : ∀ c i k, ¬ ((c = 8 ∨ c = 29 ∨ c = 4 ∨ (20 ≤ c ∧ c ≤ 25) ∨ c = 2) ∧ i = b) → ¬ ((c = 7 ∨ (26 ≤ c ∧ c ≤ 28)) ∧ (i = 2 * b ∨ i = 2 * b + 1)) → J5 c i k = I c i k := fun c i k h1 h2 => by
    rw [f5 c i k (by omega), f4 c i k (by omega), f3 c i k (by omega), f2 c i k (by omega), f1 c i k (by omega)]
  refine z_rt rfl (h _ ⟨fun c k hc => ?_, fun c k e he hc => ?_, fun c i k h1 h2 => ?_⟩)
  · rcases hc with ⟨rfl, q | q⟩ | ⟨rfl, hk⟩ | ⟨rfl, hk⟩ | ⟨c1, c2, hk⟩ | ⟨rfl, hk⟩ | ⟨rfl, hk⟩ | ⟨rfl, hk⟩
    · subst q
      rw [zup_ne (by omega), zup_eq, g5 _ _ _ (by omega) (by omega)]
    · subst q
      rw [zup_eq, zup_ne (by omega), g5 _ _ _ (by omega) (by omega)]
    · rw [zup_ne (by omega), zup_ne (by omega), f5 _ _ _ (by omega), f4 _ _ _ (by omega)]
      rcases (show k = 0 ∨ k = 1 by omega) with rfl | rfl
      · rw [x0, f2 _ _ _ (by omega), f1 _ _ _ (by omega)]
      · rw [x1, f2 _ _ _ (by omega), f1 _ _ _ (by omega)]
    · rw [zup_ne (by omega), zup_ne (by omega), f5 _ _ _ (by omega), f4 _ _ _ (by omega), f3 _ _ _ (by omega), v1 k hk, f1 _ _ _ (by omega)]
    · rw [zup_ne (by omega), zup_ne (by omega), f5 _ _ _ (by omega), f4 _ _ _ (by omega), f3 _ _ _ (by omega), v2 c k c1 c2 hk, f1 _ _ _ (by omega)]
    · rw [zup_ne (by omega), zup_ne (by omega), f5 _ _ _ (by omega), f4 _ _ _ (by omega), f3 _ _ _ (by omega), v3 k hk, f1 _ _ _ (by omega)]
    · subst hk
      rw [zup_ne (by omega), zup_ne (by omega), f5 _ _ _ (by omega), f4 _ _ _ (by omega), f3 _ _ _ (by omega), f2 _ _ _ (by omega), u1]
    · rw [zup_ne (by omega), zup_ne (by omega), f5 _ _ _ (by omega), f4 _ _ _ (by omega), f3 _ _ _ (by omega), f2 _ _ _ (by omega), u2 k hk]
  · rcases (show e = 0 ∨ e = 1 by omega) with rfl | rfl
    · rw [zup_ne (by omega), zup_ne (by omega), f5 _ _ _ (by omega)]
      rcases hc with ⟨rfl, rfl⟩ | ⟨c1, c2, hk⟩
      · exact y1.trans (by rw [f3 _ _ _ (by omega), f2 _ _ _ (by omega), f1 _ _ _ (by omega)]; rfl)
      · exact (y2 c k (by omega) hk).trans (by rw [f3 _ _ _ (by omega), f2 _ _ _ (by omega), f1 _ _ _ (by omega)]; rfl)
    · rw [zup_ne (by omega), zup_ne (by omega)]
      rcases hc with ⟨rfl, rfl⟩ | ⟨c1, c2, hk⟩
      · rw [z1, f4 _ _ _ (by omega), f3 _ _ _ (by omega), f2 _ _ _ (by omega), f1 _ _ _ (by omega)]
      · rw [z2 c k (by omega) hk, f4 _ _ _ (by omega), f3 _ _ _ (by omega), f2 _ _ _ (by omega), f1 _ _ _ (by omega)]
  · rw [zup_ne (by omega), zup_ne (by omega), g5 c i k (by omega) (by omega)]
end
end
section
/-! image, undo: the pairs -/
/-- the model's row cd is now the row cs -/
def zPm (I J : zMI) (cs cd m : Nat) : Prop := (∀ c i k, ¬ (c = cd ∧ i = 0) → J c i k = I c i k) ∧ ∀ k, k < m → J cd 0 k = I cs 0 k
theorem zPm_0 {I : zMI} {cs cd : Nat} : zPm I I cs cd 0 := ⟨fun _ _ _ _ => rfl, fun k hk => absurd hk (Nat.not_lt_zero k)⟩
theorem zPm_s {I J : zMI} {cs cd m : Nat} (hne : cs ≠ cd) (h : zPm I J cs cd m) : zPm I (zup J cd 0 m (J cs 0 m)) cs cd (m + 1) := by
  obtain ⟨h1, h2⟩ := h
  refine ⟨fun c i k q => ?_, fun k hk => ?_⟩
  · rw [zup_ne (by omega)]
    exact h1 c i k q
  · by_cases e : k = m
    · subst e
      rw [zup_eq]
      exact h1 cs 0 k (by omega)
    · rw [zup_k e]
      exact h2 k (by omega)
set_option maxHeartbeats 4000000 in
set_option maxRecDepth 100000 in
theorem p_image : zPr 91 173 [] := by
  intro d I rl rs hR
  have hR0 := hR
  obtain ⟨n, k, t, hb, hE, h3, h4, h5, h6⟩ := hR0
  have hw : I 2 0 1 = 0 ∨ I 2 0 1 = 1 := by
    rcases hb.2.2.2.2.2.2.2.2.2 with q | q
    · exact Or.inr q.1
    · exact Or.inl q.1
  refine z_auto rfl ?_
  refine z_cl rfl (s_cp1 (b := 1) (b' := 0) (by decide) hw (fun J hJ => ?_))
  refine z_auto rfl ?_
  refine z_ck rfl (show (1 : Int32) = 0 ∨ (1 : Int32) = 1 from Or.inr rfl) ?_
  have j4 : J 4 0 7 = nI n := (hJ.2.2 4 0 7 (by decide) (by decide)).trans hb.1.1
  refine z_auto rfl ?_
  rw [zup_c (by decide), j4]
  refine z_auto rfl ?_
  refine z_rt rfl (zPr_i (fun rl' rs' => ?_))
  obtain ⟨M, hM⟩ : ∃ M, M = zup J 9 0 2 1 := ⟨_, rfl⟩
  rw [← hM]
  have fM : ∀ c i k, ¬ (c = 9 ∧ i = 0 ∧ k = 2) → M c i k = J c i k := fun c i k h1 => by rw [hM, zup_ne h1]
  have m9 : M 9 0 2 = 1 := by rw [hM, zup_eq]
  clear hM
  have loop : ∀ q i, i + q = 937 → ∀ K, zPm M K 40 41 i → zW (d + 12) kX10_image (zblk kX10_image 1) [some (zr 10 0), some (zi (nI i))] [] K (zRR rl' rs') (fun v2 I2 G2 => some (zi (nI n)) = v2 ∧ zRel I2 ∧ ∃ rl2 rs2, G2 = zRR rl2 rs2) := by
    intro q
    induction q with
    | zero =>
      intro i hi K hK
      have : i = 937 := by omega
      subst this
      refine z_auto rfl ?_
      refine z_jp rfl ?_
      refine z_auto rfl ?_
      refine z_ck rfl (show (1 : Int32) = 0 ∨ (1 : Int32) = 1 from Or.inr rfl) ?_
      have f0 : ∀ c i k, ¬ (c = 41 ∧ i = 0) → ¬ (c = 10 ∧ i = 0 ∧ k = 3) → ¬ (c = 9 ∧ i = 0 ∧ k = 2) → zup K 10 0 3 1 c i k = J c i k := fun c i k h1 h2 h3 => by
        rw [zup_ne h2, hK.1 c i k h1, fM c i k h3]
      have hs0 : ∀ k, zup K 10 0 3 1 40 0 k = I 40 0 k := fun k => (f0 40 0 k (by omega) (by omega) (by omega)).trans (hJ.2.2 40 0 k (by omega) (by omega))
      have hs1 : ∀ k, k < 937 → zup K 10 0 3 1 41 0 k = I 40 0 k := fun k hk => by
        rw [zup_ne (by omega), hK.2 k hk, fM _ _ _ (by omega)]
        exact hJ.2.2 40 0 k (by omega) (by omega)
      have q9 : zup K 10 0 3 1 9 0 2 = 1 := by rw [zup_ne (by omega), hK.1 _ _ _ (by omega), m9]
      have q3 : zup K 10 0 3 1 10 0 3 = 1 := zup_eq
      obtain ⟨F, hF⟩ : ∃ F, F = zup K 10 0 3 1 := ⟨_, rfl⟩
      rw [← hF] at f0 hs0 hs1 q9 q3
      rw [← hF]
      clear hF
      have fI : ∀ c i k, c ≠ 41 → ¬ (c = 10 ∧ i = 0 ∧ k = 3) → ¬ (c = 9 ∧ i = 0 ∧ k = 2) → ¬ ((c = 1 ∨ c = 2 ∨ c = 4 ∨ c = 8 ∨ (20 ≤ c ∧ c ≤ 25) ∨ c = 29) ∧ i = 1) → ¬ ((c = 7 ∨ (26 ≤ c ∧ c ≤ 28)) ∧ (i = 2 ∨ i = 3)) → F c i k = I c i k := fun c i k h1 h2 h3 h4 h5 => (f0 c i k (by omega) h2 h3).trans (hJ.2.2 c i k (by omega) (by omega))
      refine z_auto rfl ?_
      refine z_ald (k := 0) rfl rfl (by decide) ?_
      rw [hs0 0, hb.1.2.1]
      refine z_auto rfl ?_
      refine z_rt rfl (zPr_o2 rfl ⟨n, k, t, ?_, ?_, Or.inr ⟨q9, q3, n, k, t, ?_, Nat.le_refl k⟩, ?_, ?_, ?_⟩)
      · exact zbx_id (fun c i k hc => fI c i k (by omega) (by omega) (by omega) (by omega) (by omega)) (fun k _ => hs0 k) hb
      · exact zES_fr (fun c k hc => fI c _ k (by omega) (by omega) (by omega) (by omega) (by omega)) hE
      · exact zbx_id (fun c i k hc => f0 c i k (by omega) (by omega) (by omega)) (fun _ _ => rfl) (zPy_bx hJ hs1 hb)
      · obtain ⟨r, r1, r2, r3, r4⟩ := h4
        refine ⟨r, r1, (fI 0 0 1 (by omega) (by omega) (by omega) (by omega) (by omega)).trans r2, (fI 10 0 22 (by omega) (by omega) (by omega) (by omega) (by omega)).trans r3, fun i hi1 hi2 => ?_⟩
        rw [fI 35 0 i (by omega) (by omega) (by omega) (by omega) (by omega), fI 45 0 i (by omega) (by omega) (by omega) (by omega) (by omega)]
        exact r4 i hi1 hi2
      · exact (fI 10 0 14 (by omega) (by omega) (by omega) (by omega) (by omega)).trans h5
      · exact (fI 10 0 15 (by omega) (by omega) (by omega) (by omega) (by omega)).trans h6
    | succ q ih =>
      intro i hi K hK
      refine z_auto rfl ?_
      refine z_br rfl (fun c => ?_) (fun c => ?_)
      · exact absurd c (Int32.not_le.mpr (nI_lt (a := i) (b := 937) (by omega) (by decide)))
      · refine z_auto rfl ?_
        refine z_ald (k := i) rfl rfl (by show i < 937; omega) ?_
        refine z_auto rfl ?_
        refine z_ast (k := i) rfl rfl (by show i < 937; omega) ?_
        have h5 := ih (i + 1) (by omega) _ (zPm_s (by decide) hK)
        rw [nI_succ] at h5
        refine z_auto rfl ?_
        refine z_jp rfl ?_
        exact h5
  refine z_auto rfl ?_
  refine z_jp rfl ?_
  exact loop 937 0 (Nat.zero_add _) M zPm_0
set_option maxHeartbeats 4000000 in
set_option maxRecDepth 100000 in
theorem p_undo : zPr 92 174 [] := by
  intro d I rl rs hR
  have hR0 := hR
  obtain ⟨n, k, t, hb, hE, h3, h4, h5, h6⟩ := hR0
  rcases h3 with ⟨q1, q2⟩ | ⟨q1, q2, n', k', t', hb', hk⟩
  · refine z_auto rfl ?_
    rw [q1]
    refine z_auto rfl ?_
    refine z_st rfl ?_
    refine z_auto rfl ?_
    refine z_rt rfl (zPr_i (fun rl' rs' => ?_))
    refine z_auto rfl ?_
    rw [q2]
    refine z_auto rfl ?_
    refine z_st rfl ?_
    refine z_auto rfl ?_
    exact z_rt rfl (zPr_o hR)
  · have hw : I 2 1 1 = 0 ∨ I 2 1 1 = 1 := by
      rcases hb'.2.2.2.2.2.2.2.2.2 with q | q
      · exact Or.inr q.1
      · exact Or.inl q.1
    refine z_auto rfl ?_
    rw [q1]
    refine z_auto rfl ?_
    refine z_jp rfl ?_
    refine z_auto rfl ?_
    refine z_cl rfl (s_cp1 (b := 0) (b' := 1) (by decide) hw (fun J hJ => ?_))
    have j4 : J 4 0 7 = nI n' := (hJ.1 4 7 (by omega)).trans hb'.1.1
    have j3 : J 10 0 3 = 1 := (hJ.2.2 10 0 3 (by decide) (by decide)).trans q2
    refine z_auto rfl ?_
    rw [j4]
    refine z_auto rfl ?_
    refine z_rt rfl (zPr_i (fun rl' rs' => ?_))
    refine z_auto rfl ?_
    rw [j3]
    refine z_auto rfl ?_
    refine z_jp rfl ?_
    have loop : ∀ q i, i + q = 937 → ∀ K, zPm J K 41 40 i → zW (d + 12) kX10_undo (zblk kX10_undo 2) [some (zr 10 0), some (zi (nI i))] [] K (zRR rl' rs') (fun v2 I2 G2 => some (zi (nI n')) = v2 ∧ zRel I2 ∧ ∃ rl2 rs2, G2 = zRR rl2 rs2) := by
      intro q
      induction q with
      | zero =>
        intro i hi F hF
        have : i = 937 := by omega
        subst this
        have hs0 : ∀ k, k < 937 → F 40 0 k = I 41 0 k := fun k hk => (hF.2 k hk).trans (hJ.2.2 41 0 k (by omega) (by omega))
        have hs1 : ∀ k, F 41 0 k = I 41 0 k := fun k => (hF.1 41 0 k (by omega)).trans (hJ.2.2 41 0 k (by omega) (by omega))
        have fI : ∀ c i k, c ≠ 40 → ¬ ((c = 1 ∨ c = 2 ∨ c = 4 ∨ c = 8 ∨ (20 ≤ c ∧ c ≤ 25) ∨ c = 29) ∧ i = 0) → ¬ ((c = 7 ∨ (26 ≤ c ∧ c ≤ 28)) ∧ (i = 0 ∨ i = 1)) → F c i k = I c i k := fun c i k h1 h2 h3 => (hF.1 c i k (by omega)).trans (hJ.2.2 c i k (by omega) (by omega))
        refine z_auto rfl ?_
        refine z_jp rfl ?_
        refine z_auto rfl ?_
        refine z_ald (k := 0) rfl rfl (by decide) ?_
        rw [hs0 0 (by omega), hb'.1.2.1]
        refine z_auto rfl ?_
        refine z_rt rfl (zPr_o2 rfl ⟨n', k', t', ?_, ?_, Or.inr ⟨(fI 9 0 2 (by omega) (by omega) (by omega)).trans q1, (fI 10 0 3 (by omega) (by omega) (by omega)).trans q2, n', k', t', ?_, Nat.le_refl k'⟩, ?_, ?_, ?_⟩)
        · exact zbx_id (fun c i k hc => hF.1 c i k (by omega)) (fun _ _ => rfl) (zPy_bx hJ hs0 hb')
        · exact zES_fr (fun c k hc => fI c _ k (by omega) (by omega) (by omega)) hE
        · exact zbx_id (fun c i k hc => fI c i k (by omega) (by omega) (by omega)) (fun k _ => hs1 k) hb'
        · obtain ⟨r, r1, r2, r3, r4⟩ := h4
          refine ⟨r, r1, (fI 0 0 1 (by omega) (by omega) (by omega)).trans r2, (fI 10 0 22 (by omega) (by omega) (by omega)).trans r3, fun i hi1 hi2 => ?_⟩
          rw [fI 35 0 i (by omega) (by omega) (by omega), fI 45 0 i (by omega) (by omega) (by omega)]
          exact r4 i hi1 hi2
        · exact (fI 10 0 14 (by omega) (by omega) (by omega)).trans h5
        · exact (fI 10 0 15 (by omega) (by omega) (by omega)).trans h6
      | succ q ih =>
        intro i hi K hK
        refine z_auto rfl ?_
        refine z_br rfl (fun c => ?_) (fun c => ?_)
        · exact absurd c (Int32.not_le.mpr (nI_lt (a := i) (b := 937) (by omega) (by decide)))
        · refine z_auto rfl ?_
          refine z_ald (k := i) rfl rfl (by show i < 937; omega) ?_
          refine z_auto rfl ?_
          refine z_ast (k := i) rfl rfl (by show i < 937; omega) ?_
          have h5 := ih (i + 1) (by omega) _ (zPm_s (by decide) hK)
          rw [nI_succ] at h5
          refine z_auto rfl ?_
          refine z_jp rfl ?_
          exact h5
    refine z_auto rfl ?_
    refine z_jp rfl ?_
    exact loop 937 0 (Nat.zero_add _) J zPm_0
end
section
/-! act -/
/-- the bodies that ran, on the class's side and on the model's -/
def zTc (I J : zMI) (L : List Nat) : Prop := (∀ c i k, ¬ (c = 0 ∧ i = 0 ∧ k = 1) → ¬ (c = 35 ∧ i = 0) → J c i k = I c i k) ∧ J 0 0 1 = nI L.length ∧ ∀ i x, L[i]? = some x → J 35 0 i = nI x
def zTm (I J : zMI) (L : List Nat) : Prop := (∀ c i k, ¬ (c = 10 ∧ i = 0 ∧ k = 22) → ¬ (c = 45 ∧ i = 0) → J c i k = I c i k) ∧ J 10 0 22 = nI L.length ∧ ∀ i x, L[i]? = some x → J 45 0 i = nI x
theorem l_snoc {L : List Nat} {b i x : Nat} (h : (L ++ [b])[i]? = some x) : (i = L.length ∧ x = b) ∨ (i ≠ L.length ∧ L[i]? = some x) := by
  rcases Nat.lt_trichotomy i L.length with q | q | q
  · rw [List.getElem?_append_left q] at h
    exact Or.inr ⟨by omega, h⟩
  · subst q
    rw [List.getElem?_append_right (Nat.le_refl _), Nat.sub_self] at h
    exact Or.inl ⟨rfl, (Option.some.inj h).symm⟩
  · rw [List.getElem?_append_right (by omega)] at h
    have := (List.getElem?_eq_some_iff.mp h).1
    rw [List.length_singleton] at this
    omega
def fGi (kd : Nat) : List Nat := if kd = 1 ∨ kd = 4 then [11, 1] else if kd = 5 then [51, 1] else [1]
def vGi (kd : Nat) (x m : Int32) : Int32 := if kd = 1 ∨ kd = 4 then x * 3 + m else if kd = 5 then (x + m) ^^^ m else x + m
def fTa (kd : Nat) : List Nat := if kd = 2 ∨ kd = 5 then 21 :: 2 :: fGi kd else if kd = 6 then 61 :: 2 :: fGi kd else 2 :: fGi kd
def vTa (kd : Nat) (x m v : Int32) : Int32 := if kd = 2 ∨ kd = 5 then -(vGi kd x m - v) else if kd = 6 then vGi kd x m - v + v else vGi kd x m - v
def fTe (kd : Nat) : List Nat := if kd = 3 ∨ kd = 6 then 31 :: 3 :: fTa kd else if kd = 4 then 41 :: 3 :: (fTa kd ++ fGi kd) else 3 :: fTa kd
def vTe (kd : Nat) (x m v : Int32) : Int32 := if kd = 3 ∨ kd = 6 then (vTa kd x m v * 2) ^^^ 7 else if kd = 4 then vTa kd (x - 1) m v * 2 + vGi kd 2 m else vTa kd x m v * 2
section
variable {d : Nat} {I : zMI} {rl rs : Option (Nat × Nat)} {Q : zPQ} {G : zMR}
set_option maxHeartbeats 4000000 in
set_option maxRecDepth 100000 in
theorem s_begin {J : zMI} {L : List Nat} {b : Nat} (hJ : zTc I J L) (hl : L.length < 20) (h : ∀ K, zTc I K (L ++ [b]) → Q none K (zRR rl rs)) : zWm d 3 [zr 0 0, zi (nI b)] J (zRR rl rs) Q := by
  obtain ⟨h1, h2, h3⟩ := hJ
  have fin : zTc I (zup (zup J 35 0 L.length (nI b)) 0 0 1 (nI (L.length + 1))) (L ++ [b]) := by
    refine ⟨fun c i k q1 q2 => ?_, ?_, fun i x hx => ?_⟩
    · rw [zup_ne (by omega), zup_ne (by omega)]
      exact h1 c i k q1 q2
    · rw [zup_eq, List.length_append]
      rfl
    · rw [zup_ne (by omega)]
      rcases l_snoc hx with ⟨rfl, rfl⟩ | ⟨q1, q2⟩
      · exact zup_eq
      · rw [zup_ne (by omega)]
        exact h3 i x q2
  refine z_auto rfl ?_
  rw [h2]
  refine z_auto rfl ?_
  refine z_br rfl (fun c => ?_) (fun c => ?_)
  · exact absurd c (nI_pos (by omega))
  · refine z_auto rfl ?_
    rw [h2]
    refine z_auto rfl ?_
    refine z_br rfl (fun c2 => ?_) (fun c2 => ?_)
    · exact absurd c2 (Int32.not_le.mpr (nI_lt (a := L.length) (b := 20) (by omega) (by decide)))
    · refine z_auto rfl ?_
      rw [h2]
      refine z_auto rfl ?_
      refine z_ast (k := L.length) rfl rfl (by show L.length < 20; omega) ?_
      refine z_auto rfl ?_
      refine z_jp rfl ?_
      refine z_auto rfl ?_
      rw [zup_ne (by omega), h2]
      refine z_auto rfl ?_
      rw [show nI L.length + 1 = nI (L.length + 1) from (nI_succ _).symm]
      refine z_auto rfl ?_
      exact z_rt rfl (h _ fin)
set_option maxHeartbeats 4000000 in
set_option maxRecDepth 100000 in
theorem m_ran {J : zMI} {L : List Nat} {b : Nat} (hJ : zTm I J L) (hl : L.length < 20) (h : ∀ K, zTm I K (L ++ [b]) → Q none K (zRR rl rs)) : zWm d 162 [zr 10 0, zi (nI b)] J (zRR rl rs) Q := by
  obtain ⟨h1, h2, h3⟩ := hJ
  have fin : zTm I (zup (zup J 45 0 L.length (nI b)) 10 0 22 (nI (L.length + 1))) (L ++ [b]) := by
    refine ⟨fun c i k q1 q2 => ?_, ?_, fun i x hx => ?_⟩
    · rw [zup_ne (by omega), zup_ne (by omega)]
      exact h1 c i k q1 q2
    · rw [zup_eq, List.length_append]
      rfl
    · rw [zup_ne (by omega)]
      rcases l_snoc hx with ⟨rfl, rfl⟩ | ⟨q1, q2⟩
      · exact zup_eq
      · rw [zup_ne (by omega)]
        exact h3 i x q2
  refine z_auto rfl ?_
  rw [h2]
  refine z_auto rfl ?_
  refine z_br rfl (fun c2 => ?_) (fun c2 => ?_)
  · exact absurd c2 (Int32.not_le.mpr (nI_lt (a := L.length) (b := 20) (by omega) (by decide)))
  · refine z_auto rfl ?_
    rw [h2]
    refine z_auto rfl ?_
    refine z_ast (k := L.length) rfl rfl (by show L.length < 20; omega) ?_
    refine z_auto rfl ?_
    refine z_jp rfl ?_
    refine z_auto rfl ?_
    rw [zup_ne (by omega), h2]
    refine z_auto rfl ?_
    rw [show nI L.length + 1 = nI (L.length + 1) from (nI_succ _).symm]
    refine z_auto rfl ?_
    exact z_rt rfl (h _ fin)
set_option maxHeartbeats 4000000 in
set_option maxRecDepth 100000 in
theorem s_gives {J : zMI} {L : List Nat} {kd : Nat} {x m : Int32} (hJ : zTc I J L) (hl : L.length ≤ 10) (hk : kd ≤ 6) (h2 : I 0 0 2 = nI kd) (h4 : I 0 0 4 = m) (h : ∀ K, zTc I K (L ++ fGi kd) → Q (some (zi (vGi kd x m))) K (zRR rl rs)) : zWm (d + 1) 4 [zr 0 0, zi x] J (zRR rl rs) Q := by
  have e2 : J 0 0 2 = nI kd := (hJ.1 0 0 2 (by decide) (by decide)).trans h2
  have e4 : ∀ K L, zTc I K L → K 0 0 4 = m := fun K L hK => (hK.1 0 0 4 (by decide) (by decide)).trans h4
  have g1 : ∀ L, [11, 1] = fGi kd → L ++ [11] ++ [1] = L ++ fGi kd := fun L q => by rw [← q, List.append_assoc]; rfl
  refine z_auto rfl ?_
  rw [e2]
  rcases n_7 hk with rfl | rfl | rfl | rfl | rfl | rfl | rfl
  · refine z_auto rfl ?_
    refine z_jp rfl ?_
    refine z_auto rfl ?_
    refine z_cl rfl (s_begin (b := 1) hJ (by omega) (fun K hK => ?_))
    refine z_auto rfl ?_
    rw [e4 K _ hK]
    refine z_auto rfl ?_
    exact z_rt rfl (h K hK)
  · refine z_auto rfl ?_
    refine z_jp rfl ?_
    refine z_auto rfl ?_
    refine z_cl rfl (s_begin (b := 11) hJ (by omega) (fun K hK => ?_))
    refine z_auto rfl ?_
    refine z_cl rfl (s_begin (b := 1) hK (by rw [List.length_append, List.length_singleton]; omega) (fun M hM => ?_))
    refine z_auto rfl ?_
    rw [e4 M _ hM]
    refine z_auto rfl ?_
    exact z_rt rfl (h M (by rw [List.append_assoc] at hM; exact hM))
  · refine z_auto rfl ?_
    refine z_jp rfl ?_
    refine z_auto rfl ?_
    refine z_cl rfl (s_begin (b := 1) hJ (by omega) (fun K hK => ?_))
    refine z_auto rfl ?_
    rw [e4 K _ hK]
    refine z_auto rfl ?_
    exact z_rt rfl (h K hK)
  · refine z_auto rfl ?_
    refine z_jp rfl ?_
    refine z_auto rfl ?_
    refine z_cl rfl (s_begin (b := 1) hJ (by omega) (fun K hK => ?_))
    refine z_auto rfl ?_
    rw [e4 K _ hK]
    refine z_auto rfl ?_
    exact z_rt rfl (h K hK)
  · refine z_auto rfl ?_
    refine z_jp rfl ?_
    refine z_auto rfl ?_
    refine z_cl rfl (s_begin (b := 11) hJ (by omega) (fun K hK => ?_))
    refine z_auto rfl ?_
    refine z_cl rfl (s_begin (b := 1) hK (by rw [List.length_append, List.length_singleton]; omega) (fun M hM => ?_))
    refine z_auto rfl ?_
    rw [e4 M _ hM]
    refine z_auto rfl ?_
    exact z_rt rfl (h M (by rw [List.append_assoc] at hM; exact hM))
  · refine z_auto rfl ?_
    refine z_jp rfl ?_
    refine z_auto rfl ?_
    refine z_cl rfl (s_begin (b := 51) hJ (by omega) (fun K hK => ?_))
    refine z_auto rfl ?_
    refine z_cl rfl (s_begin (b := 1) hK (by rw [List.length_append, List.length_singleton]; omega) (fun M hM => ?_))
    refine z_auto rfl ?_
    rw [e4 M _ hM]
    refine z_auto rfl ?_
    exact z_rt rfl (h M (by rw [List.append_assoc] at hM; exact hM))
  · refine z_auto rfl ?_
    refine z_jp rfl ?_
    refine z_auto rfl ?_
    refine z_cl rfl (s_begin (b := 1) hJ (by omega) (fun K hK => ?_))
    refine z_auto rfl ?_
    rw [e4 K _ hK]
    refine z_auto rfl ?_
    exact z_rt rfl (h K hK)
set_option maxHeartbeats 4000000 in
set_option maxRecDepth 100000 in
theorem m_gives {J : zMI} {L : List Nat} {kd : Nat} {x m : Int32} (hJ : zTm I J L) (hl : L.length ≤ 10) (hk : kd ≤ 6) (h2 : I 10 0 23 = nI kd) (h4 : I 10 0 24 = m) (h : ∀ K, zTm I K (L ++ fGi kd) → Q (some (zi (vGi kd x m))) K (zRR rl rs)) : zWm (d + 2) 165 [zr 10 0, zi x] J (zRR rl rs) Q := by
  have e2 : ∀ K L, zTm I K L → K 10 0 23 = nI kd := fun K L hK => (hK.1 10 0 23 (by decide) (by decide)).trans h2
  have e4 : ∀ K L, zTm I K L → K 10 0 24 = m := fun K L hK => (hK.1 10 0 24 (by decide) (by decide)).trans h4
  have plain : ∀ (Q : zPQ) (K : zMI) (L : List Nat) (y : Int32), zTm I K L → L.length < 20 → (∀ M, zTm I M (L ++ [1]) → Q (some (zi (y + m))) M (zRR rl rs)) → zWm (d + 1) 164 [zr 10 0, zi y] K (zRR rl rs) Q := by
    intro Q K L y hK hl hq
    refine z_auto rfl ?_
    refine z_cl rfl (m_ran (b := 1) hK hl (fun M hM => ?_))
    refine z_auto rfl ?_
    rw [e4 M _ hM]
    refine z_auto rfl ?_
    exact z_rt rfl (hq M hM)
  refine z_auto rfl ?_
  rw [e2 J L hJ]
  refine z_auto rfl ?_
  refine z_cl rfl (m_isUnder hk (k := 1) (by decide) ?_)
  rcases n_7 hk with rfl | rfl | rfl | rfl | rfl | rfl | rfl
  · refine z_auto rfl ?_
    refine z_jp rfl ?_
    refine z_auto rfl ?_
    rw [e2 J L hJ]
    refine z_auto rfl ?_
    refine z_jp rfl ?_
    refine z_auto rfl ?_
    refine z_cl rfl (plain _ J L x hJ (by omega) (fun K hK => ?_))
    refine z_auto rfl ?_
    exact z_rt rfl (h K hK)
  · refine z_auto rfl ?_
    refine z_st rfl ?_
    refine z_auto rfl ?_
    refine z_cl rfl (m_ran (b := 11) hJ (by omega) (fun K hK => ?_))
    refine z_auto rfl ?_
    refine z_cl rfl (plain _ K _ _ hK (by rw [List.length_append, List.length_singleton]; omega) (fun M hM => ?_))
    refine z_auto rfl ?_
    exact z_rt rfl (h M (by rw [List.append_assoc] at hM; exact hM))
  · refine z_auto rfl ?_
    refine z_jp rfl ?_
    refine z_auto rfl ?_
    rw [e2 J L hJ]
    refine z_auto rfl ?_
    refine z_jp rfl ?_
    refine z_auto rfl ?_
    refine z_cl rfl (plain _ J L x hJ (by omega) (fun K hK => ?_))
    refine z_auto rfl ?_
    exact z_rt rfl (h K hK)
  · refine z_auto rfl ?_
    refine z_jp rfl ?_
    refine z_auto rfl ?_
    rw [e2 J L hJ]
    refine z_auto rfl ?_
    refine z_jp rfl ?_
    refine z_auto rfl ?_
    refine z_cl rfl (plain _ J L x hJ (by omega) (fun K hK => ?_))
    refine z_auto rfl ?_
    exact z_rt rfl (h K hK)
  · refine z_auto rfl ?_
    refine z_st rfl ?_
    refine z_auto rfl ?_
    refine z_cl rfl (m_ran (b := 11) hJ (by omega) (fun K hK => ?_))
    refine z_auto rfl ?_
    refine z_cl rfl (plain _ K _ _ hK (by rw [List.length_append, List.length_singleton]; omega) (fun M hM => ?_))
    refine z_auto rfl ?_
    exact z_rt rfl (h M (by rw [List.append_assoc] at hM; exact hM))
  · refine z_auto rfl ?_
    refine z_jp rfl ?_
    refine z_auto rfl ?_
    rw [e2 J L hJ]
    refine z_auto rfl ?_
    refine z_st rfl ?_
    refine z_auto rfl ?_
    refine z_cl rfl (m_ran (b := 51) hJ (by omega) (fun K hK => ?_))
    refine z_auto rfl ?_
    refine z_cl rfl (plain _ K _ _ hK (by rw [List.length_append, List.length_singleton]; omega) (fun M hM => ?_))
    refine z_auto rfl ?_
    rw [e4 M _ hM]
    refine z_auto rfl ?_
    exact z_rt rfl (h M (by rw [List.append_assoc] at hM; exact hM))
  · refine z_auto rfl ?_
    refine z_jp rfl ?_
    refine z_auto rfl ?_
    rw [e2 J L hJ]
    refine z_auto rfl ?_
    refine z_jp rfl ?_
    refine z_auto rfl ?_
    refine z_cl rfl (plain _ J L x hJ (by omega) (fun K hK => ?_))
    refine z_auto rfl ?_
    exact z_rt rfl (h K hK)
theorem fGi_len (kd : Nat) : (fGi kd).length ≤ 2 := by
  unfold fGi
  split
  · decide
  · split <;> decide
set_option maxHeartbeats 4000000 in
set_option maxRecDepth 100000 in
theorem s_takes {J : zMI} {L : List Nat} {kd : Nat} {x m v : Int32} (hJ : zTc I J L) (hl : L.length ≤ 5) (hk : kd ≤ 6) (h2 : I 0 0 2 = nI kd) (h3 : I 0 0 3 = v) (h4 : I 0 0 4 = m) (h : ∀ K, zTc I K (L ++ fTa kd) → Q (some (zi (vTa kd x m v))) K (zRR rl rs)) : zWm (d + 3) 5 [zr 0 0, zi x] J (zRR rl rs) Q := by
  have e2 : J 0 0 2 = nI kd := (hJ.1 0 0 2 (by decide) (by decide)).trans h2
  have e3 : ∀ K L, zTc I K L → K 0 0 3 = v := fun K L hK => (hK.1 0 0 3 (by decide) (by decide)).trans h3
  have top : ∀ (Q : zPQ) (K : zMI) (L : List Nat), zTc I K L → L.length ≤ 8 → (∀ M, zTc I M (L ++ 2 :: fGi kd) → Q (some (zi (vGi kd x m - v))) M (zRR rl rs)) → zWm (d + 2) 7 [zr 0 0, zi x] K (zRR rl rs) Q := by
    intro Q K L hK hl hq
    refine z_auto rfl ?_
    refine z_cl rfl (s_begin (b := 2) hK (by omega) (fun M hM => ?_))
    refine z_auto rfl ?_
    refine z_cl rfl (s_gives hM (by rw [List.length_append, List.length_singleton]; omega) hk h2 h4 (fun N hN => ?_))
    refine z_auto rfl ?_
    rw [e3 N _ hN]
    refine z_auto rfl ?_
    exact z_rt rfl (hq N (by rw [List.append_assoc] at hN; exact hN))
  refine z_auto rfl ?_
  rw [e2]
  rcases n_7 hk with rfl | rfl | rfl | rfl | rfl | rfl | rfl
  · refine z_auto rfl ?_
    refine z_jp rfl ?_
    refine z_auto rfl ?_
    refine z_cl rfl (top _ J L hJ (by omega) (fun K hK => ?_))
    refine z_auto rfl ?_
    exact z_rt rfl (h K hK)
  · refine z_auto rfl ?_
    refine z_jp rfl ?_
    refine z_auto rfl ?_
    refine z_cl rfl (top _ J L hJ (by omega) (fun K hK => ?_))
    refine z_auto rfl ?_
    exact z_rt rfl (h K hK)
  · refine z_auto rfl ?_
    refine z_jp rfl ?_
    refine z_auto rfl ?_
    refine z_cl rfl (s_begin (b := 21) hJ (by omega) (fun K hK => ?_))
    refine z_auto rfl ?_
    refine z_cl rfl (top _ K _ hK (by rw [List.length_append, List.length_singleton]; omega) (fun M hM => ?_))
    refine z_auto rfl ?_
    exact z_rt rfl (h M (by rw [List.append_assoc] at hM; exact hM))
  · refine z_auto rfl ?_
    refine z_jp rfl ?_
    refine z_auto rfl ?_
    refine z_cl rfl (top _ J L hJ (by omega) (fun K hK => ?_))
    refine z_auto rfl ?_
    exact z_rt rfl (h K hK)
  · refine z_auto rfl ?_
    refine z_jp rfl ?_
    refine z_auto rfl ?_
    refine z_cl rfl (top _ J L hJ (by omega) (fun K hK => ?_))
    refine z_auto rfl ?_
    exact z_rt rfl (h K hK)
  · refine z_auto rfl ?_
    refine z_jp rfl ?_
    refine z_auto rfl ?_
    refine z_cl rfl (s_begin (b := 21) hJ (by omega) (fun K hK => ?_))
    refine z_auto rfl ?_
    refine z_cl rfl (top _ K _ hK (by rw [List.length_append, List.length_singleton]; omega) (fun M hM => ?_))
    refine z_auto rfl ?_
    exact z_rt rfl (h M (by rw [List.append_assoc] at hM; exact hM))
  · refine z_auto rfl ?_
    refine z_jp rfl ?_
    refine z_auto rfl ?_
    refine z_cl rfl (s_begin (b := 61) hJ (by omega) (fun K hK => ?_))
    refine z_auto rfl ?_
    refine z_cl rfl (top _ K _ hK (by rw [List.length_append, List.length_singleton]; omega) (fun M hM => ?_))
    refine z_auto rfl ?_
    rw [e3 M _ hM]
    refine z_auto rfl ?_
    exact z_rt rfl (h M (by rw [List.append_assoc] at hM; exact hM))
set_option maxHeartbeats 4000000 in
set_option maxRecDepth 100000 in
theorem m_takes {J : zMI} {L : List Nat} {kd : Nat} {x m v : Int32} (hJ : zTm I J L) (hl : L.length ≤ 5) (hk : kd ≤ 6) (h2 : I 10 0 23 = nI kd) (h3 : I 10 0 25 = v) (h4 : I 10 0 24 = m) (h : ∀ K, zTm I K (L ++ fTa kd) → Q (some (zi (vTa kd x m v))) K (zRR rl rs)) : zWm (d + 4) 167 [zr 10 0, zi x] J (zRR rl rs) Q := by
  have e2 : ∀ K L, zTm I K L → K 10 0 23 = nI kd := fun K L hK => (hK.1 10 0 23 (by decide) (by decide)).trans h2
  have e3 : ∀ K L, zTm I K L → K 10 0 25 = v := fun K L hK => (hK.1 10 0 25 (by decide) (by decide)).trans h3
  have top : ∀ (Q : zPQ) (K : zMI) (L : List Nat), zTm I K L → L.length ≤ 8 → (∀ M, zTm I M (L ++ 2 :: fGi kd) → Q (some (zi (vGi kd x m - v))) M (zRR rl rs)) → zWm (d + 3) 166 [zr 10 0, zi x] K (zRR rl rs) Q := by
    intro Q K L hK hl hq
    refine z_auto rfl ?_
    refine z_cl rfl (m_ran (b := 2) hK (by omega) (fun M hM => ?_))
    refine z_auto rfl ?_
    refine z_cl rfl (m_gives hM (by rw [List.length_append, List.length_singleton]; omega) hk h2 h4 (fun N hN => ?_))
    refine z_auto rfl ?_
    rw [e3 N _ hN]
    refine z_auto rfl ?_
    exact z_rt rfl (hq N (by rw [List.append_assoc] at hN; exact hN))
  refine z_auto rfl ?_
  rw [e2 J L hJ]
  refine z_auto rfl ?_
  refine z_cl rfl (m_isUnder hk (k := 2) (by decide) ?_)
  rcases n_7 hk with rfl | rfl | rfl | rfl | rfl | rfl | rfl
  · refine z_auto rfl ?_
    refine z_jp rfl ?_
    refine z_auto rfl ?_
    rw [e2 J L hJ]
    refine z_auto rfl ?_
    refine z_jp rfl ?_
    refine z_auto rfl ?_
    refine z_cl rfl (top _ J L hJ (by omega) (fun K hK => ?_))
    refine z_auto rfl ?_
    exact z_rt rfl (h K hK)
  · refine z_auto rfl ?_
    refine z_jp rfl ?_
    refine z_auto rfl ?_
    rw [e2 J L hJ]
    refine z_auto rfl ?_
    refine z_jp rfl ?_
    refine z_auto rfl ?_
    refine z_cl rfl (top _ J L hJ (by omega) (fun K hK => ?_))
    refine z_auto rfl ?_
    exact z_rt rfl (h K hK)
  · refine z_auto rfl ?_
    refine z_st rfl ?_
    refine z_auto rfl ?_
    refine z_cl rfl (m_ran (b := 21) hJ (by omega) (fun K hK => ?_))
    refine z_auto rfl ?_
    refine z_cl rfl (top _ K _ hK (by rw [List.length_append, List.length_singleton]; omega) (fun M hM => ?_))
    refine z_auto rfl ?_
    exact z_rt rfl (h M (by rw [List.append_assoc] at hM; exact hM))
  · refine z_auto rfl ?_
    refine z_jp rfl ?_
    refine z_auto rfl ?_
    rw [e2 J L hJ]
    refine z_auto rfl ?_
    refine z_jp rfl ?_
    refine z_auto rfl ?_
    refine z_cl rfl (top _ J L hJ (by omega) (fun K hK => ?_))
    refine z_auto rfl ?_
    exact z_rt rfl (h K hK)
  · refine z_auto rfl ?_
    refine z_jp rfl ?_
    refine z_auto rfl ?_
    rw [e2 J L hJ]
    refine z_auto rfl ?_
    refine z_jp rfl ?_
    refine z_auto rfl ?_
    refine z_cl rfl (top _ J L hJ (by omega) (fun K hK => ?_))
    refine z_auto rfl ?_
    exact z_rt rfl (h K hK)
  · refine z_auto rfl ?_
    refine z_st rfl ?_
    refine z_auto rfl ?_
    refine z_cl rfl (m_ran (b := 21) hJ (by omega) (fun K hK => ?_))
    refine z_auto rfl ?_
    refine z_cl rfl (top _ K _ hK (by rw [List.length_append, List.length_singleton]; omega) (fun M hM => ?_))
    refine z_auto rfl ?_
    exact z_rt rfl (h M (by rw [List.append_assoc] at hM; exact hM))
  · refine z_auto rfl ?_
    refine z_jp rfl ?_
    refine z_auto rfl ?_
    rw [e2 J L hJ]
    refine z_auto rfl ?_
    refine z_st rfl ?_
    refine z_auto rfl ?_
    refine z_cl rfl (m_ran (b := 61) hJ (by omega) (fun K hK => ?_))
    refine z_auto rfl ?_
    refine z_cl rfl (top _ K _ hK (by rw [List.length_append, List.length_singleton]; omega) (fun M hM => ?_))
    refine z_auto rfl ?_
    rw [e3 M _ hM]
    refine z_auto rfl ?_
    exact z_rt rfl (h M (by rw [List.append_assoc] at hM; exact hM))
end
end
section
/-! act: the pair -/
theorem zRel_A {I J : zMI} (hR : zRel I) (h : ∀ c i k, ¬ (c = 0 ∧ i = 0) → ¬ (c = 35 ∧ i = 0) → ¬ (c = 45 ∧ i = 0) → ¬ (c = 10 ∧ i = 0 ∧ 22 ≤ k ∧ k ≤ 25) → J c i k = I c i k) {r : Nat} (hr : r < 2147483648) (h1 : J 0 0 1 = nI r) (h2 : J 10 0 22 = nI r) (h3 : ∀ i, i < r → i < 20 → J 35 0 i = J 45 0 i) : zRel J := by
  obtain ⟨n, k, t, hb, hE, hI, h4, h5, h6⟩ := hR
  refine ⟨n, k, t, ?_, zES_fr (fun c k hc => h c _ k (by omega) (by omega) (by omega) (by omega)) hE, ?_, ⟨r, hr, h1, h2, h3⟩, (h 10 0 14 (by omega) (by omega) (by omega) (by omega)).trans h5, (h 10 0 15 (by omega) (by omega) (by omega) (by omega)).trans h6⟩
  · exact zbx_id (fun c i k hc => h c i k (by omega) (by omega) (by omega) (by omega)) (fun k _ => h 40 0 k (by omega) (by omega) (by omega) (by omega)) hb
  · rw [h 9 0 2 (by omega) (by omega) (by omega) (by omega), h 10 0 3 (by omega) (by omega) (by omega) (by omega)]
    rcases hI with q | ⟨q1, q2, n', k', t', hb', hk⟩
    · exact Or.inl q
    · exact Or.inr ⟨q1, q2, n', k', t', zbx_id (fun c i k hc => h c i k (by omega) (by omega) (by omega) (by omega)) (fun k _ => h 41 0 k (by omega) (by omega) (by omega) (by omega)) hb', hk⟩
section
variable {d : Nat} {I : zMI} {rl rs : Option (Nat × Nat)} {Q : zPQ} {G : zMR}
set_option maxHeartbeats 4000000 in
set_option maxRecDepth 100000 in
theorem s_tells {J : zMI} {kd : Nat} {x m v : Int32} (hJ : zTc I J []) (hk : kd ≤ 6) (h2 : I 0 0 2 = nI kd) (h3 : I 0 0 3 = v) (h4 : I 0 0 4 = m) (h : ∀ K, zTc I K (fTe kd) → Q (some (zi (vTe kd x m v))) K (zRR rl rs)) : zWm (d + 5) 6 [zr 0 0, zi x] J (zRR rl rs) Q := by
  have e2 : J 0 0 2 = nI kd := (hJ.1 0 0 2 (by decide) (by decide)).trans h2
  have top : ∀ (Q : zPQ) (K : zMI) (L : List Nat) (x : Int32), zTc I K L → L.length ≤ 4 → (∀ M, zTc I M (L ++ 3 :: fTa kd) → Q (some (zi (vTa kd x m v * 2))) M (zRR rl rs)) → zWm (d + 4) 8 [zr 0 0, zi x] K (zRR rl rs) Q := by
    intro Q K L x hK hl hq
    refine z_auto rfl ?_
    refine z_cl rfl (s_begin (b := 3) hK (by omega) (fun M hM => ?_))
    refine z_auto rfl ?_
    refine z_cl rfl (s_takes hM (by rw [List.length_append, List.length_singleton]; omega) hk h2 h3 h4 (fun N hN => ?_))
    refine z_auto rfl ?_
    exact z_rt rfl (hq N (by rw [List.append_assoc] at hN; exact hN))
  refine z_auto rfl ?_
  rw [e2]
  rcases n_7 hk with rfl | rfl | rfl | rfl | rfl | rfl | rfl
  · refine z_auto rfl ?_
    refine z_jp rfl ?_
    refine z_auto rfl ?_
    refine z_cl rfl (top _ J _ _ hJ (by decide) (fun K hK => ?_))
    refine z_auto rfl ?_
    exact z_rt rfl (h K hK)
  · refine z_auto rfl ?_
    refine z_jp rfl ?_
    refine z_auto rfl ?_
    refine z_cl rfl (top _ J _ _ hJ (by decide) (fun K hK => ?_))
    refine z_auto rfl ?_
    exact z_rt rfl (h K hK)
  · refine z_auto rfl ?_
    refine z_jp rfl ?_
    refine z_auto rfl ?_
    refine z_cl rfl (top _ J _ _ hJ (by decide) (fun K hK => ?_))
    refine z_auto rfl ?_
    exact z_rt rfl (h K hK)
  · refine z_auto rfl ?_
    refine z_jp rfl ?_
    refine z_auto rfl ?_
    refine z_cl rfl (s_begin (b := 31) hJ (by decide) (fun K hK => ?_))
    refine z_auto rfl ?_
    refine z_cl rfl (top _ K _ _ hK (by decide) (fun M hM => ?_))
    refine z_auto rfl ?_
    exact z_rt rfl (h M hM)
  · refine z_auto rfl ?_
    refine z_jp rfl ?_
    refine z_auto rfl ?_
    refine z_cl rfl (s_begin (b := 41) hJ (by decide) (fun K hK => ?_))
    refine z_auto rfl ?_
    refine z_cl rfl (top _ K _ _ hK (by decide) (fun M hM => ?_))
    refine z_auto rfl ?_
    refine z_cl rfl (s_gives hM (by decide) hk h2 h4 (fun N hN => ?_))
    refine z_auto rfl ?_
    exact z_rt rfl (h N hN)
  · refine z_auto rfl ?_
    refine z_jp rfl ?_
    refine z_auto rfl ?_
    refine z_cl rfl (top _ J _ _ hJ (by decide) (fun K hK => ?_))
    refine z_auto rfl ?_
    exact z_rt rfl (h K hK)
  · refine z_auto rfl ?_
    refine z_jp rfl ?_
    refine z_auto rfl ?_
    refine z_cl rfl (s_begin (b := 31) hJ (by decide) (fun K hK => ?_))
    refine z_auto rfl ?_
    refine z_cl rfl (top _ K _ _ hK (by decide) (fun M hM => ?_))
    refine z_auto rfl ?_
    exact z_rt rfl (h M hM)
set_option maxHeartbeats 4000000 in
set_option maxRecDepth 100000 in
theorem m_tells {J : zMI} {kd : Nat} {x m v : Int32} (hJ : zTm I J []) (hk : kd ≤ 6) (h2 : I 10 0 23 = nI kd) (h3 : I 10 0 25 = v) (h4 : I 10 0 24 = m) (h : ∀ K, zTm I K (fTe kd) → Q (some (zi (vTe kd x m v))) K (zRR rl rs)) : zWm (d + 6) 169 [zr 10 0, zi x] J (zRR rl rs) Q := by
  have e2 : ∀ K L, zTm I K L → K 10 0 23 = nI kd := fun K L hK => (hK.1 10 0 23 (by decide) (by decide)).trans h2
  have top : ∀ (Q : zPQ) (K : zMI) (L : List Nat) (x : Int32), zTm I K L → L.length ≤ 4 → (∀ M, zTm I M (L ++ 3 :: fTa kd) → Q (some (zi (vTa kd x m v * 2))) M (zRR rl rs)) → zWm (d + 5) 168 [zr 10 0, zi x] K (zRR rl rs) Q := by
    intro Q K L x hK hl hq
    refine z_auto rfl ?_
    refine z_cl rfl (m_ran (b := 3) hK (by omega) (fun M hM => ?_))
    refine z_auto rfl ?_
    refine z_cl rfl (m_takes hM (by rw [List.length_append, List.length_singleton]; omega) hk h2 h3 h4 (fun N hN => ?_))
    refine z_auto rfl ?_
    exact z_rt rfl (hq N (by rw [List.append_assoc] at hN; exact hN))
  refine z_auto rfl ?_
  rw [e2 J _ hJ]
  refine z_auto rfl ?_
  refine z_cl rfl (m_isUnder hk (k := 3) (by decide) ?_)
  rcases n_7 hk with rfl | rfl | rfl | rfl | rfl | rfl | rfl
  · refine z_auto rfl ?_
    refine z_jp rfl ?_
    refine z_auto rfl ?_
    rw [e2 J _ hJ]
    refine z_auto rfl ?_
    refine z_jp rfl ?_
    refine z_auto rfl ?_
    refine z_cl rfl (top _ J _ _ hJ (by decide) (fun K hK => ?_))
    refine z_auto rfl ?_
    exact z_rt rfl (h K hK)
  · refine z_auto rfl ?_
    refine z_jp rfl ?_
    refine z_auto rfl ?_
    rw [e2 J _ hJ]
    refine z_auto rfl ?_
    refine z_jp rfl ?_
    refine z_auto rfl ?_
    refine z_cl rfl (top _ J _ _ hJ (by decide) (fun K hK => ?_))
    refine z_auto rfl ?_
    exact z_rt rfl (h K hK)
  · refine z_auto rfl ?_
    refine z_jp rfl ?_
    refine z_auto rfl ?_
    rw [e2 J _ hJ]
    refine z_auto rfl ?_
    refine z_jp rfl ?_
    refine z_auto rfl ?_
    refine z_cl rfl (top _ J _ _ hJ (by decide) (fun K hK => ?_))
    refine z_auto rfl ?_
    exact z_rt rfl (h K hK)
  · refine z_auto rfl ?_
    refine z_st rfl ?_
    refine z_auto rfl ?_
    refine z_cl rfl (m_ran (b := 31) hJ (by decide) (fun K hK => ?_))
    refine z_auto rfl ?_
    refine z_cl rfl (top _ K _ _ hK (by decide) (fun M hM => ?_))
    refine z_auto rfl ?_
    exact z_rt rfl (h M hM)
  · refine z_auto rfl ?_
    refine z_jp rfl ?_
    refine z_auto rfl ?_
    rw [e2 J _ hJ]
    refine z_auto rfl ?_
    refine z_st rfl ?_
    refine z_auto rfl ?_
    refine z_cl rfl (m_ran (b := 41) hJ (by decide) (fun K hK => ?_))
    refine z_auto rfl ?_
    refine z_cl rfl (top _ K _ _ hK (by decide) (fun M hM => ?_))
    refine z_auto rfl ?_
    refine z_cl rfl (m_gives hM (by decide) hk h2 h4 (fun N hN => ?_))
    refine z_auto rfl ?_
    exact z_rt rfl (h N hN)
  · refine z_auto rfl ?_
    refine z_jp rfl ?_
    refine z_auto rfl ?_
    rw [e2 J _ hJ]
    refine z_auto rfl ?_
    refine z_jp rfl ?_
    refine z_auto rfl ?_
    refine z_cl rfl (top _ J _ _ hJ (by decide) (fun K hK => ?_))
    refine z_auto rfl ?_
    exact z_rt rfl (h K hK)
  · refine z_auto rfl ?_
    refine z_st rfl ?_
    refine z_auto rfl ?_
    refine z_cl rfl (m_ran (b := 31) hJ (by decide) (fun K hK => ?_))
    refine z_auto rfl ?_
    refine z_cl rfl (top _ K _ _ hK (by decide) (fun M hM => ?_))
    refine z_auto rfl ?_
    exact z_rt rfl (h M hM)
set_option maxHeartbeats 4000000 in
set_option maxRecDepth 100000 in
theorem p_act (x1 x2 x3 : Int32) : zPr 88 170 [zi x1, zi x2, zi x3] := by
  intro d I rl rs hR
  have hR0 := hR
  obtain ⟨n, k, t, ⟨b1, b2, b3, b4, b5, b6⟩, -, -, -, -, -⟩ := hR0
  have hn := b1.1
  have hm := b1.2.1
  have h8 := b1.2.2.1
  refine z_auto rfl ?_
  refine z_cl rfl (?_ : zWm (d + 11) 1 [zr 0 0] I (zRR rl rs) _)
  refine z_auto rfl ?_
  refine z_rt rfl ?_
  have c0 : ∀ c i k, ¬ (c = 0 ∧ i = 0 ∧ k = 1) → zup I 0 0 1 0 c i k = I c i k := fun c i k q => zup_ne q
  rcases n_lay x1 n h8 with ⟨l, hl, rfl⟩ | hx1
  · obtain ⟨kd, v, th, w, sd, q, ⟨p0, p1, -, -, -⟩, r1, r2, -, -, -⟩ := b1.2.2.2.1 l hl
    refine z_auto rfl ?_
    refine z_cl rfl (c_has_y ((c0 4 0 7 (by omega)).trans hn) h8 hl ?_)
    refine z_auto rfl ?_
    refine z_jp rfl ?_
    refine z_auto rfl ?_
    refine z_cl rfl (?_ : zWm (d + 11) 2 [zr 0 0, zr 4 0, zi (nI l)] (zup I 0 0 1 0) (zRR rl rs) _)
    refine z_auto rfl ?_
    refine z_ald (k := l) rfl rfl (by show l < 8; omega) ?_
    rw [c0 20 0 l (by omega), p0]
    refine z_auto rfl ?_
    refine z_ald (k := l) rfl rfl (by show l < 8; omega) ?_
    rw [zup_ne (by omega), c0 21 0 l (by omega), p1]
    refine z_auto rfl ?_
    refine z_rt rfl ?_
    obtain ⟨J, hJ⟩ : ∃ J, J = zup (zup (zup (zup I 0 0 1 0) 0 0 2 (nI kd)) 0 0 3 (nI v)) 0 0 4 (nI l) := ⟨_, rfl⟩
    rw [← hJ]
    have A : ∀ c i k, ¬ (c = 0 ∧ i = 0) → J c i k = I c i k := fun c i k h1 => by
      rw [hJ]
      repeat rw [zup_ne (by omega)]
    have j1 : J 0 0 1 = nI 0 := by
      rw [hJ]
      repeat (first | rw [zup_eq] | rw [zup_ne (by omega)])
      rfl
    have j2 : J 0 0 2 = nI kd := by
      rw [hJ]
      repeat (first | rw [zup_eq] | rw [zup_ne (by omega)])
    have j3 : J 0 0 3 = nI v := by
      rw [hJ]
      repeat (first | rw [zup_eq] | rw [zup_ne (by omega)])
    have j4 : J 0 0 4 = nI l := by
      rw [hJ]
      repeat (first | rw [zup_eq] | rw [zup_ne (by omega)])
    clear hJ
    have hT0 : zTc J J [] := ⟨fun _ _ _ _ _ => rfl, j1, fun i x hx => by rw [List.getElem?_nil] at hx; cases hx⟩
    have mrun : ∀ (w : Nat), w ≤ 2 → ∀ (K : zMI) (L : List Nat) (v2 : Int32), L.length ≤ 20 → zTc J K L → ((w = 0 ∧ L = fGi kd ∧ v2 = vGi kd x3 (nI l)) ∨ (w = 1 ∧ L = fTa kd ∧ v2 = vTa kd x3 (nI l) (nI v)) ∨ (w = 2 ∧ L = fTe kd ∧ v2 = vTe kd x3 (nI l) (nI v))) → ∀ rl' rs', zWm (d + 12) 170 [zr 10 0, zi (nI l), zi (nI w), zi x3] K (zRR rl' rs') (fun v3 I2 G2 => some (zi v2) = v3 ∧ zRel I2 ∧ ∃ rl2 rs2, G2 = zRR rl2 rs2) := by
      intro w hw K L v2 hL hK hc rl' rs'
      have kI : ∀ c i k, ¬ (c = 0 ∧ i = 0) → ¬ (c = 35 ∧ i = 0) → K c i k = I c i k := fun c i k h1 h2 => (hK.1 c i k (by omega) h2).trans (A c i k h1)
      have e0 : zup K 10 0 22 0 40 0 0 = nI n := by rw [zup_ne (by omega), kI _ _ _ (by omega) (by omega), hm]
      refine z_auto rfl ?_
      refine z_cl rfl (m_isLayer_y e0 h8 hl ?_)
      refine z_auto rfl ?_
      refine z_st rfl ?_
      refine z_auto rfl ?_
      refine z_cl rfl (m_in_y (lo := 0) (hi := 2) (Nat.zero_le _) hw (by decide) ?_)
      refine z_auto rfl ?_
      refine z_jp rfl ?_
      refine z_auto rfl ?_
      refine z_ald (k := (10 + l)) rfl (nI_add 10 l) (by show 10 + l < 937; omega) ?_
      rw [zup_ne (by omega), kI _ _ _ (by omega) (by omega), r1]
      refine z_auto rfl ?_
      refine z_ald (k := (18 + l)) rfl (nI_add 18 l) (by show 18 + l < 937; omega) ?_
      rw [zup_ne (by omega), zup_ne (by omega), zup_ne (by omega), kI _ _ _ (by omega) (by omega), r2]
      obtain ⟨M, hM⟩ : ∃ M, M = zup (zup (zup (zup K 10 0 22 0) 10 0 23 (nI kd)) 10 0 24 (nI l)) 10 0 25 (nI v) := ⟨_, rfl⟩
      have B : ∀ c i k, ¬ (c = 10 ∧ i = 0 ∧ 22 ≤ k ∧ k ≤ 25) → M c i k = K c i k := fun c i k h1 => by
        rw [hM]
        repeat rw [zup_ne (by omega)]
      have m1 : M 10 0 22 = nI 0 := by
        rw [hM]
        repeat (first | rw [zup_eq] | rw [zup_ne (by omega)])
        rfl
      have m2 : M 10 0 23 = nI kd := by
        rw [hM]
        repeat (first | rw [zup_eq] | rw [zup_ne (by omega)])
      have m3 : M 10 0 25 = nI v := by
        rw [hM]
        repeat (first | rw [zup_eq] | rw [zup_ne (by omega)])
      have m4 : M 10 0 24 = nI l := by
        rw [hM]
        repeat (first | rw [zup_eq] | rw [zup_ne (by omega)])
      have hM0 : zTm M M [] := ⟨fun _ _ _ _ _ => rfl, m1, fun i x hx => by rw [List.getElem?_nil] at hx; cases hx⟩
      have fin : ∀ N, zTm M N L → zRel N := by
        intro N hN
        have nI2 : ∀ c i k, ¬ (c = 10 ∧ i = 0 ∧ 22 ≤ k ∧ k ≤ 25) → ¬ (c = 45 ∧ i = 0) → N c i k = K c i k := fun c i k h1 h2 => (hN.1 c i k (by omega) h2).trans (B c i k h1)
        refine zRel_A hR (fun c i k h1 h2 h3 h4 => (nI2 c i k h4 h3).trans (kI c i k h1 h2)) (r := L.length) (by omega) ((nI2 _ _ _ (by omega) (by omega)).trans hK.2.1) hN.2.1 (fun i h1 h2 => ?_)
        have hx : L[i]? = some L[i] := List.getElem?_eq_getElem h1
        rw [nI2 _ _ _ (by omega) (by omega), hK.2.2 i _ hx, hN.2.2 i _ hx]
      refine z_auto rfl ?_
      rw [← hM]
      clear hM
      rcases hc with ⟨rfl, rfl, rfl⟩ | ⟨rfl, rfl, rfl⟩ | ⟨rfl, rfl, rfl⟩
      · refine z_auto rfl ?_
        refine z_st rfl ?_
        refine z_auto rfl ?_
        refine z_cl rfl (m_gives (L := []) hM0 (by decide) (by omega) m2 m4 (fun N hN => ?_))
        refine z_auto rfl ?_
        refine z_jp rfl ?_
        refine z_auto rfl ?_
        exact z_rt rfl (zPr_o2 rfl (fin N hN))
      · refine z_auto rfl ?_
        refine z_jp rfl ?_
        refine z_auto rfl ?_
        refine z_st rfl ?_
        refine z_auto rfl ?_
        refine z_cl rfl (m_takes (L := []) hM0 (by decide) (by omega) m2 m3 m4 (fun N hN => ?_))
        refine z_auto rfl ?_
        refine z_jp rfl ?_
        refine z_auto rfl ?_
        exact z_rt rfl (zPr_o2 rfl (fin N hN))
      · refine z_auto rfl ?_
        refine z_jp rfl ?_
        refine z_auto rfl ?_
        refine z_jp rfl ?_
        refine z_auto rfl ?_
        refine z_cl rfl (m_tells hM0 (by omega) m2 m3 m4 (fun N hN => ?_))
        refine z_auto rfl ?_
        refine z_jp rfl ?_
        refine z_auto rfl ?_
        exact z_rt rfl (zPr_o2 rfl (fin N hN))
    have len : ∀ kd, kd ≤ 6 → (fGi kd).length ≤ 20 ∧ (fTa kd).length ≤ 20 ∧ (fTe kd).length ≤ 20 := by decide
    rcases n_cases x2 2 (by decide) with ⟨w2, hw, rfl⟩ | hx
    · rcases (show w2 = 0 ∨ w2 = 1 ∨ w2 = 2 by omega) with rfl | rfl | rfl
      · refine z_auto rfl ?_
        refine z_jp rfl ?_
        refine z_auto rfl ?_
        refine z_cl rfl (s_gives (L := []) hT0 (by decide) (by omega) j2 j4 (fun K hK => ?_))
        refine z_auto rfl ?_
        exact z_rt rfl (zPr_i (mrun 0 (by decide) K _ _ (len kd (by omega)).1 hK (Or.inl ⟨rfl, rfl, rfl⟩)))
      · refine z_auto rfl ?_
        refine z_jp rfl ?_
        refine z_auto rfl ?_
        refine z_cl rfl (s_takes (L := []) hT0 (by decide) (by omega) j2 j3 j4 (fun K hK => ?_))
        refine z_auto rfl ?_
        exact z_rt rfl (zPr_i (mrun 1 (by decide) K _ _ (len kd (by omega)).2.1 hK (Or.inr (Or.inl ⟨rfl, rfl, rfl⟩))))
      · refine z_auto rfl ?_
        refine z_jp rfl ?_
        refine z_auto rfl ?_
        refine z_cl rfl (s_tells hT0 (by omega) j2 j3 j4 (fun K hK => ?_))
        refine z_auto rfl ?_
        exact z_rt rfl (zPr_i (mrun 2 (by decide) K _ _ (len kd (by omega)).2.2 hK (Or.inr (Or.inr ⟨rfl, rfl, rfl⟩))))
    · refine z_auto rfl ?_
      refine z_sw rfl (fun q hq hx2 => ?_) (fun hn => ?_)
      · exfalso
        have hq : q ∈ [((0 : Int32), 2), (1, 3), (2, 4)] := hq
        simp only [List.mem_cons, List.not_mem_nil, or_false] at hq
        rcases hq with rfl | rfl | rfl <;> (subst hx2; revert hx; decide)
      · refine z_auto rfl ?_
        refine z_rt rfl (zPr_i (fun rl' rs' => ?_))
        have e0 : zup J 10 0 22 0 40 0 0 = nI n := by rw [zup_ne (by omega), A _ _ _ (by omega), hm]
        refine z_auto rfl ?_
        refine z_cl rfl (m_isLayer_y e0 h8 hl ?_)
        refine z_auto rfl ?_
        refine z_st rfl ?_
        refine z_auto rfl ?_
        refine z_cl rfl (m_in_n hx ?_)
        refine z_auto rfl ?_
        refine z_st rfl ?_
        refine z_auto rfl ?_
        refine z_jp rfl ?_
        refine z_auto rfl ?_
        exact z_rt rfl (zPr_o (zRel_A hR (fun c i k h1 h2 h3 h4 => by rw [zup_ne (by omega)]; exact A c i k h1) (r := 0) (by decide) (by rw [zup_ne (by omega)]; exact j1) zup_eq (fun i h1 _ => absurd h1 (Nat.not_lt_zero i))))
  · refine z_auto rfl ?_
    refine z_cl rfl (c_has_n ((c0 4 0 7 (by omega)).trans hn) h8 hx1 ?_)
    refine z_auto rfl ?_
    refine z_st rfl ?_
    refine z_auto rfl ?_
    refine z_rt rfl (zPr_i (fun rl' rs' => ?_))
    have e0 : zup (zup I 0 0 1 0) 10 0 22 0 40 0 0 = nI n := by rw [zup_ne (by omega), zup_ne (by omega), hm]
    refine z_auto rfl ?_
    refine z_cl rfl (m_isLayer_n e0 h8 hx1 ?_)
    refine z_auto rfl ?_
    refine z_jp rfl ?_
    refine z_auto rfl ?_
    exact z_rt rfl (zPr_o (zRel_A hR (fun c i k h1 h2 h3 h4 => by rw [zup_ne (by omega), zup_ne (by omega)]) (r := 0) (by decide) (by rw [zup_ne (by omega)]; exact zup_eq) zup_eq (fun i h1 _ => absurd h1 (Nat.not_lt_zero i))))
end
end
