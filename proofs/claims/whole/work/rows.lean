section
-- ===== PART A: goes FIRST, ahead of the names: the tables' words, and 'selects' of the private methods out of them =====
/-- a private method of a class that the tables say can be made, by its rows of tables_1 -/
def lw_okq (q : MethodName × Nat) : Prop := (q.1.cls ≠ "java/lang/invoke/MethodHandle" ∧ q.1.cls ≠ "java/lang/invoke/VarHandle") ∧ Cond.instantiable q.1.cls q.2 ∈ tables_1 ∧ Cond.privateMethod q.1 ∈ tables_1 ∧ Cond.instanceMethod q.1 ∈ tables_1
theorem lw_p0 : lw_okq (⟨"InnChanged$Text", "step", "()V"⟩, 10) := ⟨⟨by decide +kernel, by decide +kernel⟩, List.mem_of_getElem? (i := 30) (by decide +kernel), List.mem_of_getElem? (i := 409) (by decide +kernel), List.mem_of_getElem? (i := 410) (by decide +kernel)⟩
theorem lw_p1 : lw_okq (⟨"InnChanged$Text", "wordHere", "()I"⟩, 10) := ⟨⟨by decide +kernel, by decide +kernel⟩, List.mem_of_getElem? (i := 30) (by decide +kernel), List.mem_of_getElem? (i := 419) (by decide +kernel), List.mem_of_getElem? (i := 420) (by decide +kernel)⟩
theorem lw_p2 : lw_okq (⟨"InnChanged$Text", "standsHere", "(Ljava/lang/String;)Z"⟩, 10) := ⟨⟨by decide +kernel, by decide +kernel⟩, List.mem_of_getElem? (i := 30) (by decide +kernel), List.mem_of_getElem? (i := 437) (by decide +kernel), List.mem_of_getElem? (i := 438) (by decide +kernel)⟩
theorem lw_p3 : lw_okq (⟨"InnChanged$Text", "hasRoom", "(I)Z"⟩, 10) := ⟨⟨by decide +kernel, by decide +kernel⟩, List.mem_of_getElem? (i := 30) (by decide +kernel), List.mem_of_getElem? (i := 489) (by decide +kernel), List.mem_of_getElem? (i := 490) (by decide +kernel)⟩
theorem lw_p4 : lw_okq (⟨"InnChanged$Text", "readNumbers", "(ILjava/lang/String;)Z"⟩, 10) := ⟨⟨by decide +kernel, by decide +kernel⟩, List.mem_of_getElem? (i := 30) (by decide +kernel), List.mem_of_getElem? (i := 508) (by decide +kernel), List.mem_of_getElem? (i := 509) (by decide +kernel)⟩
theorem lw_p5 : lw_okq (⟨"InnChanged$Text", "numberHere", "()I"⟩, 10) := ⟨⟨by decide +kernel, by decide +kernel⟩, List.mem_of_getElem? (i := 30) (by decide +kernel), List.mem_of_getElem? (i := 512) (by decide +kernel), List.mem_of_getElem? (i := 513) (by decide +kernel)⟩
theorem lw_p6 : lw_okq (⟨"InnChanged$Text", "bound", "(C)I"⟩, 10) := ⟨⟨by decide +kernel, by decide +kernel⟩, List.mem_of_getElem? (i := 30) (by decide +kernel), List.mem_of_getElem? (i := 516) (by decide +kernel), List.mem_of_getElem? (i := 517) (by decide +kernel)⟩
theorem lw_p7 : lw_okq (⟨"InnChanged$Text", "grow", "(I)V"⟩, 10) := ⟨⟨by decide +kernel, by decide +kernel⟩, List.mem_of_getElem? (i := 30) (by decide +kernel), List.mem_of_getElem? (i := 520) (by decide +kernel), List.mem_of_getElem? (i := 521) (by decide +kernel)⟩
theorem lw_p8 : lw_okq (⟨"InnChanged$Told", "addOne", "(I)V"⟩, 10) := ⟨⟨by decide +kernel, by decide +kernel⟩, List.mem_of_getElem? (i := 71) (by decide +kernel), List.mem_of_getElem? (i := 534) (by decide +kernel), List.mem_of_getElem? (i := 535) (by decide +kernel)⟩
theorem lw_p9 : lw_okq (⟨"InnChanged$Told", "addThing", "(ILInnChanged$Text;I)V"⟩, 10) := ⟨⟨by decide +kernel, by decide +kernel⟩, List.mem_of_getElem? (i := 71) (by decide +kernel), List.mem_of_getElem? (i := 539) (by decide +kernel), List.mem_of_getElem? (i := 540) (by decide +kernel)⟩
theorem lw_p10 : lw_okq (⟨"InnChanged$Told", "addNight", "(I)V"⟩, 10) := ⟨⟨by decide +kernel, by decide +kernel⟩, List.mem_of_getElem? (i := 71) (by decide +kernel), List.mem_of_getElem? (i := 606) (by decide +kernel), List.mem_of_getElem? (i := 607) (by decide +kernel)⟩
theorem lw_p11 : lw_okq (⟨"InnChanged$Told", "tellPower", "(II)V"⟩, 10) := ⟨⟨by decide +kernel, by decide +kernel⟩, List.mem_of_getElem? (i := 71) (by decide +kernel), List.mem_of_getElem? (i := 610) (by decide +kernel), List.mem_of_getElem? (i := 611) (by decide +kernel)⟩
theorem lw_p12 : lw_okq (⟨"InnChanged$Told", "sleeps", "(II)Z"⟩, 10) := ⟨⟨by decide +kernel, by decide +kernel⟩, List.mem_of_getElem? (i := 71) (by decide +kernel), List.mem_of_getElem? (i := 642) (by decide +kernel), List.mem_of_getElem? (i := 643) (by decide +kernel)⟩
theorem lw_p13 : lw_okq (⟨"InnChanged$Told", "isOpen", "(II)Z"⟩, 10) := ⟨⟨by decide +kernel, by decide +kernel⟩, List.mem_of_getElem? (i := 71) (by decide +kernel), List.mem_of_getElem? (i := 700) (by decide +kernel), List.mem_of_getElem? (i := 701) (by decide +kernel)⟩
theorem lw_p14 : lw_okq (⟨"InnChanged$Mend", "placeOfOwn", "(I)I"⟩, 5) := ⟨⟨by decide +kernel, by decide +kernel⟩, List.mem_of_getElem? (i := 193) (by decide +kernel), List.mem_of_getElem? (i := 759) (by decide +kernel), List.mem_of_getElem? (i := 760) (by decide +kernel)⟩
theorem lw_p15 : lw_okq (⟨"InnChanged$Plan", "charmSet", "()I"⟩, 7) := ⟨⟨by decide +kernel, by decide +kernel⟩, List.mem_of_getElem? (i := 217) (by decide +kernel), List.mem_of_getElem? (i := 779) (by decide +kernel), List.mem_of_getElem? (i := 780) (by decide +kernel)⟩
def lw_privs_1 : List (MethodName × Nat) := [(⟨"InnChanged$Text", "step", "()V"⟩, 10), (⟨"InnChanged$Text", "wordHere", "()I"⟩, 10), (⟨"InnChanged$Text", "standsHere", "(Ljava/lang/String;)Z"⟩, 10), (⟨"InnChanged$Text", "hasRoom", "(I)Z"⟩, 10), (⟨"InnChanged$Text", "readNumbers", "(ILjava/lang/String;)Z"⟩, 10), (⟨"InnChanged$Text", "numberHere", "()I"⟩, 10), (⟨"InnChanged$Text", "bound", "(C)I"⟩, 10), (⟨"InnChanged$Text", "grow", "(I)V"⟩, 10), (⟨"InnChanged$Told", "addOne", "(I)V"⟩, 10), (⟨"InnChanged$Told", "addThing", "(ILInnChanged$Text;I)V"⟩, 10), (⟨"InnChanged$Told", "addNight", "(I)V"⟩, 10), (⟨"InnChanged$Told", "tellPower", "(II)V"⟩, 10), (⟨"InnChanged$Told", "sleeps", "(II)Z"⟩, 10), (⟨"InnChanged$Told", "isOpen", "(II)Z"⟩, 10), (⟨"InnChanged$Mend", "placeOfOwn", "(I)I"⟩, 5), (⟨"InnChanged$Plan", "charmSet", "()I"⟩, 7)]
theorem lw_r1 : ∀ q ∈ lw_privs_1, lw_okq q := List.forall_mem_cons.mpr ⟨lw_p0, List.forall_mem_cons.mpr ⟨lw_p1, List.forall_mem_cons.mpr ⟨lw_p2, List.forall_mem_cons.mpr ⟨lw_p3, List.forall_mem_cons.mpr ⟨lw_p4, List.forall_mem_cons.mpr ⟨lw_p5, List.forall_mem_cons.mpr ⟨lw_p6, List.forall_mem_cons.mpr ⟨lw_p7, List.forall_mem_cons.mpr ⟨lw_p8, List.forall_mem_cons.mpr ⟨lw_p9, List.forall_mem_cons.mpr ⟨lw_p10, List.forall_mem_cons.mpr ⟨lw_p11, List.forall_mem_cons.mpr ⟨lw_p12, List.forall_mem_cons.mpr ⟨lw_p13, List.forall_mem_cons.mpr ⟨lw_p14, List.forall_mem_cons.mpr ⟨lw_p15, fun _ h => absurd h List.not_mem_nil⟩⟩⟩⟩⟩⟩⟩⟩⟩⟩⟩⟩⟩⟩⟩⟩
theorem lw_p16 : lw_okq (⟨"InnChanged$Plan", "weighEnds", "(I)V"⟩, 7) := ⟨⟨by decide +kernel, by decide +kernel⟩, List.mem_of_getElem? (i := 217) (by decide +kernel), List.mem_of_getElem? (i := 790) (by decide +kernel), List.mem_of_getElem? (i := 791) (by decide +kernel)⟩
theorem lw_p17 : lw_okq (⟨"InnChanged$Plan", "hostPlaces", "()I"⟩, 7) := ⟨⟨by decide +kernel, by decide +kernel⟩, List.mem_of_getElem? (i := 217) (by decide +kernel), List.mem_of_getElem? (i := 794) (by decide +kernel), List.mem_of_getElem? (i := 795) (by decide +kernel)⟩
theorem lw_p18 : lw_okq (⟨"InnChanged$Plan", "weighNight", "(II)V"⟩, 7) := ⟨⟨by decide +kernel, by decide +kernel⟩, List.mem_of_getElem? (i := 217) (by decide +kernel), List.mem_of_getElem? (i := 799) (by decide +kernel), List.mem_of_getElem? (i := 800) (by decide +kernel)⟩
theorem lw_p19 : lw_okq (⟨"InnChanged$Plan", "weighChange", "(IIII)V"⟩, 7) := ⟨⟨by decide +kernel, by decide +kernel⟩, List.mem_of_getElem? (i := 217) (by decide +kernel), List.mem_of_getElem? (i := 804) (by decide +kernel), List.mem_of_getElem? (i := 805) (by decide +kernel)⟩
theorem lw_p20 : lw_okq (⟨"InnChanged$Plan", "chooseChange", "(II)I"⟩, 7) := ⟨⟨by decide +kernel, by decide +kernel⟩, List.mem_of_getElem? (i := 217) (by decide +kernel), List.mem_of_getElem? (i := 812) (by decide +kernel), List.mem_of_getElem? (i := 813) (by decide +kernel)⟩
theorem lw_p21 : lw_okq (⟨"InnChanged$Fits", "allowedIn", "(I)I"⟩, 8) := ⟨⟨by decide +kernel, by decide +kernel⟩, List.mem_of_getElem? (i := 251) (by decide +kernel), List.mem_of_getElem? (i := 840) (by decide +kernel), List.mem_of_getElem? (i := 841) (by decide +kernel)⟩
theorem lw_p22 : lw_okq (⟨"InnChanged$Fits", "weighHeads", "(I)V"⟩, 8) := ⟨⟨by decide +kernel, by decide +kernel⟩, List.mem_of_getElem? (i := 251) (by decide +kernel), List.mem_of_getElem? (i := 849) (by decide +kernel), List.mem_of_getElem? (i := 850) (by decide +kernel)⟩
theorem lw_p23 : lw_okq (⟨"InnChanged$Fits", "weighTails", "(I)V"⟩, 8) := ⟨⟨by decide +kernel, by decide +kernel⟩, List.mem_of_getElem? (i := 251) (by decide +kernel), List.mem_of_getElem? (i := 854) (by decide +kernel), List.mem_of_getElem? (i := 855) (by decide +kernel)⟩
theorem lw_p24 : lw_okq (⟨"InnChanged$Fits", "weighLying", "(I)V"⟩, 8) := ⟨⟨by decide +kernel, by decide +kernel⟩, List.mem_of_getElem? (i := 251) (by decide +kernel), List.mem_of_getElem? (i := 858) (by decide +kernel), List.mem_of_getElem? (i := 859) (by decide +kernel)⟩
theorem lw_p25 : lw_okq (⟨"InnChanged$Apart", "gather", "(II)V"⟩, 8) := ⟨⟨by decide +kernel, by decide +kernel⟩, List.mem_of_getElem? (i := 287) (by decide +kernel), List.mem_of_getElem? (i := 920) (by decide +kernel), List.mem_of_getElem? (i := 921) (by decide +kernel)⟩
theorem lw_p26 : lw_okq (⟨"InnChanged$Apart", "noteAnswers", "()V"⟩, 8) := ⟨⟨by decide +kernel, by decide +kernel⟩, List.mem_of_getElem? (i := 287) (by decide +kernel), List.mem_of_getElem? (i := 924) (by decide +kernel), List.mem_of_getElem? (i := 925) (by decide +kernel)⟩
theorem lw_p27 : lw_okq (⟨"InnChanged$Apart", "choose", "(III)Z"⟩, 8) := ⟨⟨by decide +kernel, by decide +kernel⟩, List.mem_of_getElem? (i := 287) (by decide +kernel), List.mem_of_getElem? (i := 929) (by decide +kernel), List.mem_of_getElem? (i := 930) (by decide +kernel)⟩
theorem lw_p28 : lw_okq (⟨"InnChanged$Apart", "isTooCoarse", "(II)Z"⟩, 8) := ⟨⟨by decide +kernel, by decide +kernel⟩, List.mem_of_getElem? (i := 287) (by decide +kernel), List.mem_of_getElem? (i := 933) (by decide +kernel), List.mem_of_getElem? (i := 934) (by decide +kernel)⟩
theorem lw_p29 : lw_okq (⟨"InnChanged$Apart", "split", "(II)V"⟩, 8) := ⟨⟨by decide +kernel, by decide +kernel⟩, List.mem_of_getElem? (i := 287) (by decide +kernel), List.mem_of_getElem? (i := 938) (by decide +kernel), List.mem_of_getElem? (i := 939) (by decide +kernel)⟩
theorem lw_p30 : lw_okq (⟨"InnChanged$Came", "list", "(III)V"⟩, 9) := ⟨⟨by decide +kernel, by decide +kernel⟩, List.mem_of_getElem? (i := 319) (by decide +kernel), List.mem_of_getElem? (i := 950) (by decide +kernel), List.mem_of_getElem? (i := 951) (by decide +kernel)⟩
theorem lw_p31 : lw_okq (⟨"InnChanged$Came", "startAtHome", "()V"⟩, 9) := ⟨⟨by decide +kernel, by decide +kernel⟩, List.mem_of_getElem? (i := 319) (by decide +kernel), List.mem_of_getElem? (i := 954) (by decide +kernel), List.mem_of_getElem? (i := 955) (by decide +kernel)⟩
def lw_privs_2 : List (MethodName × Nat) := [(⟨"InnChanged$Plan", "weighEnds", "(I)V"⟩, 7), (⟨"InnChanged$Plan", "hostPlaces", "()I"⟩, 7), (⟨"InnChanged$Plan", "weighNight", "(II)V"⟩, 7), (⟨"InnChanged$Plan", "weighChange", "(IIII)V"⟩, 7), (⟨"InnChanged$Plan", "chooseChange", "(II)I"⟩, 7), (⟨"InnChanged$Fits", "allowedIn", "(I)I"⟩, 8), (⟨"InnChanged$Fits", "weighHeads", "(I)V"⟩, 8), (⟨"InnChanged$Fits", "weighTails", "(I)V"⟩, 8), (⟨"InnChanged$Fits", "weighLying", "(I)V"⟩, 8), (⟨"InnChanged$Apart", "gather", "(II)V"⟩, 8), (⟨"InnChanged$Apart", "noteAnswers", "()V"⟩, 8), (⟨"InnChanged$Apart", "choose", "(III)Z"⟩, 8), (⟨"InnChanged$Apart", "isTooCoarse", "(II)Z"⟩, 8), (⟨"InnChanged$Apart", "split", "(II)V"⟩, 8), (⟨"InnChanged$Came", "list", "(III)V"⟩, 9), (⟨"InnChanged$Came", "startAtHome", "()V"⟩, 9)]
theorem lw_r2 : ∀ q ∈ lw_privs_2, lw_okq q := List.forall_mem_cons.mpr ⟨lw_p16, List.forall_mem_cons.mpr ⟨lw_p17, List.forall_mem_cons.mpr ⟨lw_p18, List.forall_mem_cons.mpr ⟨lw_p19, List.forall_mem_cons.mpr ⟨lw_p20, List.forall_mem_cons.mpr ⟨lw_p21, List.forall_mem_cons.mpr ⟨lw_p22, List.forall_mem_cons.mpr ⟨lw_p23, List.forall_mem_cons.mpr ⟨lw_p24, List.forall_mem_cons.mpr ⟨lw_p25, List.forall_mem_cons.mpr ⟨lw_p26, List.forall_mem_cons.mpr ⟨lw_p27, List.forall_mem_cons.mpr ⟨lw_p28, List.forall_mem_cons.mpr ⟨lw_p29, List.forall_mem_cons.mpr ⟨lw_p30, List.forall_mem_cons.mpr ⟨lw_p31, fun _ h => absurd h List.not_mem_nil⟩⟩⟩⟩⟩⟩⟩⟩⟩⟩⟩⟩⟩⟩⟩⟩
theorem lw_p32 : lw_okq (⟨"InnChanged$Came", "goOn", "()V"⟩, 9) := ⟨⟨by decide +kernel, by decide +kernel⟩, List.mem_of_getElem? (i := 319) (by decide +kernel), List.mem_of_getElem? (i := 959) (by decide +kernel), List.mem_of_getElem? (i := 960) (by decide +kernel)⟩
theorem lw_p33 : lw_okq (⟨"InnChanged$Came", "spread", "(II)V"⟩, 9) := ⟨⟨by decide +kernel, by decide +kernel⟩, List.mem_of_getElem? (i := 319) (by decide +kernel), List.mem_of_getElem? (i := 963) (by decide +kernel), List.mem_of_getElem? (i := 964) (by decide +kernel)⟩
theorem lw_p34 : lw_okq (⟨"InnChanged$Came", "exchanged", "(III)I"⟩, 9) := ⟨⟨by decide +kernel, by decide +kernel⟩, List.mem_of_getElem? (i := 319) (by decide +kernel), List.mem_of_getElem? (i := 968) (by decide +kernel), List.mem_of_getElem? (i := 969) (by decide +kernel)⟩
theorem lw_p35 : lw_okq (⟨"InnChanged$Came", "shiftOf", "(I)I"⟩, 9) := ⟨⟨by decide +kernel, by decide +kernel⟩, List.mem_of_getElem? (i := 319) (by decide +kernel), List.mem_of_getElem? (i := 972) (by decide +kernel), List.mem_of_getElem? (i := 973) (by decide +kernel)⟩
theorem lw_p36 : lw_okq (⟨"InnChanged$Came", "indexOf", "(I)I"⟩, 9) := ⟨⟨by decide +kernel, by decide +kernel⟩, List.mem_of_getElem? (i := 319) (by decide +kernel), List.mem_of_getElem? (i := 976) (by decide +kernel), List.mem_of_getElem? (i := 977) (by decide +kernel)⟩
theorem lw_p37 : lw_okq (⟨"InnChanged$Came", "isFit", "(I)Z"⟩, 9) := ⟨⟨by decide +kernel, by decide +kernel⟩, List.mem_of_getElem? (i := 319) (by decide +kernel), List.mem_of_getElem? (i := 982) (by decide +kernel), List.mem_of_getElem? (i := 983) (by decide +kernel)⟩
theorem lw_p38 : lw_okq (⟨"InnChangedModel", "isRead", "()Z"⟩, 29) := ⟨⟨by decide +kernel, by decide +kernel⟩, List.mem_of_getElem? (i := 998) (by decide +kernel), List.mem_of_getElem? (i := 1107) (by decide +kernel), List.mem_of_getElem? (i := 1108) (by decide +kernel)⟩
theorem lw_p39 : lw_okq (⟨"InnChangedModel", "isLine", "(I)Z"⟩, 29) := ⟨⟨by decide +kernel, by decide +kernel⟩, List.mem_of_getElem? (i := 998) (by decide +kernel), List.mem_of_getElem? (i := 1111) (by decide +kernel), List.mem_of_getElem? (i := 1112) (by decide +kernel)⟩
theorem lw_p40 : lw_okq (⟨"InnChangedModel", "nextToken", "()V"⟩, 29) := ⟨⟨by decide +kernel, by decide +kernel⟩, List.mem_of_getElem? (i := 998) (by decide +kernel), List.mem_of_getElem? (i := 1115) (by decide +kernel), List.mem_of_getElem? (i := 1116) (by decide +kernel)⟩
theorem lw_p41 : lw_okq (⟨"InnChangedModel", "isPersonLine", "()Z"⟩, 29) := ⟨⟨by decide +kernel, by decide +kernel⟩, List.mem_of_getElem? (i := 998) (by decide +kernel), List.mem_of_getElem? (i := 1136) (by decide +kernel), List.mem_of_getElem? (i := 1137) (by decide +kernel)⟩
theorem lw_p42 : lw_okq (⟨"InnChangedModel", "fails", "()Z"⟩, 29) := ⟨⟨by decide +kernel, by decide +kernel⟩, List.mem_of_getElem? (i := 998) (by decide +kernel), List.mem_of_getElem? (i := 1140) (by decide +kernel), List.mem_of_getElem? (i := 1141) (by decide +kernel)⟩
theorem lw_p43 : lw_okq (⟨"InnChangedModel", "isThingLine", "(I)Z"⟩, 29) := ⟨⟨by decide +kernel, by decide +kernel⟩, List.mem_of_getElem? (i := 998) (by decide +kernel), List.mem_of_getElem? (i := 1144) (by decide +kernel), List.mem_of_getElem? (i := 1145) (by decide +kernel)⟩
theorem lw_p44 : lw_okq (⟨"InnChangedModel", "isNumber", "(II)Z"⟩, 29) := ⟨⟨by decide +kernel, by decide +kernel⟩, List.mem_of_getElem? (i := 998) (by decide +kernel), List.mem_of_getElem? (i := 1148) (by decide +kernel), List.mem_of_getElem? (i := 1149) (by decide +kernel)⟩
theorem lw_p45 : lw_okq (⟨"InnChangedModel", "isNightLine", "(I)Z"⟩, 29) := ⟨⟨by decide +kernel, by decide +kernel⟩, List.mem_of_getElem? (i := 998) (by decide +kernel), List.mem_of_getElem? (i := 1152) (by decide +kernel), List.mem_of_getElem? (i := 1153) (by decide +kernel)⟩
theorem lw_p46 : lw_okq (⟨"InnChangedModel", "doLine", "(I)V"⟩, 29) := ⟨⟨by decide +kernel, by decide +kernel⟩, List.mem_of_getElem? (i := 998) (by decide +kernel), List.mem_of_getElem? (i := 1160) (by decide +kernel), List.mem_of_getElem? (i := 1161) (by decide +kernel)⟩
theorem lw_p47 : lw_okq (⟨"InnChangedModel", "isOne", "(I)Z"⟩, 29) := ⟨⟨by decide +kernel, by decide +kernel⟩, List.mem_of_getElem? (i := 998) (by decide +kernel), List.mem_of_getElem? (i := 1168) (by decide +kernel), List.mem_of_getElem? (i := 1169) (by decide +kernel)⟩
def lw_privs_3 : List (MethodName × Nat) := [(⟨"InnChanged$Came", "goOn", "()V"⟩, 9), (⟨"InnChanged$Came", "spread", "(II)V"⟩, 9), (⟨"InnChanged$Came", "exchanged", "(III)I"⟩, 9), (⟨"InnChanged$Came", "shiftOf", "(I)I"⟩, 9), (⟨"InnChanged$Came", "indexOf", "(I)I"⟩, 9), (⟨"InnChanged$Came", "isFit", "(I)Z"⟩, 9), (⟨"InnChangedModel", "isRead", "()Z"⟩, 29), (⟨"InnChangedModel", "isLine", "(I)Z"⟩, 29), (⟨"InnChangedModel", "nextToken", "()V"⟩, 29), (⟨"InnChangedModel", "isPersonLine", "()Z"⟩, 29), (⟨"InnChangedModel", "fails", "()Z"⟩, 29), (⟨"InnChangedModel", "isThingLine", "(I)Z"⟩, 29), (⟨"InnChangedModel", "isNumber", "(II)Z"⟩, 29), (⟨"InnChangedModel", "isNightLine", "(I)Z"⟩, 29), (⟨"InnChangedModel", "doLine", "(I)V"⟩, 29), (⟨"InnChangedModel", "isOne", "(I)Z"⟩, 29)]
theorem lw_r3 : ∀ q ∈ lw_privs_3, lw_okq q := List.forall_mem_cons.mpr ⟨lw_p32, List.forall_mem_cons.mpr ⟨lw_p33, List.forall_mem_cons.mpr ⟨lw_p34, List.forall_mem_cons.mpr ⟨lw_p35, List.forall_mem_cons.mpr ⟨lw_p36, List.forall_mem_cons.mpr ⟨lw_p37, List.forall_mem_cons.mpr ⟨lw_p38, List.forall_mem_cons.mpr ⟨lw_p39, List.forall_mem_cons.mpr ⟨lw_p40, List.forall_mem_cons.mpr ⟨lw_p41, List.forall_mem_cons.mpr ⟨lw_p42, List.forall_mem_cons.mpr ⟨lw_p43, List.forall_mem_cons.mpr ⟨lw_p44, List.forall_mem_cons.mpr ⟨lw_p45, List.forall_mem_cons.mpr ⟨lw_p46, List.forall_mem_cons.mpr ⟨lw_p47, fun _ h => absurd h List.not_mem_nil⟩⟩⟩⟩⟩⟩⟩⟩⟩⟩⟩⟩⟩⟩⟩⟩
theorem lw_p48 : lw_okq (⟨"InnChangedModel", "keeperOf", "(I)I"⟩, 29) := ⟨⟨by decide +kernel, by decide +kernel⟩, List.mem_of_getElem? (i := 998) (by decide +kernel), List.mem_of_getElem? (i := 1172) (by decide +kernel), List.mem_of_getElem? (i := 1173) (by decide +kernel)⟩
theorem lw_p49 : lw_okq (⟨"InnChangedModel", "nightsOf", "(I)I"⟩, 29) := ⟨⟨by decide +kernel, by decide +kernel⟩, List.mem_of_getElem? (i := 998) (by decide +kernel), List.mem_of_getElem? (i := 1176) (by decide +kernel), List.mem_of_getElem? (i := 1177) (by decide +kernel)⟩
theorem lw_p50 : lw_okq (⟨"InnChangedModel", "isPlace", "(I)Z"⟩, 29) := ⟨⟨by decide +kernel, by decide +kernel⟩, List.mem_of_getElem? (i := 998) (by decide +kernel), List.mem_of_getElem? (i := 1191) (by decide +kernel), List.mem_of_getElem? (i := 1192) (by decide +kernel)⟩
theorem lw_p51 : lw_okq (⟨"InnChangedModel", "kindOf", "(I)I"⟩, 29) := ⟨⟨by decide +kernel, by decide +kernel⟩, List.mem_of_getElem? (i := 998) (by decide +kernel), List.mem_of_getElem? (i := 1195) (by decide +kernel), List.mem_of_getElem? (i := 1196) (by decide +kernel)⟩
theorem lw_p52 : lw_okq (⟨"InnChangedModel", "lookOf", "(I)I"⟩, 29) := ⟨⟨by decide +kernel, by decide +kernel⟩, List.mem_of_getElem? (i := 998) (by decide +kernel), List.mem_of_getElem? (i := 1199) (by decide +kernel), List.mem_of_getElem? (i := 1200) (by decide +kernel)⟩
theorem lw_p53 : lw_okq (⟨"InnChangedModel", "wordOf", "(I)I"⟩, 29) := ⟨⟨by decide +kernel, by decide +kernel⟩, List.mem_of_getElem? (i := 998) (by decide +kernel), List.mem_of_getElem? (i := 1203) (by decide +kernel), List.mem_of_getElem? (i := 1204) (by decide +kernel)⟩
theorem lw_p54 : lw_okq (⟨"InnChangedModel", "whereIs", "(I)I"⟩, 29) := ⟨⟨by decide +kernel, by decide +kernel⟩, List.mem_of_getElem? (i := 998) (by decide +kernel), List.mem_of_getElem? (i := 1207) (by decide +kernel), List.mem_of_getElem? (i := 1208) (by decide +kernel)⟩
theorem lw_p55 : lw_okq (⟨"InnChangedModel", "works", "(III)Z"⟩, 29) := ⟨⟨by decide +kernel, by decide +kernel⟩, List.mem_of_getElem? (i := 998) (by decide +kernel), List.mem_of_getElem? (i := 1215) (by decide +kernel), List.mem_of_getElem? (i := 1216) (by decide +kernel)⟩
theorem lw_p56 : lw_okq (⟨"InnChangedModel", "isKeptBy", "(II)Z"⟩, 29) := ⟨⟨by decide +kernel, by decide +kernel⟩, List.mem_of_getElem? (i := 998) (by decide +kernel), List.mem_of_getElem? (i := 1219) (by decide +kernel), List.mem_of_getElem? (i := 1220) (by decide +kernel)⟩
theorem lw_p57 : lw_okq (⟨"InnChangedModel", "mayBe", "(III)Z"⟩, 29) := ⟨⟨by decide +kernel, by decide +kernel⟩, List.mem_of_getElem? (i := 998) (by decide +kernel), List.mem_of_getElem? (i := 1231) (by decide +kernel), List.mem_of_getElem? (i := 1232) (by decide +kernel)⟩
theorem lw_p58 : lw_okq (⟨"InnChangedModel", "isOpen", "(II)Z"⟩, 29) := ⟨⟨by decide +kernel, by decide +kernel⟩, List.mem_of_getElem? (i := 998) (by decide +kernel), List.mem_of_getElem? (i := 1235) (by decide +kernel), List.mem_of_getElem? (i := 1236) (by decide +kernel)⟩
theorem lw_p59 : lw_okq (⟨"InnChangedModel", "layPlan", "()V"⟩, 29) := ⟨⟨by decide +kernel, by decide +kernel⟩, List.mem_of_getElem? (i := 998) (by decide +kernel), List.mem_of_getElem? (i := 1271) (by decide +kernel), List.mem_of_getElem? (i := 1272) (by decide +kernel)⟩
theorem lw_p60 : lw_okq (⟨"InnChangedModel", "rowMany", "()I"⟩, 29) := ⟨⟨by decide +kernel, by decide +kernel⟩, List.mem_of_getElem? (i := 998) (by decide +kernel), List.mem_of_getElem? (i := 1275) (by decide +kernel), List.mem_of_getElem? (i := 1276) (by decide +kernel)⟩
theorem lw_p61 : lw_okq (⟨"InnChangedModel", "lay", "(I)V"⟩, 29) := ⟨⟨by decide +kernel, by decide +kernel⟩, List.mem_of_getElem? (i := 998) (by decide +kernel), List.mem_of_getElem? (i := 1279) (by decide +kernel), List.mem_of_getElem? (i := 1280) (by decide +kernel)⟩
theorem lw_p62 : lw_okq (⟨"InnChangedModel", "isLawful", "()Z"⟩, 29) := ⟨⟨by decide +kernel, by decide +kernel⟩, List.mem_of_getElem? (i := 998) (by decide +kernel), List.mem_of_getElem? (i := 1283) (by decide +kernel), List.mem_of_getElem? (i := 1284) (by decide +kernel)⟩
theorem lw_p63 : lw_okq (⟨"InnChangedModel", "by", "(III)I"⟩, 29) := ⟨⟨by decide +kernel, by decide +kernel⟩, List.mem_of_getElem? (i := 998) (by decide +kernel), List.mem_of_getElem? (i := 1287) (by decide +kernel), List.mem_of_getElem? (i := 1288) (by decide +kernel)⟩
def lw_privs_4 : List (MethodName × Nat) := [(⟨"InnChangedModel", "keeperOf", "(I)I"⟩, 29), (⟨"InnChangedModel", "nightsOf", "(I)I"⟩, 29), (⟨"InnChangedModel", "isPlace", "(I)Z"⟩, 29), (⟨"InnChangedModel", "kindOf", "(I)I"⟩, 29), (⟨"InnChangedModel", "lookOf", "(I)I"⟩, 29), (⟨"InnChangedModel", "wordOf", "(I)I"⟩, 29), (⟨"InnChangedModel", "whereIs", "(I)I"⟩, 29), (⟨"InnChangedModel", "works", "(III)Z"⟩, 29), (⟨"InnChangedModel", "isKeptBy", "(II)Z"⟩, 29), (⟨"InnChangedModel", "mayBe", "(III)Z"⟩, 29), (⟨"InnChangedModel", "isOpen", "(II)Z"⟩, 29), (⟨"InnChangedModel", "layPlan", "()V"⟩, 29), (⟨"InnChangedModel", "rowMany", "()I"⟩, 29), (⟨"InnChangedModel", "lay", "(I)V"⟩, 29), (⟨"InnChangedModel", "isLawful", "()Z"⟩, 29), (⟨"InnChangedModel", "by", "(III)I"⟩, 29)]
theorem lw_r4 : ∀ q ∈ lw_privs_4, lw_okq q := List.forall_mem_cons.mpr ⟨lw_p48, List.forall_mem_cons.mpr ⟨lw_p49, List.forall_mem_cons.mpr ⟨lw_p50, List.forall_mem_cons.mpr ⟨lw_p51, List.forall_mem_cons.mpr ⟨lw_p52, List.forall_mem_cons.mpr ⟨lw_p53, List.forall_mem_cons.mpr ⟨lw_p54, List.forall_mem_cons.mpr ⟨lw_p55, List.forall_mem_cons.mpr ⟨lw_p56, List.forall_mem_cons.mpr ⟨lw_p57, List.forall_mem_cons.mpr ⟨lw_p58, List.forall_mem_cons.mpr ⟨lw_p59, List.forall_mem_cons.mpr ⟨lw_p60, List.forall_mem_cons.mpr ⟨lw_p61, List.forall_mem_cons.mpr ⟨lw_p62, List.forall_mem_cons.mpr ⟨lw_p63, fun _ h => absurd h List.not_mem_nil⟩⟩⟩⟩⟩⟩⟩⟩⟩⟩⟩⟩⟩⟩⟩⟩
theorem lw_p64 : lw_okq (⟨"InnChangedModel", "exchange", "(II)V"⟩, 29) := ⟨⟨by decide +kernel, by decide +kernel⟩, List.mem_of_getElem? (i := 998) (by decide +kernel), List.mem_of_getElem? (i := 1291) (by decide +kernel), List.mem_of_getElem? (i := 1292) (by decide +kernel)⟩
theorem lw_p65 : lw_okq (⟨"InnChangedModel", "rowOf", "()I"⟩, 29) := ⟨⟨by decide +kernel, by decide +kernel⟩, List.mem_of_getElem? (i := 998) (by decide +kernel), List.mem_of_getElem? (i := 1295) (by decide +kernel), List.mem_of_getElem? (i := 1296) (by decide +kernel)⟩
theorem lw_p66 : lw_okq (⟨"InnChangedModel", "layNow", "()V"⟩, 29) := ⟨⟨by decide +kernel, by decide +kernel⟩, List.mem_of_getElem? (i := 998) (by decide +kernel), List.mem_of_getElem? (i := 1299) (by decide +kernel), List.mem_of_getElem? (i := 1300) (by decide +kernel)⟩
theorem lw_p67 : lw_okq (⟨"InnChangedModel", "layFitting", "()V"⟩, 29) := ⟨⟨by decide +kernel, by decide +kernel⟩, List.mem_of_getElem? (i := 998) (by decide +kernel), List.mem_of_getElem? (i := 1319) (by decide +kernel), List.mem_of_getElem? (i := 1320) (by decide +kernel)⟩
theorem lw_p68 : lw_okq (⟨"InnChangedModel", "isAsSeen", "()Z"⟩, 29) := ⟨⟨by decide +kernel, by decide +kernel⟩, List.mem_of_getElem? (i := 998) (by decide +kernel), List.mem_of_getElem? (i := 1323) (by decide +kernel), List.mem_of_getElem? (i := 1324) (by decide +kernel)⟩
theorem lw_p69 : lw_okq (⟨"InnChangedModel", "liesIn", "(I)I"⟩, 29) := ⟨⟨by decide +kernel, by decide +kernel⟩, List.mem_of_getElem? (i := 998) (by decide +kernel), List.mem_of_getElem? (i := 1331) (by decide +kernel), List.mem_of_getElem? (i := 1332) (by decide +kernel)⟩
theorem lw_p70 : lw_okq (⟨"InnChangedModel", "layAnswers", "()V"⟩, 29) := ⟨⟨by decide +kernel, by decide +kernel⟩, List.mem_of_getElem? (i := 998) (by decide +kernel), List.mem_of_getElem? (i := 1351) (by decide +kernel), List.mem_of_getElem? (i := 1352) (by decide +kernel)⟩
theorem lw_p71 : lw_okq (⟨"InnChangedModel", "leastOf", "(I)I"⟩, 29) := ⟨⟨by decide +kernel, by decide +kernel⟩, List.mem_of_getElem? (i := 998) (by decide +kernel), List.mem_of_getElem? (i := 1355) (by decide +kernel), List.mem_of_getElem? (i := 1356) (by decide +kernel)⟩
theorem lw_p72 : lw_okq (⟨"InnChangedModel", "parts", "(I)Z"⟩, 29) := ⟨⟨by decide +kernel, by decide +kernel⟩, List.mem_of_getElem? (i := 998) (by decide +kernel), List.mem_of_getElem? (i := 1359) (by decide +kernel), List.mem_of_getElem? (i := 1360) (by decide +kernel)⟩
theorem lw_p73 : lw_okq (⟨"InnChangedModel", "layCame", "()V"⟩, 29) := ⟨⟨by decide +kernel, by decide +kernel⟩, List.mem_of_getElem? (i := 998) (by decide +kernel), List.mem_of_getElem? (i := 1367) (by decide +kernel), List.mem_of_getElem? (i := 1368) (by decide +kernel)⟩
def lw_privs_5 : List (MethodName × Nat) := [(⟨"InnChangedModel", "exchange", "(II)V"⟩, 29), (⟨"InnChangedModel", "rowOf", "()I"⟩, 29), (⟨"InnChangedModel", "layNow", "()V"⟩, 29), (⟨"InnChangedModel", "layFitting", "()V"⟩, 29), (⟨"InnChangedModel", "isAsSeen", "()Z"⟩, 29), (⟨"InnChangedModel", "liesIn", "(I)I"⟩, 29), (⟨"InnChangedModel", "layAnswers", "()V"⟩, 29), (⟨"InnChangedModel", "leastOf", "(I)I"⟩, 29), (⟨"InnChangedModel", "parts", "(I)Z"⟩, 29), (⟨"InnChangedModel", "layCame", "()V"⟩, 29)]
theorem lw_r5 : ∀ q ∈ lw_privs_5, lw_okq q := List.forall_mem_cons.mpr ⟨lw_p64, List.forall_mem_cons.mpr ⟨lw_p65, List.forall_mem_cons.mpr ⟨lw_p66, List.forall_mem_cons.mpr ⟨lw_p67, List.forall_mem_cons.mpr ⟨lw_p68, List.forall_mem_cons.mpr ⟨lw_p69, List.forall_mem_cons.mpr ⟨lw_p70, List.forall_mem_cons.mpr ⟨lw_p71, List.forall_mem_cons.mpr ⟨lw_p72, List.forall_mem_cons.mpr ⟨lw_p73, fun _ h => absurd h List.not_mem_nil⟩⟩⟩⟩⟩⟩⟩⟩⟩⟩
def lw_privs : List (MethodName × Nat) := lw_privs_1 ++ (lw_privs_2 ++ (lw_privs_3 ++ (lw_privs_4 ++ (lw_privs_5))))
def lw_tbl : List Cond := k2_sels lw_privs ++ tables_1
theorem lw_privs_ok : ∀ q ∈ lw_privs, lw_okq q := by
  show ∀ q ∈ lw_privs_1 ++ (lw_privs_2 ++ (lw_privs_3 ++ (lw_privs_4 ++ (lw_privs_5)))), lw_okq q
  exact List.forall_mem_append.mpr ⟨lw_r1, List.forall_mem_append.mpr ⟨lw_r2, List.forall_mem_append.mpr ⟨lw_r3, List.forall_mem_append.mpr ⟨lw_r4, lw_r5⟩⟩⟩⟩
end
section
abbrev AOp : Type := Nat × Nat × Nat × Nat × Int × List (Int × Nat)
def ax_T0 : u_T := fun k => match k with
  | 0 => ("InnChanged$Apart", "told", "LInnChanged$Told;", true)
  | 1 => ("InnChanged$Apart", "now", "LInnChanged$Now;", true)
  | 2 => ("InnChanged$Apart", "fits", "LInnChanged$Fits;", true)
  | 3 => ("InnChanged$Apart", "working", "[I", true)
  | 4 => ("InnChanged$Apart", "alike", "[I", true)
  | 5 => ("InnChanged$Apart", "lying", "[I", true)
  | 6 => ("InnChanged$Apart", "gathered", "I", false)
  | _ => ("InnChanged$Apart", "chosen", "[I", true)
def ax_T1 : u_T := fun k => match k with
  | 0 => ("InnChanged$Came", "told", "LInnChanged$Told;", true)
  | 1 => ("InnChanged$Came", "now", "LInnChanged$Now;", true)
  | 2 => ("InnChanged$Came", "fits", "LInnChanged$Fits;", true)
  | 3 => ("InnChanged$Came", "way", "[I", true)
  | 4 => ("InnChanged$Came", "wayCount", "I", false)
  | 5 => ("InnChanged$Came", "reached", "[I", true)
  | 6 => ("InnChanged$Came", "nights", "I", false)
  | 7 => ("InnChanged$Came", "fewest", "I", false)
  | _ => ("InnChanged$Came", "ways", "I", false)
def ax_T2 : u_T := fun k => match k with
  | 0 => ("InnChanged$Fits", "told", "LInnChanged$Told;", true)
  | 1 => ("InnChanged$Fits", "now", "LInnChanged$Now;", true)
  | 2 => ("InnChanged$Fits", "seen", "LInnChanged$Seen;", true)
  | 3 => ("InnChanged$Fits", "allowed", "[I", true)
  | 4 => ("InnChanged$Fits", "head", "[I", true)
  | 5 => ("InnChanged$Fits", "tail", "[I", true)
  | 6 => ("InnChanged$Fits", "lying", "[I", true)
  | _ => ("InnChanged$Fits", "all", "I", false)
def ax_T3 : u_T := fun k => match k with
  | 0 => ("InnChanged$Mend", "told", "LInnChanged$Told;", true)
  | 1 => ("InnChanged$Mend", "now", "LInnChanged$Now;", true)
  | 2 => ("InnChanged$Mend", "lesser", "[I", true)
  | 3 => ("InnChanged$Mend", "other", "[I", true)
  | _ => ("InnChanged$Mend", "lying", "[I", true)
def ax_T4 : u_T := fun k => match k with
  | 0 => ("InnChanged$Now", "told", "LInnChanged$Told;", true)
  | 1 => ("InnChanged$Now", "passed", "I", false)
  | 2 => ("InnChanged$Now", "changes", "I", false)
  | 3 => ("InnChanged$Now", "known", "I", false)
  | 4 => ("InnChanged$Now", "lying", "[I", true)
  | 5 => ("InnChanged$Now", "changesAt", "[I", true)
  | 6 => ("InnChanged$Now", "power", "[I", true)
  | _ => ("InnChanged$Now", "worked", "[I", true)
def ax_T5 : u_T := fun k => match k with
  | 0 => ("InnChanged$Plan", "told", "LInnChanged$Told;", true)
  | 1 => ("InnChanged$Plan", "now", "LInnChanged$Now;", true)
  | 2 => ("InnChanged$Plan", "best", "[[I", true)
  | 3 => ("InnChanged$Plan", "lesser", "[I", true)
  | 4 => ("InnChanged$Plan", "other", "[I", true)
  | 5 => ("InnChanged$Plan", "charms", "I", false)
  | _ => ("InnChanged$Plan", "changes", "I", false)
def ax_T6 : u_T := fun k => match k with
  | 0 => ("InnChanged$Seen", "count", "I", false)
  | 1 => ("InnChanged$Seen", "place", "[I", true)
  | 2 => ("InnChanged$Seen", "word", "[I", true)
  | _ => ("InnChanged$Seen", "worked", "[Z", true)
def ax_T7 : u_T := fun k => match k with
  | 0 => ("InnChanged$Text", "bytes", "[I", true)
  | 1 => ("InnChanged$Text", "length", "I", false)
  | 2 => ("InnChanged$Text", "lineWord", "[I", true)
  | 3 => ("InnChanged$Text", "number", "[I", true)
  | 4 => ("InnChanged$Text", "lines", "I", false)
  | 5 => ("InnChanged$Text", "from", "I", false)
  | 6 => ("InnChanged$Text", "to", "I", false)
  | 7 => ("InnChanged$Text", "people", "I", false)
  | 8 => ("InnChanged$Text", "things", "I", false)
  | _ => ("InnChanged$Text", "nights", "I", false)
def ax_T8 : u_T := fun k => match k with
  | 0 => ("InnChanged$Told", "people", "I", false)
  | 1 => ("InnChanged$Told", "things", "I", false)
  | 2 => ("InnChanged$Told", "nights", "I", false)
  | 3 => ("InnChanged$Told", "oneKind", "[I", true)
  | 4 => ("InnChanged$Told", "thingKind", "[I", true)
  | 5 => ("InnChanged$Told", "look", "[I", true)
  | 6 => ("InnChanged$Told", "word", "[I", true)
  | 7 => ("InnChanged$Told", "power", "[I", true)
  | 8 => ("InnChanged$Told", "keeper", "[I", true)
  | _ => ("InnChanged$Told", "sleepers", "[I", true)
def ax_T9 : u_T := fun k => match k with
  | 0 => ("InnChanged", "text", "LInnChanged$Text;", true)
  | 1 => ("InnChanged", "told", "LInnChanged$Told;", true)
  | 2 => ("InnChanged", "now", "LInnChanged$Now;", true)
  | 3 => ("InnChanged", "kept", "[LInnChanged$Now;", true)
  | 4 => ("InnChanged", "keptBits", "I", false)
  | 5 => ("InnChanged", "seen", "LInnChanged$Seen;", true)
  | 6 => ("InnChanged", "mend", "LInnChanged$Mend;", true)
  | 7 => ("InnChanged", "plan", "LInnChanged$Plan;", true)
  | 8 => ("InnChanged", "fits", "LInnChanged$Fits;", true)
  | 9 => ("InnChanged", "apart", "LInnChanged$Apart;", true)
  | _ => ("InnChanged", "came", "LInnChanged$Came;", true)
def ax_T10 : u_T := fun k => match k with
  | 0 => ("InnChangedModel", "people", "I", false)
  | 1 => ("InnChangedModel", "person", "[I", true)
  | 2 => ("InnChangedModel", "things", "I", false)
  | 3 => ("InnChangedModel", "thing", "[I", true)
  | 4 => ("InnChangedModel", "nights", "I", false)
  | 5 => ("InnChangedModel", "night", "[I", true)
  | 6 => ("InnChangedModel", "bytes", "I", false)
  | 7 => ("InnChangedModel", "text", "[I", true)
  | 8 => ("InnChangedModel", "position", "I", false)
  | 9 => ("InnChangedModel", "tokenAt", "I", false)
  | 10 => ("InnChangedModel", "token", "J", false)
  | 11 => ("InnChangedModel", "digits", "I", false)
  | 12 => ("InnChangedModel", "number", "I", false)
  | 13 => ("InnChangedModel", "faultAt", "I", false)
  | 14 => ("InnChangedModel", "readMany", "I", false)
  | 15 => ("InnChangedModel", "readPeople", "I", false)
  | 16 => ("InnChangedModel", "readThings", "I", false)
  | 17 => ("InnChangedModel", "readNights", "I", false)
  | 18 => ("InnChangedModel", "read", "[I", true)
  | 19 => ("InnChangedModel", "now", "[I", true)
  | 20 => ("InnChangedModel", "image", "[I", true)
  | 21 => ("InnChangedModel", "isKept", "[Z", true)
  | 22 => ("InnChangedModel", "sights", "I", false)
  | 23 => ("InnChangedModel", "sight", "[I", true)
  | 24 => ("InnChangedModel", "lying", "[I", true)
  | 25 => ("InnChangedModel", "fitting", "[I", true)
  | 26 => ("InnChangedModel", "fits", "I", false)
  | 27 => ("InnChangedModel", "value", "[I", true)
  | _ => ("InnChangedModel", "answers", "[I", true)
abbrev ax_cl : List vw_C := [("InnChanged$Apart", ax_T0, 8), ("InnChanged$Came", ax_T1, 9), ("InnChanged$Fits", ax_T2, 8), ("InnChanged$Mend", ax_T3, 5), ("InnChanged$Now", ax_T4, 8), ("InnChanged$Plan", ax_T5, 7), ("InnChanged$Seen", ax_T6, 4), ("InnChanged$Text", ax_T7, 10), ("InnChanged$Told", ax_T8, 10), ("InnChanged", ax_T9, 11), ("InnChangedModel", ax_T10, 29)]
def ax_cdL : List (Nat × Nat × List Nat) := [(0, 9, [3, 4, 5, 6, 0, 9, 10, 11, 12, 13, 14]), (0, 7, [15, 0, 16, 17, 0, 0, 0, 0, 0, 0]), (0, 8, [0, 0, 0, 18, 19, 20, 21, 22, 23, 24]), (0, 4, [4, 0, 0, 0, 25, 26, 27, 28]), (3, 2, [5, 6]), (0, 4, [4, 0, 0, 0, 29, 30, 31, 32]), (0, 4, [4, 0, 0, 0, 33, 34, 35, 36]), (0, 6, [0, 37, 38, 39]), (0, 3, [4, 5, 40, 41, 42]), (0, 5, [4, 5, 43, 51, 52, 0, 0]), (0, 2, [4, 5, 9, 53, 54, 55, 56, 0]), (0, 0, [4, 5, 12, 57, 58, 59, 0, 60]), (0, 1, [4, 5, 12, 61, 0, 62, 0, 0, 0]), (1, 160, []), (1, 14, []), (1, 56, []), (1, 5, []), (1, 6, []), (1, 6, []), (1, 6, []), (1, 6, []), (1, 6, []), (1, 6, []), (1, 6, []), (1, 6, []), (1, 6, []), (1, 6, []), (1, 6, []), (1, 6, []), (1, 6, []), (1, 6, []), (1, 6, []), (1, 6, []), (1, 6, []), (1, 6, []), (1, 10, []), (1, 10, []), (2, 10, []), (1, 6, []), (1, 6, []), (1, 6, []), (4, 7, [64]), (1, 64, []), (1, 64, []), (1, 64, []), (1, 64, []), (1, 64, []), (1, 64, []), (1, 64, []), (1, 6, []), (1, 6, []), (1, 6, []), (1, 64, []), (1, 64, []), (1, 36, []), (1, 24, []), (1, 32, []), (1, 6, []), (1, 4, []), (1, 720, []), (1, 720, []), (0, 10, [0, 64, 0, 65, 0, 66, 0, 67, 0, 0, 1, 0, 0, 0, 0, 0, 0, 0, 68, 69, 70, 71, 0, 72, 73, 74, 0, 75, 76]), (1, 5, []), (1, 30, []), (1, 6, []), (1, 160, []), (1, 70, []), (1, 27, []), (1, 54, []), (2, 2, []), (1, 30, []), (1, 6, []), (1, 720, []), (1, 5040, []), (1, 720, [])]
def ax_NX : Nat := 61
def ax_NMc : Nat := 14
def ax_KX : Nat := 126
def ax_K : Nat := 193
def ax_strI : List Nat := [87, 89, 91, 93, 95, 97, 99, 101, 103, 105, 107, 109, 111, 113, 115, 117, 119]
def ax_strT : List String := ["inn", "guest", "watcher", "lender", "host", "dull", "true", "fading", "moody", "night", "power", "LK", "LKW", "LKWP", "S", "IP", ""]
def ax_strN : List Nat := [3, 5, 7, 6, 4, 4, 4, 6, 5, 5, 5, 2, 3, 4, 1, 2, 0]
def ax_strB : List (List Int) := [[105, 110, 110], [103, 117, 101, 115, 116], [119, 97, 116, 99, 104, 101, 114], [108, 101, 110, 100, 101, 114], [104, 111, 115, 116], [100, 117, 108, 108], [116, 114, 117, 101], [102, 97, 100, 105, 110, 103], [109, 111, 111, 100, 121], [110, 105, 103, 104, 116], [112, 111, 119, 101, 114], [76, 75], [76, 75, 87], [76, 75, 87, 80], [83], [73, 80], []]
def ax_staN : List String := ["OVER_ONE", "OVER_THING", "THING_STANDS"]
def ax_staV : List (List Int) := [[-1, 0, 1, 1, 0], [-1, 0, 0, 2, 2, 3], [1, 3, 4, 5]]
def ac_X_write : List AOp := [(3, 1, 0, 0, 0, []), (31, 5, 0, 0, 10, []), (3, 1, 0, 0, 0, []), (0, 2, 0, 0, 255, []), (40, 7, 0, 0, 6, []), (0, 1, 0, 0, (-3), []), (53, 0, 0, 0, 0, []), (4, 0, 0, 0, 0, []), (44, 10, 9, 0, 428, []), (3, 1, 0, 0, 0, []), (56, 88, 1, 1, 0, [(0, 466), (0, 467), (0, 468), (0, 76)]), (29, 16, 0, 0, 13, []), (4, 0, 0, 0, 0, []), (44, 10, 9, 0, 428, []), (44, 92, 7, 1, 111, []), (41, 17, 0, 0, 5, []), (0, 1, 0, 0, (-5), []), (53, 0, 0, 0, 0, [])]
def ac_Text_append : List AOp := [(4, 0, 0, 0, 0, []), (44, 21, 7, 1, 110, []), (0, 2, 0, 0, 160, []), (37, 6, 0, 0, 5, []), (0, 0, 0, 0, 0, []), (53, 0, 0, 0, 0, []), (4, 0, 0, 0, 0, []), (44, 9, 7, 0, 109, []), (4, 0, 0, 0, 0, []), (44, 21, 7, 1, 110, []), (3, 1, 0, 0, 0, []), (48, 0, 0, 0, 0, []), (4, 0, 0, 0, 0, []), (26, 0, 0, 0, 0, []), (44, 21, 7, 1, 110, []), (0, 0, 0, 0, 1, []), (8, 0, 0, 0, 0, []), (45, 21, 7, 1, 110, []), (0, 0, 0, 0, 1, []), (53, 0, 0, 0, 0, [])]
def ac_X_erase : List AOp := [(4, 0, 0, 0, 0, []), (44, 10, 9, 0, 428, []), (44, 92, 7, 1, 111, []), (5, 1, 0, 0, 0, []), (4, 0, 0, 0, 0, []), (44, 10, 9, 0, 428, []), (0, 0, 0, 0, 0, []), (45, 92, 7, 1, 111, []), (3, 1, 0, 0, 0, []), (53, 0, 0, 0, 0, [])]
def ac_X_fault : List AOp := [(4, 0, 0, 0, 0, []), (44, 10, 9, 0, 428, []), (4, 0, 0, 0, 0, []), (44, 19, 9, 1, 429, []), (44, 95, 8, 0, 151, []), (4, 0, 0, 0, 0, []), (44, 19, 9, 1, 429, []), (44, 98, 8, 1, 159, []), (4, 0, 0, 0, 0, []), (44, 19, 9, 1, 429, []), (44, 101, 8, 2, 162, []), (56, 104, 4, 3, 0, [(0, 478), (0, 479), (0, 480), (0, 76)]), (53, 0, 0, 0, 0, [])]
def ac_Text_read : List AOp := [(4, 0, 0, 0, 0, []), (3, 1, 0, 0, 0, []), (45, 25, 7, 7, 119, []), (4, 0, 0, 0, 0, []), (3, 2, 0, 0, 0, []), (45, 28, 7, 8, 120, []), (4, 0, 0, 0, 0, []), (3, 3, 0, 0, 0, []), (45, 31, 7, 9, 121, []), (4, 0, 0, 0, 0, []), (0, 0, 0, 0, 0, []), (45, 34, 7, 4, 115, []), (4, 0, 0, 0, 0, []), (0, 0, 0, 0, 0, []), (45, 37, 7, 6, 118, []), (0, 0, 0, 0, 0, []), (5, 4, 1, 0, 0, []), (59, 17, 0, 0, 0, []), (3, 4, 1, 0, 0, []), (0, 1, 0, 0, 14, []), (38, 79, 0, 0, 117, []), (4, 0, 0, 0, 0, []), (56, 40, 5, 0, 0, [(0, 482), (0, 484), (0, 0), (0, 76)]), (4, 0, 0, 0, 0, []), (56, 43, 8, 0, 0, [(0, 492), (0, 494), (0, 1), (0, 76)]), (5, 5, 1, 0, 0, []), (3, 5, 1, 0, 0, []), (0, 0, 0, 0, (-1), []), (35, 33, 0, 0, 12, []), (4, 0, 0, 0, 0, []), (3, 5, 1, 0, 0, []), (56, 47, 18, 1, 0, [(0, 562), (0, 564), (0, 3), (0, 76)]), (30, 36, 0, 0, 8, []), (4, 0, 0, 0, 0, []), (44, 51, 7, 5, 117, []), (53, 0, 0, 0, 0, []), (4, 0, 0, 0, 0, []), (44, 15, 7, 2, 112, []), (3, 4, 1, 0, 0, []), (3, 5, 1, 0, 0, []), (48, 0, 0, 0, 0, []), (4, 0, 0, 0, 0, []), (3, 4, 1, 0, 0, []), (3, 5, 1, 0, 0, []), (57, 54, 21, 1, 1, [(0, 572), (0, 573), (0, 76)]), (56, 58, 22, 2, 0, [(0, 581), (0, 583), (0, 4), (0, 76)]), (30, 50, 0, 0, 8, []), (4, 0, 0, 0, 0, []), (44, 51, 7, 5, 117, []), (53, 0, 0, 0, 0, []), (4, 0, 0, 0, 0, []), (3, 5, 1, 0, 0, []), (56, 62, 25, 1, 0, [(0, 593), (0, 595), (0, 7), (0, 76)]), (4, 0, 0, 0, 0, []), (3, 4, 1, 0, 0, []), (0, 0, 0, 0, 1, []), (8, 0, 0, 0, 0, []), (45, 34, 7, 4, 115, []), (4, 0, 0, 0, 0, []), (56, 40, 5, 0, 0, [(0, 482), (0, 484), (0, 0), (0, 76)]), (4, 0, 0, 0, 0, []), (44, 51, 7, 5, 117, []), (4, 0, 0, 0, 0, []), (44, 21, 7, 1, 110, []), (37, 67, 0, 0, 5, []), (0, 0, 0, 0, (-1), []), (53, 0, 0, 0, 0, []), (4, 0, 0, 0, 0, []), (44, 9, 7, 0, 109, []), (4, 0, 0, 0, 0, []), (44, 51, 7, 5, 117, []), (47, 0, 0, 0, 0, []), (0, 1, 0, 0, 59, []), (35, 77, 0, 0, 8, []), (4, 0, 0, 0, 0, []), (44, 51, 7, 5, 117, []), (53, 0, 0, 0, 0, []), (7, 4, 0, 0, 1, []), (41, 17, 0, 0, (-118), []), (4, 0, 0, 0, 0, []), (44, 51, 7, 5, 117, []), (53, 0, 0, 0, 0, [])]
def ac_Text_step : List AOp := [(4, 0, 0, 0, 0, []), (4, 0, 0, 0, 0, []), (44, 37, 7, 6, 118, []), (45, 51, 7, 5, 117, []), (59, 4, 0, 0, 0, []), (4, 0, 0, 0, 0, []), (44, 51, 7, 5, 117, []), (4, 0, 0, 0, 0, []), (44, 21, 7, 1, 110, []), (38, 24, 0, 0, 30, []), (4, 0, 0, 0, 0, []), (44, 9, 7, 0, 109, []), (4, 0, 0, 0, 0, []), (44, 51, 7, 5, 117, []), (47, 0, 0, 0, 0, []), (0, 1, 0, 0, 32, []), (36, 24, 0, 0, 16, []), (4, 0, 0, 0, 0, []), (26, 0, 0, 0, 0, []), (44, 51, 7, 5, 117, []), (0, 0, 0, 0, 1, []), (8, 0, 0, 0, 0, []), (45, 51, 7, 5, 117, []), (41, 4, 0, 0, (-35), []), (59, 24, 0, 0, 0, []), (4, 0, 0, 0, 0, []), (4, 0, 0, 0, 0, []), (44, 51, 7, 5, 117, []), (45, 37, 7, 6, 118, []), (4, 0, 0, 0, 0, []), (44, 51, 7, 5, 117, []), (4, 0, 0, 0, 0, []), (44, 21, 7, 1, 110, []), (37, 35, 0, 0, 4, []), (54, 0, 0, 0, 0, []), (4, 0, 0, 0, 0, []), (44, 9, 7, 0, 109, []), (4, 0, 0, 0, 0, []), (44, 51, 7, 5, 117, []), (47, 0, 0, 0, 0, []), (57, 66, 6, 1, 1, [(0, 486), (0, 487), (0, 76)]), (29, 62, 0, 0, 42, []), (59, 42, 0, 0, 0, []), (4, 0, 0, 0, 0, []), (44, 37, 7, 6, 118, []), (4, 0, 0, 0, 0, []), (44, 21, 7, 1, 110, []), (38, 95, 0, 0, 95, []), (4, 0, 0, 0, 0, []), (44, 9, 7, 0, 109, []), (4, 0, 0, 0, 0, []), (44, 37, 7, 6, 118, []), (47, 0, 0, 0, 0, []), (57, 66, 6, 1, 1, [(0, 486), (0, 487), (0, 76)]), (29, 95, 0, 0, 80, []), (4, 0, 0, 0, 0, []), (26, 0, 0, 0, 0, []), (44, 37, 7, 6, 118, []), (0, 0, 0, 0, 1, []), (8, 0, 0, 0, 0, []), (45, 37, 7, 6, 118, []), (41, 42, 0, 0, (-36), []), (4, 0, 0, 0, 0, []), (44, 9, 7, 0, 109, []), (4, 0, 0, 0, 0, []), (44, 51, 7, 5, 117, []), (47, 0, 0, 0, 0, []), (57, 69, 7, 1, 1, [(0, 489), (0, 490), (0, 76)]), (29, 89, 0, 0, 42, []), (59, 69, 0, 0, 0, []), (4, 0, 0, 0, 0, []), (44, 37, 7, 6, 118, []), (4, 0, 0, 0, 0, []), (44, 21, 7, 1, 110, []), (38, 95, 0, 0, 41, []), (4, 0, 0, 0, 0, []), (44, 9, 7, 0, 109, []), (4, 0, 0, 0, 0, []), (44, 37, 7, 6, 118, []), (47, 0, 0, 0, 0, []), (57, 69, 7, 1, 1, [(0, 489), (0, 490), (0, 76)]), (29, 95, 0, 0, 26, []), (4, 0, 0, 0, 0, []), (26, 0, 0, 0, 0, []), (44, 37, 7, 6, 118, []), (0, 0, 0, 0, 1, []), (8, 0, 0, 0, 0, []), (45, 37, 7, 6, 118, []), (41, 69, 0, 0, (-36), []), (4, 0, 0, 0, 0, []), (26, 0, 0, 0, 0, []), (44, 37, 7, 6, 118, []), (0, 0, 0, 0, 1, []), (8, 0, 0, 0, 0, []), (45, 37, 7, 6, 118, []), (54, 0, 0, 0, 0, [])]
def ac_Text_isLetter : List AOp := [(3, 0, 0, 0, 0, []), (0, 1, 0, 0, 97, []), (37, 8, 0, 0, 13, []), (3, 0, 0, 0, 0, []), (0, 1, 0, 0, 122, []), (39, 8, 0, 0, 7, []), (0, 0, 0, 0, 1, []), (41, 9, 0, 0, 4, []), (0, 0, 0, 0, 0, []), (53, 0, 0, 0, 0, [])]
def ac_Text_isDigit : List AOp := [(3, 0, 0, 0, 0, []), (0, 1, 0, 0, 48, []), (37, 8, 0, 0, 13, []), (3, 0, 0, 0, 0, []), (0, 1, 0, 0, 57, []), (39, 8, 0, 0, 7, []), (0, 0, 0, 0, 1, []), (41, 9, 0, 0, 4, []), (0, 0, 0, 0, 0, []), (53, 0, 0, 0, 0, [])]
def ac_Text_wordHere : List AOp := [(0, 0, 0, 0, 0, []), (5, 1, 0, 0, 0, []), (59, 2, 0, 0, 0, []), (3, 1, 0, 0, 0, []), (0, 1, 0, 0, 11, []), (38, 15, 0, 0, 22, []), (4, 0, 0, 0, 0, []), (3, 1, 0, 0, 0, []), (57, 72, 9, 1, 1, [(0, 496), (0, 497), (0, 76)]), (56, 75, 10, 1, 0, [(0, 510), (0, 512), (0, 2), (0, 76)]), (29, 13, 0, 0, 5, []), (3, 1, 0, 0, 0, []), (53, 0, 0, 0, 0, []), (7, 1, 0, 0, 1, []), (41, 2, 0, 0, (-22), []), (0, 0, 0, 0, (-1), []), (53, 0, 0, 0, 0, [])]
def ac_Text_spelling : List AOp := [(3, 0, 0, 0, 0, []), (42, 22, 55, 0, 85, [(0, 2), (1, 4), (2, 6), (3, 8), (4, 10), (5, 12), (6, 14), (7, 16), (8, 18), (9, 20)]), (1, 87, 100, 499, 0, []), (55, 0, 0, 0, 0, []), (1, 89, 101, 500, 0, []), (55, 0, 0, 0, 0, []), (1, 91, 102, 501, 0, []), (55, 0, 0, 0, 0, []), (1, 93, 103, 502, 0, []), (55, 0, 0, 0, 0, []), (1, 95, 104, 503, 0, []), (55, 0, 0, 0, 0, []), (1, 97, 105, 504, 0, []), (55, 0, 0, 0, 0, []), (1, 99, 106, 505, 0, []), (55, 0, 0, 0, 0, []), (1, 101, 107, 506, 0, []), (55, 0, 0, 0, 0, []), (1, 103, 108, 507, 0, []), (55, 0, 0, 0, 0, []), (1, 105, 109, 508, 0, []), (55, 0, 0, 0, 0, []), (1, 107, 110, 509, 0, []), (55, 0, 0, 0, 0, [])]
def ac_Text_standsHere : List AOp := [(4, 0, 0, 0, 0, []), (44, 37, 7, 6, 118, []), (4, 0, 0, 0, 0, []), (44, 51, 7, 5, 117, []), (9, 0, 0, 0, 0, []), (4, 1, 0, 0, 0, []), (56, 79, 11, 0, 1, [(0, 514), (0, 515), (0, 516), (0, 86)]), (35, 10, 0, 0, 5, []), (0, 0, 0, 0, 0, []), (53, 0, 0, 0, 0, []), (0, 0, 0, 0, 0, []), (5, 2, 0, 0, 0, []), (59, 12, 0, 0, 0, []), (3, 2, 0, 0, 0, []), (4, 1, 0, 0, 0, []), (56, 79, 11, 0, 1, [(0, 514), (0, 515), (0, 516), (0, 86)]), (38, 39, 0, 0, 43, []), (4, 0, 0, 0, 0, []), (44, 51, 7, 5, 117, []), (3, 2, 0, 0, 0, []), (8, 0, 0, 0, 0, []), (4, 0, 0, 0, 0, []), (44, 21, 7, 1, 110, []), (38, 39, 0, 0, 30, []), (4, 0, 0, 0, 0, []), (44, 9, 7, 0, 109, []), (4, 0, 0, 0, 0, []), (44, 51, 7, 5, 117, []), (3, 2, 0, 0, 0, []), (8, 0, 0, 0, 0, []), (47, 0, 0, 0, 0, []), (4, 1, 0, 0, 0, []), (3, 2, 0, 0, 0, []), (56, 83, 13, 1, 1, [(0, 524), (0, 525), (0, 526), (0, 86)]), (35, 37, 0, 0, 5, []), (0, 0, 0, 0, 0, []), (53, 0, 0, 0, 0, []), (7, 2, 0, 0, 1, []), (41, 12, 0, 0, (-45), []), (0, 0, 0, 0, 1, []), (53, 0, 0, 0, 0, [])]
def ac_JString_length : List AOp := [(4, 0, 0, 0, 0, []), (44, 9, 50, 0, 1448, []), (52, 0, 0, 0, 0, []), (4, 0, 0, 0, 0, []), (56, 335, 12, 0, 1, [(0, 518), (0, 519), (0, 520), (0, 86)]), (17, 0, 0, 0, 0, []), (53, 0, 0, 0, 0, [])]
def ac_JString_coder : List AOp := [(46, 38, 0, 522, 0, []), (29, 5, 0, 0, 10, []), (4, 0, 0, 0, 0, []), (44, 15, 50, 1, 1449, []), (41, 6, 0, 0, 4, []), (0, 0, 0, 0, 1, []), (53, 0, 0, 0, 0, [])]
def ac_JString_charAt : List AOp := [(4, 0, 0, 0, 0, []), (56, 492, 14, 0, 1, [(0, 528), (0, 529), (0, 530), (0, 86)]), (29, 8, 0, 0, 12, []), (4, 0, 0, 0, 0, []), (44, 9, 50, 0, 1448, []), (3, 1, 0, 0, 0, []), (57, 495, 15, 2, 1, [(0, 532), (0, 533), (0, 87)]), (53, 0, 0, 0, 0, []), (4, 0, 0, 0, 0, []), (44, 9, 50, 0, 1448, []), (3, 1, 0, 0, 0, []), (60, 0, 0, 0, 0, []), (53, 0, 0, 0, 0, [])]
def ac_JString_isLatin1 : List AOp := [(46, 38, 0, 522, 0, []), (29, 7, 0, 0, 14, []), (4, 0, 0, 0, 0, []), (44, 15, 50, 1, 1449, []), (30, 7, 0, 0, 7, []), (0, 0, 0, 0, 1, []), (41, 8, 0, 0, 4, []), (0, 0, 0, 0, 0, []), (53, 0, 0, 0, 0, [])]
def ac_JStringLatin1_charAt : List AOp := [(3, 1, 0, 0, 0, []), (4, 0, 0, 0, 0, []), (52, 0, 0, 0, 0, []), (57, 9, 16, 2, 1, [(0, 535), (0, 536), (0, 86)]), (4, 0, 0, 0, 0, []), (3, 1, 0, 0, 0, []), (49, 0, 0, 0, 0, []), (0, 2, 0, 0, 255, []), (13, 0, 0, 0, 0, []), (21, 0, 0, 0, 0, []), (53, 0, 0, 0, 0, [])]
def ac_JString_checkIndex : List AOp := [(3, 0, 0, 0, 0, []), (3, 1, 0, 0, 0, []), (46, 1053, 1, 538, 0, []), (57, 1059, 17, 3, 1, [(0, 540), (0, 541), (0, 88)]), (28, 0, 0, 0, 0, []), (54, 0, 0, 0, 0, [])]
def ac_JPreconditions_checkIndex : List AOp := [(3, 0, 0, 0, 0, []), (31, 5, 0, 0, 8, []), (3, 0, 0, 0, 0, []), (3, 1, 0, 0, 0, []), (37, 10, 0, 0, 10, []), (4, 2, 0, 0, 0, []), (3, 0, 0, 0, 0, []), (3, 1, 0, 0, 0, []), (60, 0, 0, 0, 0, []), (60, 0, 0, 0, 0, []), (3, 0, 0, 0, 0, []), (53, 0, 0, 0, 0, [])]
def ac_Text_hasRoom : List AOp := [(3, 1, 0, 0, 0, []), (57, 128, 19, 1, 1, [(0, 566), (0, 567), (0, 76)]), (29, 11, 0, 0, 17, []), (4, 0, 0, 0, 0, []), (44, 25, 7, 7, 119, []), (0, 0, 0, 0, 5, []), (38, 9, 0, 0, 7, []), (0, 0, 0, 0, 1, []), (41, 10, 0, 0, 4, []), (0, 0, 0, 0, 0, []), (53, 0, 0, 0, 0, []), (3, 1, 0, 0, 0, []), (57, 131, 20, 1, 1, [(0, 569), (0, 570), (0, 76)]), (29, 22, 0, 0, 18, []), (4, 0, 0, 0, 0, []), (44, 28, 7, 8, 120, []), (0, 1, 0, 0, 6, []), (38, 20, 0, 0, 7, []), (0, 0, 0, 0, 1, []), (41, 21, 0, 0, 4, []), (0, 0, 0, 0, 0, []), (53, 0, 0, 0, 0, []), (3, 1, 0, 0, 0, []), (0, 1, 0, 0, 9, []), (36, 29, 0, 0, 12, []), (4, 0, 0, 0, 0, []), (44, 31, 7, 9, 121, []), (0, 1, 0, 0, 6, []), (38, 31, 0, 0, 7, []), (0, 0, 0, 0, 1, []), (41, 32, 0, 0, 4, []), (0, 0, 0, 0, 0, []), (53, 0, 0, 0, 0, [])]
def ac_Text_isOfPeople : List AOp := [(3, 0, 0, 0, 0, []), (0, 0, 0, 0, 1, []), (37, 8, 0, 0, 12, []), (3, 0, 0, 0, 0, []), (0, 0, 0, 0, 4, []), (39, 8, 0, 0, 7, []), (0, 0, 0, 0, 1, []), (41, 9, 0, 0, 4, []), (0, 0, 0, 0, 0, []), (53, 0, 0, 0, 0, [])]
def ac_Text_isOfThings : List AOp := [(3, 0, 0, 0, 0, []), (0, 0, 0, 0, 5, []), (37, 8, 0, 0, 13, []), (3, 0, 0, 0, 0, []), (0, 1, 0, 0, 8, []), (39, 8, 0, 0, 7, []), (0, 0, 0, 0, 1, []), (41, 9, 0, 0, 4, []), (0, 0, 0, 0, 0, []), (53, 0, 0, 0, 0, [])]
def ac_Text_numbersOf : List AOp := [(3, 0, 0, 0, 0, []), (42, 14, 39, 0, 57, [(5, 2), (6, 4), (7, 6), (8, 8), (9, 10), (10, 12)]), (1, 109, 111, 575, 0, []), (55, 0, 0, 0, 0, []), (1, 111, 112, 576, 0, []), (55, 0, 0, 0, 0, []), (1, 113, 113, 577, 0, []), (55, 0, 0, 0, 0, []), (1, 111, 112, 576, 0, []), (55, 0, 0, 0, 0, []), (1, 115, 114, 578, 0, []), (55, 0, 0, 0, 0, []), (1, 117, 115, 579, 0, []), (55, 0, 0, 0, 0, []), (1, 119, 116, 580, 0, []), (55, 0, 0, 0, 0, [])]
def ac_Text_readNumbers : List AOp := [(0, 0, 0, 0, 0, []), (5, 3, 0, 0, 0, []), (59, 2, 0, 0, 0, []), (3, 3, 0, 0, 0, []), (4, 2, 0, 0, 0, []), (56, 79, 11, 0, 1, [(0, 514), (0, 515), (0, 516), (0, 86)]), (38, 38, 0, 0, 58, []), (3, 3, 0, 0, 0, []), (0, 0, 0, 0, 4, []), (38, 38, 0, 0, 53, []), (4, 0, 0, 0, 0, []), (56, 40, 5, 0, 0, [(0, 482), (0, 484), (0, 0), (0, 76)]), (4, 0, 0, 0, 0, []), (56, 121, 23, 0, 0, [(0, 585), (0, 587), (0, 5), (0, 76)]), (5, 4, 1, 0, 0, []), (3, 4, 1, 0, 0, []), (0, 0, 0, 0, (-1), []), (35, 25, 0, 0, 17, []), (3, 4, 1, 0, 0, []), (4, 0, 0, 0, 0, []), (4, 2, 0, 0, 0, []), (3, 3, 0, 0, 0, []), (56, 83, 13, 1, 1, [(0, 524), (0, 525), (0, 526), (0, 86)]), (56, 124, 24, 1, 0, [(0, 589), (0, 591), (0, 6), (0, 76)]), (37, 27, 0, 0, 5, []), (0, 0, 0, 0, 0, []), (53, 0, 0, 0, 0, []), (4, 0, 0, 0, 0, []), (44, 18, 7, 3, 114, []), (3, 1, 0, 0, 0, []), (0, 0, 0, 0, 4, []), (10, 0, 0, 0, 0, []), (3, 3, 0, 0, 0, []), (8, 0, 0, 0, 0, []), (3, 4, 1, 0, 0, []), (48, 0, 0, 0, 0, []), (7, 3, 0, 0, 1, []), (41, 2, 0, 0, (-60), []), (0, 0, 0, 0, 1, []), (53, 0, 0, 0, 0, [])]
def ac_Text_numberHere : List AOp := [(4, 0, 0, 0, 0, []), (44, 37, 7, 6, 118, []), (4, 0, 0, 0, 0, []), (44, 51, 7, 5, 117, []), (9, 0, 0, 0, 0, []), (5, 1, 0, 0, 0, []), (3, 1, 0, 0, 0, []), (0, 0, 0, 0, 1, []), (37, 19, 0, 0, 23, []), (3, 1, 0, 0, 0, []), (0, 0, 0, 0, 2, []), (39, 19, 0, 0, 18, []), (4, 0, 0, 0, 0, []), (44, 9, 7, 0, 109, []), (4, 0, 0, 0, 0, []), (44, 51, 7, 5, 117, []), (47, 0, 0, 0, 0, []), (57, 69, 7, 1, 1, [(0, 489), (0, 490), (0, 76)]), (30, 21, 0, 0, 5, []), (0, 0, 0, 0, (-1), []), (53, 0, 0, 0, 0, []), (0, 0, 0, 0, 0, []), (5, 2, 0, 0, 0, []), (4, 0, 0, 0, 0, []), (44, 51, 7, 5, 117, []), (5, 3, 0, 0, 0, []), (59, 26, 0, 0, 0, []), (3, 3, 0, 0, 0, []), (4, 0, 0, 0, 0, []), (44, 37, 7, 6, 118, []), (38, 44, 0, 0, 24, []), (3, 2, 0, 0, 0, []), (0, 1, 0, 0, 10, []), (10, 0, 0, 0, 0, []), (4, 0, 0, 0, 0, []), (44, 9, 7, 0, 109, []), (3, 3, 0, 0, 0, []), (47, 0, 0, 0, 0, []), (8, 0, 0, 0, 0, []), (0, 1, 0, 0, 48, []), (9, 0, 0, 0, 0, []), (5, 2, 0, 0, 0, []), (7, 3, 0, 0, 1, []), (41, 26, 0, 0, (-26), []), (3, 2, 0, 0, 0, []), (53, 0, 0, 0, 0, [])]
def ac_Text_bound : List AOp := [(3, 1, 0, 0, 0, []), (42, 16, 67, 0, 86, [(75, 4), (76, 2), (77, 16), (78, 16), (79, 16), (80, 9), (81, 16), (82, 16), (83, 11), (84, 16), (85, 16), (86, 16), (87, 7)]), (0, 0, 0, 0, 3, []), (53, 0, 0, 0, 0, []), (4, 0, 0, 0, 0, []), (44, 25, 7, 7, 119, []), (53, 0, 0, 0, 0, []), (0, 0, 0, 0, 4, []), (53, 0, 0, 0, 0, []), (0, 1, 0, 0, 10, []), (53, 0, 0, 0, 0, []), (0, 0, 0, 0, 1, []), (4, 0, 0, 0, 0, []), (44, 25, 7, 7, 119, []), (16, 0, 0, 0, 0, []), (53, 0, 0, 0, 0, []), (4, 0, 0, 0, 0, []), (44, 28, 7, 8, 120, []), (53, 0, 0, 0, 0, [])]
def ac_Text_grow : List AOp := [(3, 1, 0, 0, 0, []), (30, 12, 0, 0, 21, []), (4, 0, 0, 0, 0, []), (0, 0, 0, 0, 0, []), (45, 25, 7, 7, 119, []), (4, 0, 0, 0, 0, []), (0, 0, 0, 0, 0, []), (45, 28, 7, 8, 120, []), (4, 0, 0, 0, 0, []), (0, 0, 0, 0, 0, []), (45, 31, 7, 9, 121, []), (41, 41, 0, 0, 59, []), (3, 1, 0, 0, 0, []), (57, 128, 19, 1, 1, [(0, 566), (0, 567), (0, 76)]), (29, 22, 0, 0, 16, []), (4, 0, 0, 0, 0, []), (26, 0, 0, 0, 0, []), (44, 25, 7, 7, 119, []), (0, 0, 0, 0, 1, []), (8, 0, 0, 0, 0, []), (45, 25, 7, 7, 119, []), (41, 41, 0, 0, 39, []), (3, 1, 0, 0, 0, []), (57, 131, 20, 1, 1, [(0, 569), (0, 570), (0, 76)]), (29, 32, 0, 0, 16, []), (4, 0, 0, 0, 0, []), (26, 0, 0, 0, 0, []), (44, 28, 7, 8, 120, []), (0, 0, 0, 0, 1, []), (8, 0, 0, 0, 0, []), (45, 28, 7, 8, 120, []), (41, 41, 0, 0, 19, []), (3, 1, 0, 0, 0, []), (0, 1, 0, 0, 9, []), (36, 41, 0, 0, 13, []), (4, 0, 0, 0, 0, []), (26, 0, 0, 0, 0, []), (44, 31, 7, 9, 121, []), (0, 0, 0, 0, 1, []), (8, 0, 0, 0, 0, []), (45, 31, 7, 9, 121, []), (54, 0, 0, 0, 0, [])]
def ac_X_inn : List AOp := [(4, 0, 0, 0, 0, []), (44, 10, 9, 0, 428, []), (4, 0, 0, 0, 0, []), (44, 19, 9, 1, 429, []), (44, 95, 8, 0, 151, []), (4, 0, 0, 0, 0, []), (44, 19, 9, 1, 429, []), (44, 98, 8, 1, 159, []), (4, 0, 0, 0, 0, []), (44, 19, 9, 1, 429, []), (44, 101, 8, 2, 162, []), (56, 104, 4, 3, 0, [(0, 478), (0, 479), (0, 480), (0, 76)]), (0, 0, 0, 0, (-1), []), (35, 16, 0, 0, 6, []), (0, 1, 0, 0, (-4), []), (53, 0, 0, 0, 0, []), (0, 0, 0, 0, 0, []), (5, 1, 0, 0, 0, []), (59, 18, 0, 0, 0, []), (3, 1, 0, 0, 0, []), (4, 0, 0, 0, 0, []), (44, 10, 9, 0, 428, []), (44, 108, 7, 4, 116, []), (38, 32, 0, 0, 21, []), (4, 0, 0, 0, 0, []), (44, 19, 9, 1, 429, []), (4, 0, 0, 0, 0, []), (44, 10, 9, 0, 428, []), (3, 1, 0, 0, 0, []), (56, 111, 27, 2, 0, [(0, 602), (0, 603), (0, 604), (0, 77)]), (7, 1, 0, 0, 1, []), (41, 18, 0, 0, (-26), []), (59, 32, 0, 0, 0, []), (4, 0, 0, 0, 0, []), (44, 10, 9, 0, 428, []), (0, 0, 0, 0, 0, []), (45, 92, 7, 1, 111, []), (4, 0, 0, 0, 0, []), (44, 28, 9, 2, 430, []), (56, 115, 39, 0, 0, [(0, 691), (0, 692), (0, 693), (0, 78)]), (4, 0, 0, 0, 0, []), (44, 43, 9, 5, 433, []), (0, 0, 0, 0, 0, []), (45, 118, 6, 0, 252, []), (4, 0, 0, 0, 0, []), (0, 0, 0, 0, 0, []), (45, 36, 9, 4, 432, []), (4, 0, 0, 0, 0, []), (44, 84, 9, 10, 438, []), (56, 121, 40, 0, 1, [(0, 695), (0, 696), (0, 697), (0, 84)]), (4, 0, 0, 0, 0, []), (44, 10, 9, 0, 428, []), (44, 108, 7, 4, 116, []), (53, 0, 0, 0, 0, [])]
def ac_Told_doLine : List AOp := [(4, 1, 0, 0, 0, []), (44, 33, 7, 2, 113, []), (3, 2, 0, 0, 0, []), (47, 0, 0, 0, 0, []), (5, 3, 0, 0, 0, []), (3, 3, 0, 0, 0, []), (30, 17, 0, 0, 21, []), (4, 0, 0, 0, 0, []), (0, 0, 0, 0, 0, []), (45, 38, 8, 0, 150, []), (4, 0, 0, 0, 0, []), (0, 0, 0, 0, 0, []), (45, 42, 8, 1, 153, []), (4, 0, 0, 0, 0, []), (0, 0, 0, 0, 0, []), (45, 45, 8, 2, 161, []), (41, 57, 0, 0, 77, []), (3, 3, 0, 0, 0, []), (57, 48, 19, 1, 1, [(0, 606), (0, 567), (0, 76)]), (29, 26, 0, 0, 13, []), (4, 0, 0, 0, 0, []), (3, 3, 0, 0, 0, []), (0, 0, 0, 0, 1, []), (9, 0, 0, 0, 0, []), (56, 52, 28, 1, 0, [(0, 607), (0, 609), (0, 8), (0, 77)]), (41, 57, 0, 0, 60, []), (3, 3, 0, 0, 0, []), (57, 56, 20, 1, 1, [(0, 611), (0, 570), (0, 76)]), (29, 37, 0, 0, 15, []), (4, 0, 0, 0, 0, []), (3, 3, 0, 0, 0, []), (0, 0, 0, 0, 5, []), (9, 0, 0, 0, 0, []), (4, 1, 0, 0, 0, []), (3, 2, 0, 0, 0, []), (56, 59, 29, 3, 0, [(0, 612), (0, 614), (0, 9), (0, 77)]), (41, 57, 0, 0, 41, []), (3, 3, 0, 0, 0, []), (0, 1, 0, 0, 9, []), (36, 47, 0, 0, 17, []), (4, 0, 0, 0, 0, []), (4, 1, 0, 0, 0, []), (3, 2, 0, 0, 0, []), (0, 1, 0, 0, 83, []), (56, 63, 30, 2, 0, [(0, 616), (0, 617), (0, 618), (0, 76)]), (56, 67, 36, 1, 0, [(0, 679), (0, 681), (0, 10), (0, 77)]), (41, 57, 0, 0, 21, []), (4, 0, 0, 0, 0, []), (4, 1, 0, 0, 0, []), (3, 2, 0, 0, 0, []), (0, 1, 0, 0, 73, []), (56, 63, 30, 2, 0, [(0, 616), (0, 617), (0, 618), (0, 76)]), (4, 1, 0, 0, 0, []), (3, 2, 0, 0, 0, []), (0, 1, 0, 0, 80, []), (56, 63, 30, 2, 0, [(0, 616), (0, 617), (0, 618), (0, 76)]), (56, 70, 37, 2, 0, [(0, 683), (0, 685), (0, 11), (0, 77)]), (54, 0, 0, 0, 0, [])]
def ac_Told_addOne : List AOp := [(4, 0, 0, 0, 0, []), (44, 38, 8, 0, 150, []), (0, 0, 0, 0, 5, []), (38, 16, 0, 0, 23, []), (4, 0, 0, 0, 0, []), (44, 9, 8, 3, 163, []), (4, 0, 0, 0, 0, []), (44, 38, 8, 0, 150, []), (3, 1, 0, 0, 0, []), (48, 0, 0, 0, 0, []), (4, 0, 0, 0, 0, []), (26, 0, 0, 0, 0, []), (44, 38, 8, 0, 150, []), (0, 0, 0, 0, 1, []), (8, 0, 0, 0, 0, []), (45, 38, 8, 0, 150, []), (54, 0, 0, 0, 0, [])]
def ac_Told_addThing : List AOp := [(4, 0, 0, 0, 0, []), (44, 42, 8, 1, 153, []), (0, 1, 0, 0, 6, []), (38, 52, 0, 0, 87, []), (4, 0, 0, 0, 0, []), (44, 15, 8, 4, 165, []), (4, 0, 0, 0, 0, []), (44, 42, 8, 1, 153, []), (3, 1, 0, 0, 0, []), (48, 0, 0, 0, 0, []), (4, 0, 0, 0, 0, []), (44, 18, 8, 5, 168, []), (4, 0, 0, 0, 0, []), (44, 42, 8, 1, 153, []), (4, 2, 0, 0, 0, []), (3, 3, 0, 0, 0, []), (0, 1, 0, 0, 76, []), (56, 63, 30, 2, 0, [(0, 616), (0, 617), (0, 618), (0, 76)]), (48, 0, 0, 0, 0, []), (4, 0, 0, 0, 0, []), (44, 27, 8, 8, 177, []), (4, 0, 0, 0, 0, []), (44, 42, 8, 1, 153, []), (4, 2, 0, 0, 0, []), (3, 3, 0, 0, 0, []), (0, 1, 0, 0, 75, []), (56, 63, 30, 2, 0, [(0, 616), (0, 617), (0, 618), (0, 76)]), (48, 0, 0, 0, 0, []), (4, 0, 0, 0, 0, []), (44, 21, 8, 6, 172, []), (4, 0, 0, 0, 0, []), (44, 42, 8, 1, 153, []), (4, 2, 0, 0, 0, []), (3, 3, 0, 0, 0, []), (0, 1, 0, 0, 87, []), (56, 63, 30, 2, 0, [(0, 616), (0, 617), (0, 618), (0, 76)]), (48, 0, 0, 0, 0, []), (4, 0, 0, 0, 0, []), (44, 24, 8, 7, 175, []), (4, 0, 0, 0, 0, []), (44, 42, 8, 1, 153, []), (4, 2, 0, 0, 0, []), (3, 3, 0, 0, 0, []), (0, 1, 0, 0, 80, []), (56, 63, 30, 2, 0, [(0, 616), (0, 617), (0, 618), (0, 76)]), (48, 0, 0, 0, 0, []), (4, 0, 0, 0, 0, []), (26, 0, 0, 0, 0, []), (44, 42, 8, 1, 153, []), (0, 0, 0, 0, 1, []), (8, 0, 0, 0, 0, []), (45, 42, 8, 1, 153, []), (54, 0, 0, 0, 0, [])]
def ac_Text_numberOf : List AOp := [(4, 0, 0, 0, 0, []), (44, 15, 7, 2, 112, []), (3, 1, 0, 0, 0, []), (47, 0, 0, 0, 0, []), (57, 54, 21, 1, 1, [(0, 572), (0, 573), (0, 76)]), (3, 2, 0, 0, 0, []), (56, 134, 31, 1, 0, [(0, 620), (0, 621), (0, 622), (0, 86)]), (5, 3, 0, 0, 0, []), (3, 3, 0, 0, 0, []), (31, 13, 0, 0, 8, []), (3, 3, 0, 0, 0, []), (0, 0, 0, 0, 4, []), (37, 15, 0, 0, 7, []), (0, 0, 0, 0, 0, []), (41, 23, 0, 0, 13, []), (4, 0, 0, 0, 0, []), (44, 18, 7, 3, 114, []), (3, 1, 0, 0, 0, []), (0, 0, 0, 0, 4, []), (10, 0, 0, 0, 0, []), (3, 3, 0, 0, 0, []), (8, 0, 0, 0, 0, []), (47, 0, 0, 0, 0, []), (53, 0, 0, 0, 0, [])]
def ac_JString_indexOf : List AOp := [(4, 0, 0, 0, 0, []), (3, 1, 0, 0, 0, []), (0, 0, 0, 0, 0, []), (56, 633, 32, 2, 0, [(0, 624), (0, 625), (0, 626), (0, 86)]), (53, 0, 0, 0, 0, [])]
def ac_JString_indexOf2 : List AOp := [(4, 0, 0, 0, 0, []), (56, 492, 14, 0, 1, [(0, 528), (0, 529), (0, 530), (0, 86)]), (29, 11, 0, 0, 19, []), (4, 0, 0, 0, 0, []), (44, 9, 50, 0, 1448, []), (3, 1, 0, 0, 0, []), (3, 2, 0, 0, 0, []), (4, 0, 0, 0, 0, []), (56, 505, 11, 0, 1, [(0, 628), (0, 515), (0, 516), (0, 86)]), (57, 637, 33, 4, 0, [(0, 629), (0, 630), (0, 87)]), (41, 18, 0, 0, 16, []), (4, 0, 0, 0, 0, []), (44, 9, 50, 0, 1448, []), (3, 1, 0, 0, 0, []), (3, 2, 0, 0, 0, []), (4, 0, 0, 0, 0, []), (56, 505, 11, 0, 1, [(0, 628), (0, 515), (0, 516), (0, 86)]), (60, 0, 0, 0, 0, []), (53, 0, 0, 0, 0, [])]
def ac_JStringLatin1_indexOf : List AOp := [(3, 1, 0, 0, 0, []), (57, 88, 34, 1, 1, [(0, 632), (0, 633), (0, 87)]), (30, 5, 0, 0, 5, []), (0, 0, 0, 0, (-1), []), (53, 0, 0, 0, 0, []), (3, 2, 0, 0, 0, []), (0, 0, 0, 0, 0, []), (61, 92, 0, 0, 0, [(0, 635), (0, 636), (0, 90), (0, 637)]), (5, 2, 0, 0, 0, []), (3, 3, 0, 0, 0, []), (4, 0, 0, 0, 0, []), (52, 0, 0, 0, 0, []), (62, 38, 0, 0, 0, [(0, 638), (0, 639), (0, 90), (0, 640)]), (5, 3, 0, 0, 0, []), (3, 2, 0, 0, 0, []), (3, 3, 0, 0, 0, []), (37, 19, 0, 0, 5, []), (0, 0, 0, 0, (-1), []), (53, 0, 0, 0, 0, []), (4, 0, 0, 0, 0, []), (3, 1, 0, 0, 0, []), (3, 2, 0, 0, 0, []), (3, 3, 0, 0, 0, []), (57, 95, 35, 4, 0, [(0, 641), (0, 642), (0, 87)]), (53, 0, 0, 0, 0, [])]
def ac_JStringLatin1_canEncode : List AOp := [(3, 0, 0, 0, 0, []), (31, 7, 0, 0, 14, []), (3, 0, 0, 0, 0, []), (0, 2, 0, 0, 255, []), (39, 7, 0, 0, 7, []), (0, 0, 0, 0, 1, []), (41, 8, 0, 0, 4, []), (0, 0, 0, 0, 0, []), (53, 0, 0, 0, 0, [])]
def ac_JStringLatin1_indexOfChar : List AOp := [(3, 1, 0, 0, 0, []), (20, 0, 0, 0, 0, []), (5, 4, 1, 0, 0, []), (3, 2, 0, 0, 0, []), (5, 5, 1, 0, 0, []), (59, 5, 0, 0, 0, []), (3, 5, 1, 0, 0, []), (3, 3, 0, 0, 0, []), (38, 18, 0, 0, 21, []), (4, 0, 0, 0, 0, []), (3, 5, 1, 0, 0, []), (49, 0, 0, 0, 0, []), (3, 4, 1, 0, 0, []), (36, 16, 0, 0, 6, []), (3, 5, 1, 0, 0, []), (53, 0, 0, 0, 0, []), (7, 5, 0, 0, 1, []), (41, 5, 0, 0, (-21), []), (0, 0, 0, 0, (-1), []), (53, 0, 0, 0, 0, [])]
def ac_Told_addNight : List AOp := [(4, 0, 0, 0, 0, []), (44, 45, 8, 2, 161, []), (0, 1, 0, 0, 6, []), (38, 16, 0, 0, 23, []), (4, 0, 0, 0, 0, []), (44, 30, 8, 9, 180, []), (4, 0, 0, 0, 0, []), (44, 45, 8, 2, 161, []), (3, 1, 0, 0, 0, []), (48, 0, 0, 0, 0, []), (4, 0, 0, 0, 0, []), (26, 0, 0, 0, 0, []), (44, 45, 8, 2, 161, []), (0, 0, 0, 0, 1, []), (8, 0, 0, 0, 0, []), (45, 45, 8, 2, 161, []), (54, 0, 0, 0, 0, [])]
def ac_Told_tellPower : List AOp := [(4, 0, 0, 0, 0, []), (3, 1, 0, 0, 0, []), (56, 74, 38, 1, 1, [(0, 687), (0, 688), (0, 689), (0, 77)]), (29, 9, 0, 0, 10, []), (4, 0, 0, 0, 0, []), (44, 24, 8, 7, 175, []), (3, 1, 0, 0, 0, []), (3, 2, 0, 0, 0, []), (48, 0, 0, 0, 0, []), (54, 0, 0, 0, 0, [])]
def ac_Told_hasThing : List AOp := [(3, 1, 0, 0, 0, []), (31, 8, 0, 0, 15, []), (3, 1, 0, 0, 0, []), (4, 0, 0, 0, 0, []), (44, 42, 8, 1, 153, []), (38, 8, 0, 0, 7, []), (0, 0, 0, 0, 1, []), (41, 9, 0, 0, 4, []), (0, 0, 0, 0, 0, []), (53, 0, 0, 0, 0, [])]
def ac_Now_begin : List AOp := [(4, 0, 0, 0, 0, []), (0, 0, 0, 0, 0, []), (45, 28, 4, 1, 209, []), (4, 0, 0, 0, 0, []), (0, 0, 0, 0, 0, []), (45, 32, 4, 2, 213, []), (4, 0, 0, 0, 0, []), (0, 0, 0, 0, 0, []), (45, 35, 4, 3, 215, []), (0, 0, 0, 0, 0, []), (5, 1, 0, 0, 0, []), (59, 11, 0, 0, 0, []), (3, 1, 0, 0, 0, []), (0, 1, 0, 0, 6, []), (38, 41, 0, 0, 45, []), (4, 0, 0, 0, 0, []), (44, 9, 4, 4, 217, []), (3, 1, 0, 0, 0, []), (3, 1, 0, 0, 0, []), (48, 0, 0, 0, 0, []), (4, 0, 0, 0, 0, []), (44, 15, 4, 5, 221, []), (3, 1, 0, 0, 0, []), (0, 0, 0, 0, 0, []), (48, 0, 0, 0, 0, []), (4, 0, 0, 0, 0, []), (44, 18, 4, 6, 223, []), (3, 1, 0, 0, 0, []), (4, 0, 0, 0, 0, []), (44, 24, 4, 0, 208, []), (44, 38, 8, 7, 176, []), (3, 1, 0, 0, 0, []), (47, 0, 0, 0, 0, []), (48, 0, 0, 0, 0, []), (4, 0, 0, 0, 0, []), (44, 21, 4, 7, 225, []), (3, 1, 0, 0, 0, []), (0, 0, 0, 0, 0, []), (48, 0, 0, 0, 0, []), (7, 1, 0, 0, 1, []), (41, 11, 0, 0, (-45), []), (54, 0, 0, 0, 0, [])]
def ac_Came_begin : List AOp := [(4, 0, 0, 0, 0, []), (0, 0, 0, 0, (-1), []), (45, 30, 1, 6, 404, []), (54, 0, 0, 0, 0, [])]
def ac_X_one : List AOp := [(4, 0, 0, 0, 0, []), (44, 19, 9, 1, 429, []), (3, 1, 0, 0, 0, []), (56, 122, 42, 1, 1, [(0, 703), (0, 704), (0, 705), (0, 77)]), (30, 7, 0, 0, 6, []), (0, 1, 0, 0, (-2), []), (53, 0, 0, 0, 0, []), (3, 2, 0, 0, 0, []), (42, 33, 29, 0, 69, [(0, 9), (1, 15), (2, 20), (3, 28)]), (4, 0, 0, 0, 0, []), (44, 19, 9, 1, 429, []), (44, 125, 8, 3, 164, []), (3, 1, 0, 0, 0, []), (47, 0, 0, 0, 0, []), (53, 0, 0, 0, 0, []), (4, 0, 0, 0, 0, []), (44, 19, 9, 1, 429, []), (3, 1, 0, 0, 0, []), (56, 129, 43, 1, 0, [(0, 707), (0, 708), (0, 709), (0, 77)]), (53, 0, 0, 0, 0, []), (4, 0, 0, 0, 0, []), (44, 28, 9, 2, 430, []), (44, 133, 4, 3, 216, []), (3, 1, 0, 0, 0, []), (17, 0, 0, 0, 0, []), (0, 0, 0, 0, 1, []), (13, 0, 0, 0, 0, []), (53, 0, 0, 0, 0, []), (4, 0, 0, 0, 0, []), (44, 19, 9, 1, 429, []), (3, 1, 0, 0, 0, []), (56, 136, 44, 1, 0, [(0, 711), (0, 712), (0, 713), (0, 77)]), (53, 0, 0, 0, 0, []), (0, 1, 0, 0, (-3), []), (53, 0, 0, 0, 0, [])]
def ac_Told_hasOne : List AOp := [(3, 1, 0, 0, 0, []), (31, 8, 0, 0, 15, []), (3, 1, 0, 0, 0, []), (4, 0, 0, 0, 0, []), (44, 38, 8, 0, 150, []), (38, 8, 0, 0, 7, []), (0, 0, 0, 0, 1, []), (41, 9, 0, 0, 4, []), (0, 0, 0, 0, 0, []), (53, 0, 0, 0, 0, [])]
def ac_Told_placesOf : List AOp := [(0, 0, 0, 0, 0, []), (5, 2, 0, 0, 0, []), (0, 0, 0, 0, 0, []), (5, 3, 0, 0, 0, []), (59, 4, 0, 0, 0, []), (3, 3, 0, 0, 0, []), (4, 0, 0, 0, 0, []), (44, 42, 8, 1, 153, []), (38, 23, 0, 0, 25, []), (4, 0, 0, 0, 0, []), (44, 27, 8, 8, 177, []), (3, 3, 0, 0, 0, []), (47, 0, 0, 0, 0, []), (3, 1, 0, 0, 0, []), (36, 21, 0, 0, 9, []), (3, 2, 0, 0, 0, []), (0, 0, 0, 0, 1, []), (3, 3, 0, 0, 0, []), (16, 0, 0, 0, 0, []), (14, 0, 0, 0, 0, []), (5, 2, 0, 0, 0, []), (7, 3, 0, 0, 1, []), (41, 4, 0, 0, (-27), []), (3, 2, 0, 0, 0, []), (53, 0, 0, 0, 0, [])]
def ac_Told_nightsOf : List AOp := [(0, 0, 0, 0, 0, []), (5, 2, 0, 0, 0, []), (0, 0, 0, 0, 0, []), (5, 3, 0, 0, 0, []), (59, 4, 0, 0, 0, []), (3, 3, 0, 0, 0, []), (4, 0, 0, 0, 0, []), (44, 45, 8, 2, 161, []), (38, 22, 0, 0, 24, []), (4, 0, 0, 0, 0, []), (3, 1, 0, 0, 0, []), (3, 3, 0, 0, 0, []), (56, 77, 45, 2, 1, [(0, 715), (0, 717), (0, 12), (0, 77)]), (29, 20, 0, 0, 9, []), (3, 2, 0, 0, 0, []), (0, 0, 0, 0, 1, []), (3, 3, 0, 0, 0, []), (16, 0, 0, 0, 0, []), (14, 0, 0, 0, 0, []), (5, 2, 0, 0, 0, []), (7, 3, 0, 0, 1, []), (41, 4, 0, 0, (-26), []), (3, 2, 0, 0, 0, []), (53, 0, 0, 0, 0, [])]
def ac_Told_sleeps : List AOp := [(4, 0, 0, 0, 0, []), (44, 9, 8, 3, 163, []), (3, 1, 0, 0, 0, []), (47, 0, 0, 0, 0, []), (0, 0, 0, 0, 3, []), (35, 16, 0, 0, 17, []), (4, 0, 0, 0, 0, []), (44, 30, 8, 9, 180, []), (3, 2, 0, 0, 0, []), (47, 0, 0, 0, 0, []), (3, 1, 0, 0, 0, []), (17, 0, 0, 0, 0, []), (0, 0, 0, 0, 1, []), (13, 0, 0, 0, 0, []), (0, 0, 0, 0, 1, []), (36, 18, 0, 0, 7, []), (0, 0, 0, 0, 1, []), (41, 19, 0, 0, 4, []), (0, 0, 0, 0, 0, []), (53, 0, 0, 0, 0, [])]
def ac_X_as : List AOp := [(4, 0, 0, 0, 0, []), (44, 19, 9, 1, 429, []), (3, 1, 0, 0, 0, []), (56, 122, 42, 1, 1, [(0, 703), (0, 704), (0, 705), (0, 77)]), (30, 7, 0, 0, 6, []), (0, 1, 0, 0, (-2), []), (53, 0, 0, 0, 0, []), (3, 2, 0, 0, 0, []), (31, 13, 0, 0, 11, []), (3, 2, 0, 0, 0, []), (46, 139, 2, 723, 0, []), (52, 0, 0, 0, 0, []), (37, 15, 0, 0, 6, []), (0, 1, 0, 0, (-3), []), (53, 0, 0, 0, 0, []), (46, 139, 2, 723, 0, []), (4, 0, 0, 0, 0, []), (44, 19, 9, 1, 429, []), (44, 125, 8, 3, 164, []), (3, 1, 0, 0, 0, []), (47, 0, 0, 0, 0, []), (0, 0, 0, 0, 1, []), (8, 0, 0, 0, 0, []), (3, 2, 0, 0, 0, []), (57, 142, 47, 3, 0, [(0, 725), (0, 726), (0, 75)]), (30, 28, 0, 0, 6, []), (0, 1, 0, 0, (-4), []), (53, 0, 0, 0, 0, []), (4, 0, 0, 0, 0, []), (44, 28, 9, 2, 430, []), (3, 1, 0, 0, 0, []), (56, 146, 48, 1, 0, [(0, 728), (0, 729), (0, 730), (0, 78)]), (53, 0, 0, 0, 0, [])]
def ac_X_isUnder : List AOp := [(3, 1, 0, 0, 0, []), (5, 3, 0, 0, 0, []), (0, 0, 0, 0, 0, []), (5, 4, 1, 0, 0, []), (59, 4, 0, 0, 0, []), (3, 4, 1, 0, 0, []), (4, 0, 0, 0, 0, []), (52, 0, 0, 0, 0, []), (38, 26, 0, 0, 30, []), (3, 3, 0, 0, 0, []), (31, 26, 0, 0, 26, []), (3, 3, 0, 0, 0, []), (4, 0, 0, 0, 0, []), (52, 0, 0, 0, 0, []), (38, 26, 0, 0, 20, []), (3, 3, 0, 0, 0, []), (3, 2, 0, 0, 0, []), (36, 20, 0, 0, 5, []), (0, 0, 0, 0, 1, []), (53, 0, 0, 0, 0, []), (4, 0, 0, 0, 0, []), (3, 3, 0, 0, 0, []), (47, 0, 0, 0, 0, []), (5, 3, 0, 0, 0, []), (7, 4, 0, 0, 1, []), (41, 4, 0, 0, (-31), []), (0, 0, 0, 0, 0, []), (53, 0, 0, 0, 0, [])]
def ac_Now_ownWith : List AOp := [(0, 0, 0, 0, 0, []), (5, 2, 0, 0, 0, []), (0, 0, 0, 0, 0, []), (5, 3, 0, 0, 0, []), (59, 4, 0, 0, 0, []), (3, 3, 0, 0, 0, []), (4, 0, 0, 0, 0, []), (44, 24, 4, 0, 208, []), (44, 47, 8, 1, 158, []), (38, 30, 0, 0, 43, []), (4, 0, 0, 0, 0, []), (44, 24, 4, 0, 208, []), (44, 56, 8, 8, 178, []), (3, 3, 0, 0, 0, []), (47, 0, 0, 0, 0, []), (3, 1, 0, 0, 0, []), (36, 28, 0, 0, 24, []), (4, 0, 0, 0, 0, []), (44, 24, 4, 0, 208, []), (44, 56, 8, 8, 178, []), (4, 0, 0, 0, 0, []), (44, 9, 4, 4, 217, []), (3, 3, 0, 0, 0, []), (47, 0, 0, 0, 0, []), (47, 0, 0, 0, 0, []), (3, 1, 0, 0, 0, []), (36, 28, 0, 0, 6, []), (7, 2, 0, 0, 1, []), (7, 3, 0, 0, 1, []), (41, 4, 0, 0, (-48), []), (3, 2, 0, 0, 0, []), (53, 0, 0, 0, 0, [])]
def ac_X_thing : List AOp := [(4, 0, 0, 0, 0, []), (44, 19, 9, 1, 429, []), (3, 1, 0, 0, 0, []), (56, 149, 38, 1, 1, [(0, 736), (0, 688), (0, 689), (0, 77)]), (30, 7, 0, 0, 6, []), (0, 1, 0, 0, (-2), []), (53, 0, 0, 0, 0, []), (3, 2, 0, 0, 0, []), (42, 44, 37, 0, 96, [(0, 9), (1, 15), (2, 21), (3, 27), (4, 33), (5, 38)]), (4, 0, 0, 0, 0, []), (44, 19, 9, 1, 429, []), (44, 152, 8, 4, 167, []), (3, 1, 0, 0, 0, []), (47, 0, 0, 0, 0, []), (53, 0, 0, 0, 0, []), (4, 0, 0, 0, 0, []), (44, 19, 9, 1, 429, []), (44, 155, 8, 5, 171, []), (3, 1, 0, 0, 0, []), (47, 0, 0, 0, 0, []), (53, 0, 0, 0, 0, []), (4, 0, 0, 0, 0, []), (44, 19, 9, 1, 429, []), (44, 158, 8, 6, 174, []), (3, 1, 0, 0, 0, []), (47, 0, 0, 0, 0, []), (53, 0, 0, 0, 0, []), (4, 0, 0, 0, 0, []), (44, 28, 9, 2, 430, []), (44, 161, 4, 6, 224, []), (3, 1, 0, 0, 0, []), (47, 0, 0, 0, 0, []), (53, 0, 0, 0, 0, []), (4, 0, 0, 0, 0, []), (44, 28, 9, 2, 430, []), (3, 1, 0, 0, 0, []), (56, 164, 50, 1, 0, [(0, 737), (0, 738), (0, 739), (0, 78)]), (53, 0, 0, 0, 0, []), (4, 0, 0, 0, 0, []), (44, 28, 9, 2, 430, []), (44, 167, 4, 7, 226, []), (3, 1, 0, 0, 0, []), (47, 0, 0, 0, 0, []), (53, 0, 0, 0, 0, []), (0, 1, 0, 0, (-3), []), (53, 0, 0, 0, 0, [])]
def ac_Now_placeOf : List AOp := [(0, 0, 0, 0, 0, []), (5, 2, 0, 0, 0, []), (59, 2, 0, 0, 0, []), (3, 2, 0, 0, 0, []), (4, 0, 0, 0, 0, []), (44, 24, 4, 0, 208, []), (44, 47, 8, 1, 158, []), (38, 18, 0, 0, 21, []), (4, 0, 0, 0, 0, []), (44, 9, 4, 4, 217, []), (3, 2, 0, 0, 0, []), (47, 0, 0, 0, 0, []), (3, 1, 0, 0, 0, []), (36, 16, 0, 0, 5, []), (3, 2, 0, 0, 0, []), (53, 0, 0, 0, 0, []), (7, 2, 0, 0, 1, []), (41, 2, 0, 0, (-26), []), (3, 1, 0, 0, 0, []), (53, 0, 0, 0, 0, [])]
def ac_X_thingAs : List AOp := [(4, 0, 0, 0, 0, []), (44, 19, 9, 1, 429, []), (3, 1, 0, 0, 0, []), (56, 149, 38, 1, 1, [(0, 736), (0, 688), (0, 689), (0, 77)]), (30, 7, 0, 0, 6, []), (0, 1, 0, 0, (-2), []), (53, 0, 0, 0, 0, []), (3, 2, 0, 0, 0, []), (31, 13, 0, 0, 11, []), (3, 2, 0, 0, 0, []), (46, 170, 3, 745, 0, []), (52, 0, 0, 0, 0, []), (37, 15, 0, 0, 6, []), (0, 1, 0, 0, (-3), []), (53, 0, 0, 0, 0, []), (46, 170, 3, 745, 0, []), (46, 173, 4, 747, 0, []), (4, 0, 0, 0, 0, []), (44, 19, 9, 1, 429, []), (44, 152, 8, 4, 167, []), (3, 1, 0, 0, 0, []), (47, 0, 0, 0, 0, []), (47, 0, 0, 0, 0, []), (3, 2, 0, 0, 0, []), (57, 142, 47, 3, 0, [(0, 725), (0, 726), (0, 75)]), (30, 28, 0, 0, 6, []), (0, 1, 0, 0, (-4), []), (53, 0, 0, 0, 0, []), (4, 0, 0, 0, 0, []), (44, 28, 9, 2, 430, []), (3, 1, 0, 0, 0, []), (4, 0, 0, 0, 0, []), (44, 28, 9, 2, 430, []), (3, 1, 0, 0, 0, []), (56, 164, 50, 1, 0, [(0, 737), (0, 738), (0, 739), (0, 78)]), (4, 0, 0, 0, 0, []), (44, 19, 9, 1, 429, []), (44, 158, 8, 6, 174, []), (3, 1, 0, 0, 0, []), (47, 0, 0, 0, 0, []), (56, 176, 52, 3, 0, [(0, 749), (0, 750), (0, 751), (0, 78)]), (29, 44, 0, 0, 7, []), (0, 0, 0, 0, 1, []), (41, 45, 0, 0, 4, []), (0, 0, 0, 0, 0, []), (53, 0, 0, 0, 0, [])]
def ac_Now_works : List AOp := [(4, 0, 0, 0, 0, []), (44, 24, 4, 0, 208, []), (44, 50, 8, 6, 173, []), (3, 1, 0, 0, 0, []), (47, 0, 0, 0, 0, []), (3, 3, 0, 0, 0, []), (35, 9, 0, 0, 5, []), (0, 0, 0, 0, 0, []), (53, 0, 0, 0, 0, []), (4, 0, 0, 0, 0, []), (44, 24, 4, 0, 208, []), (44, 53, 8, 4, 166, []), (3, 1, 0, 0, 0, []), (47, 0, 0, 0, 0, []), (42, 47, 28, 0, 84, [(1, 15), (2, 17), (3, 26)]), (0, 0, 0, 0, 1, []), (53, 0, 0, 0, 0, []), (4, 0, 0, 0, 0, []), (44, 18, 4, 6, 223, []), (3, 1, 0, 0, 0, []), (47, 0, 0, 0, 0, []), (34, 24, 0, 0, 7, []), (0, 0, 0, 0, 1, []), (41, 25, 0, 0, 4, []), (0, 0, 0, 0, 0, []), (53, 0, 0, 0, 0, []), (4, 0, 0, 0, 0, []), (44, 24, 4, 0, 208, []), (44, 56, 8, 8, 178, []), (3, 2, 0, 0, 0, []), (47, 0, 0, 0, 0, []), (4, 0, 0, 0, 0, []), (44, 24, 4, 0, 208, []), (44, 56, 8, 8, 178, []), (3, 1, 0, 0, 0, []), (47, 0, 0, 0, 0, []), (35, 43, 0, 0, 15, []), (4, 0, 0, 0, 0, []), (44, 24, 4, 0, 208, []), (3, 2, 0, 0, 0, []), (0, 0, 0, 0, 2, []), (56, 59, 53, 2, 1, [(0, 753), (0, 754), (0, 755), (0, 77)]), (29, 45, 0, 0, 7, []), (0, 0, 0, 0, 1, []), (41, 46, 0, 0, 4, []), (0, 0, 0, 0, 0, []), (53, 0, 0, 0, 0, []), (0, 0, 0, 0, 0, []), (53, 0, 0, 0, 0, [])]
def ac_Told_isKeptBy : List AOp := [(4, 0, 0, 0, 0, []), (44, 9, 8, 3, 163, []), (4, 0, 0, 0, 0, []), (44, 27, 8, 8, 177, []), (3, 1, 0, 0, 0, []), (47, 0, 0, 0, 0, []), (47, 0, 0, 0, 0, []), (3, 2, 0, 0, 0, []), (36, 11, 0, 0, 7, []), (0, 0, 0, 0, 1, []), (41, 12, 0, 0, 4, []), (0, 0, 0, 0, 0, []), (53, 0, 0, 0, 0, [])]
def ac_X_place : List AOp := [(4, 0, 0, 0, 0, []), (44, 19, 9, 1, 429, []), (3, 1, 0, 0, 0, []), (56, 149, 38, 1, 1, [(0, 736), (0, 688), (0, 689), (0, 77)]), (30, 7, 0, 0, 6, []), (0, 1, 0, 0, (-2), []), (53, 0, 0, 0, 0, []), (3, 2, 0, 0, 0, []), (42, 27, 25, 0, 55, [(0, 9), (1, 15), (2, 21)]), (4, 0, 0, 0, 0, []), (44, 19, 9, 1, 429, []), (44, 180, 8, 8, 179, []), (3, 1, 0, 0, 0, []), (47, 0, 0, 0, 0, []), (53, 0, 0, 0, 0, []), (4, 0, 0, 0, 0, []), (44, 28, 9, 2, 430, []), (44, 183, 4, 4, 220, []), (3, 1, 0, 0, 0, []), (47, 0, 0, 0, 0, []), (53, 0, 0, 0, 0, []), (4, 0, 0, 0, 0, []), (44, 28, 9, 2, 430, []), (44, 186, 4, 5, 222, []), (3, 1, 0, 0, 0, []), (47, 0, 0, 0, 0, []), (53, 0, 0, 0, 0, []), (0, 1, 0, 0, (-3), []), (53, 0, 0, 0, 0, [])]
def ac_X_may : List AOp := [(4, 0, 0, 0, 0, []), (44, 19, 9, 1, 429, []), (3, 1, 0, 0, 0, []), (56, 189, 56, 1, 1, [(0, 765), (0, 766), (0, 767), (0, 77)]), (29, 15, 0, 0, 25, []), (4, 0, 0, 0, 0, []), (44, 19, 9, 1, 429, []), (3, 2, 0, 0, 0, []), (56, 149, 38, 1, 1, [(0, 736), (0, 688), (0, 689), (0, 77)]), (29, 15, 0, 0, 14, []), (4, 0, 0, 0, 0, []), (44, 19, 9, 1, 429, []), (3, 3, 0, 0, 0, []), (56, 149, 38, 1, 1, [(0, 736), (0, 688), (0, 689), (0, 77)]), (30, 17, 0, 0, 6, []), (0, 1, 0, 0, (-2), []), (53, 0, 0, 0, 0, []), (3, 2, 0, 0, 0, []), (3, 3, 0, 0, 0, []), (36, 22, 0, 0, 6, []), (0, 1, 0, 0, (-3), []), (53, 0, 0, 0, 0, []), (4, 0, 0, 0, 0, []), (44, 19, 9, 1, 429, []), (3, 1, 0, 0, 0, []), (3, 2, 0, 0, 0, []), (3, 3, 0, 0, 0, []), (56, 192, 57, 3, 0, [(0, 769), (0, 770), (0, 771), (0, 77)]), (29, 31, 0, 0, 7, []), (0, 0, 0, 0, 1, []), (41, 32, 0, 0, 4, []), (0, 0, 0, 0, 0, []), (53, 0, 0, 0, 0, [])]
def ac_Told_hasNight : List AOp := [(3, 1, 0, 0, 0, []), (31, 8, 0, 0, 15, []), (3, 1, 0, 0, 0, []), (4, 0, 0, 0, 0, []), (44, 45, 8, 2, 161, []), (38, 8, 0, 0, 7, []), (0, 0, 0, 0, 1, []), (41, 9, 0, 0, 4, []), (0, 0, 0, 0, 0, []), (53, 0, 0, 0, 0, [])]
def ac_Told_allows : List AOp := [(4, 0, 0, 0, 0, []), (44, 18, 8, 5, 168, []), (3, 2, 0, 0, 0, []), (47, 0, 0, 0, 0, []), (4, 0, 0, 0, 0, []), (44, 18, 8, 5, 168, []), (3, 3, 0, 0, 0, []), (47, 0, 0, 0, 0, []), (36, 21, 0, 0, 25, []), (4, 0, 0, 0, 0, []), (3, 1, 0, 0, 0, []), (3, 2, 0, 0, 0, []), (56, 81, 58, 2, 0, [(0, 773), (0, 775), (0, 13), (0, 77)]), (29, 21, 0, 0, 16, []), (4, 0, 0, 0, 0, []), (3, 1, 0, 0, 0, []), (3, 3, 0, 0, 0, []), (56, 81, 58, 2, 0, [(0, 773), (0, 775), (0, 13), (0, 77)]), (29, 21, 0, 0, 7, []), (0, 0, 0, 0, 1, []), (41, 22, 0, 0, 4, []), (0, 0, 0, 0, 0, []), (53, 0, 0, 0, 0, [])]
def ac_Told_isOpen : List AOp := [(4, 0, 0, 0, 0, []), (4, 0, 0, 0, 0, []), (44, 27, 8, 8, 177, []), (3, 2, 0, 0, 0, []), (47, 0, 0, 0, 0, []), (3, 1, 0, 0, 0, []), (56, 77, 45, 2, 1, [(0, 715), (0, 717), (0, 12), (0, 77)]), (29, 15, 0, 0, 16, []), (4, 0, 0, 0, 0, []), (3, 2, 0, 0, 0, []), (0, 0, 0, 0, 1, []), (56, 84, 53, 2, 1, [(0, 777), (0, 754), (0, 755), (0, 77)]), (30, 15, 0, 0, 7, []), (0, 0, 0, 0, 1, []), (41, 16, 0, 0, 4, []), (0, 0, 0, 0, 0, []), (53, 0, 0, 0, 0, [])]
def ac_X_pass : List AOp := [(3, 1, 0, 0, 0, []), (0, 0, 0, 0, (-1), []), (35, 8, 0, 0, 14, []), (4, 0, 0, 0, 0, []), (44, 19, 9, 1, 429, []), (3, 1, 0, 0, 0, []), (56, 149, 38, 1, 1, [(0, 736), (0, 688), (0, 689), (0, 77)]), (29, 16, 0, 0, 19, []), (3, 2, 0, 0, 0, []), (0, 0, 0, 0, (-1), []), (35, 18, 0, 0, 17, []), (4, 0, 0, 0, 0, []), (44, 19, 9, 1, 429, []), (3, 2, 0, 0, 0, []), (56, 149, 38, 1, 1, [(0, 736), (0, 688), (0, 689), (0, 77)]), (30, 18, 0, 0, 6, []), (0, 1, 0, 0, (-2), []), (53, 0, 0, 0, 0, []), (3, 1, 0, 0, 0, []), (0, 0, 0, 0, (-1), []), (36, 26, 0, 0, 12, []), (3, 2, 0, 0, 0, []), (0, 0, 0, 0, (-1), []), (36, 26, 0, 0, 7, []), (0, 0, 0, 0, 1, []), (41, 27, 0, 0, 4, []), (0, 0, 0, 0, 0, []), (5, 3, 0, 0, 0, []), (59, 28, 0, 0, 0, []), (3, 3, 0, 0, 0, []), (30, 42, 0, 0, 21, []), (3, 1, 0, 0, 0, []), (3, 2, 0, 0, 0, []), (35, 40, 0, 0, 13, []), (3, 1, 0, 0, 0, []), (0, 0, 0, 0, (-1), []), (35, 40, 0, 0, 8, []), (3, 2, 0, 0, 0, []), (0, 0, 0, 0, (-1), []), (36, 42, 0, 0, 6, []), (0, 1, 0, 0, (-3), []), (53, 0, 0, 0, 0, []), (59, 42, 0, 0, 0, []), (4, 0, 0, 0, 0, []), (44, 28, 9, 2, 430, []), (44, 195, 4, 1, 212, []), (4, 0, 0, 0, 0, []), (44, 19, 9, 1, 429, []), (44, 101, 8, 2, 162, []), (37, 52, 0, 0, 6, []), (0, 1, 0, 0, (-4), []), (53, 0, 0, 0, 0, []), (59, 52, 0, 0, 0, []), (3, 3, 0, 0, 0, []), (30, 71, 0, 0, 34, []), (4, 0, 0, 0, 0, []), (44, 19, 9, 1, 429, []), (4, 0, 0, 0, 0, []), (44, 28, 9, 2, 430, []), (44, 195, 4, 1, 212, []), (3, 1, 0, 0, 0, []), (3, 2, 0, 0, 0, []), (56, 192, 57, 3, 0, [(0, 769), (0, 770), (0, 771), (0, 77)]), (30, 66, 0, 0, 6, []), (0, 1, 0, 0, (-4), []), (53, 0, 0, 0, 0, []), (4, 0, 0, 0, 0, []), (44, 28, 9, 2, 430, []), (3, 1, 0, 0, 0, []), (3, 2, 0, 0, 0, []), (56, 198, 60, 2, 0, [(0, 782), (0, 783), (0, 784), (0, 78)]), (59, 71, 0, 0, 0, []), (4, 0, 0, 0, 0, []), (44, 28, 9, 2, 430, []), (26, 0, 0, 0, 0, []), (44, 195, 4, 1, 212, []), (0, 0, 0, 0, 1, []), (8, 0, 0, 0, 0, []), (45, 195, 4, 1, 212, []), (4, 0, 0, 0, 0, []), (44, 28, 9, 2, 430, []), (44, 195, 4, 1, 212, []), (53, 0, 0, 0, 0, [])]
def ac_Now_change : List AOp := [(4, 0, 0, 0, 0, []), (44, 9, 4, 4, 217, []), (3, 1, 0, 0, 0, []), (47, 0, 0, 0, 0, []), (5, 3, 0, 0, 0, []), (4, 0, 0, 0, 0, []), (44, 9, 4, 4, 217, []), (3, 1, 0, 0, 0, []), (4, 0, 0, 0, 0, []), (44, 9, 4, 4, 217, []), (3, 2, 0, 0, 0, []), (47, 0, 0, 0, 0, []), (48, 0, 0, 0, 0, []), (4, 0, 0, 0, 0, []), (44, 9, 4, 4, 217, []), (3, 2, 0, 0, 0, []), (3, 3, 0, 0, 0, []), (48, 0, 0, 0, 0, []), (4, 0, 0, 0, 0, []), (44, 15, 4, 5, 221, []), (3, 1, 0, 0, 0, []), (27, 0, 0, 0, 0, []), (47, 0, 0, 0, 0, []), (0, 0, 0, 0, 1, []), (8, 0, 0, 0, 0, []), (48, 0, 0, 0, 0, []), (4, 0, 0, 0, 0, []), (44, 15, 4, 5, 221, []), (3, 2, 0, 0, 0, []), (27, 0, 0, 0, 0, []), (47, 0, 0, 0, 0, []), (0, 0, 0, 0, 1, []), (8, 0, 0, 0, 0, []), (48, 0, 0, 0, 0, []), (4, 0, 0, 0, 0, []), (26, 0, 0, 0, 0, []), (44, 32, 4, 2, 213, []), (0, 0, 0, 0, 1, []), (8, 0, 0, 0, 0, []), (45, 32, 4, 2, 213, []), (54, 0, 0, 0, 0, [])]
def ac_X_say : List AOp := [(4, 0, 0, 0, 0, []), (44, 19, 9, 1, 429, []), (3, 1, 0, 0, 0, []), (56, 149, 38, 1, 1, [(0, 736), (0, 688), (0, 689), (0, 77)]), (30, 7, 0, 0, 6, []), (0, 1, 0, 0, (-2), []), (53, 0, 0, 0, 0, []), (3, 2, 0, 0, 0, []), (31, 12, 0, 0, 8, []), (3, 2, 0, 0, 0, []), (0, 0, 0, 0, 4, []), (37, 14, 0, 0, 6, []), (0, 1, 0, 0, (-3), []), (53, 0, 0, 0, 0, []), (4, 0, 0, 0, 0, []), (44, 28, 9, 2, 430, []), (3, 1, 0, 0, 0, []), (3, 2, 0, 0, 0, []), (56, 202, 62, 2, 0, [(0, 790), (0, 791), (0, 792), (0, 78)]), (29, 22, 0, 0, 7, []), (0, 0, 0, 0, 1, []), (41, 23, 0, 0, 4, []), (0, 0, 0, 0, 0, []), (53, 0, 0, 0, 0, [])]
def ac_Now_hear : List AOp := [(4, 0, 0, 0, 0, []), (44, 9, 4, 4, 217, []), (3, 1, 0, 0, 0, []), (47, 0, 0, 0, 0, []), (5, 3, 0, 0, 0, []), (4, 0, 0, 0, 0, []), (3, 3, 0, 0, 0, []), (3, 1, 0, 0, 0, []), (3, 2, 0, 0, 0, []), (56, 63, 52, 3, 0, [(0, 794), (0, 750), (0, 751), (0, 78)]), (29, 36, 0, 0, 38, []), (4, 0, 0, 0, 0, []), (44, 21, 4, 7, 225, []), (3, 3, 0, 0, 0, []), (27, 0, 0, 0, 0, []), (47, 0, 0, 0, 0, []), (0, 0, 0, 0, 1, []), (8, 0, 0, 0, 0, []), (48, 0, 0, 0, 0, []), (4, 0, 0, 0, 0, []), (44, 24, 4, 0, 208, []), (44, 53, 8, 4, 166, []), (3, 3, 0, 0, 0, []), (47, 0, 0, 0, 0, []), (0, 0, 0, 0, 2, []), (36, 34, 0, 0, 13, []), (4, 0, 0, 0, 0, []), (44, 18, 4, 6, 223, []), (3, 3, 0, 0, 0, []), (27, 0, 0, 0, 0, []), (47, 0, 0, 0, 0, []), (0, 0, 0, 0, 1, []), (9, 0, 0, 0, 0, []), (48, 0, 0, 0, 0, []), (0, 0, 0, 0, 1, []), (53, 0, 0, 0, 0, []), (4, 0, 0, 0, 0, []), (44, 24, 4, 0, 208, []), (3, 1, 0, 0, 0, []), (0, 0, 0, 0, 3, []), (56, 59, 53, 2, 1, [(0, 753), (0, 754), (0, 755), (0, 77)]), (30, 66, 0, 0, 47, []), (4, 0, 0, 0, 0, []), (44, 24, 4, 0, 208, []), (3, 1, 0, 0, 0, []), (56, 67, 63, 1, 1, [(0, 795), (0, 796), (0, 797), (0, 77)]), (29, 66, 0, 0, 36, []), (4, 0, 0, 0, 0, []), (44, 24, 4, 0, 208, []), (44, 50, 8, 6, 173, []), (3, 1, 0, 0, 0, []), (47, 0, 0, 0, 0, []), (3, 2, 0, 0, 0, []), (36, 66, 0, 0, 23, []), (4, 0, 0, 0, 0, []), (26, 0, 0, 0, 0, []), (44, 35, 4, 3, 215, []), (0, 0, 0, 0, 1, []), (4, 0, 0, 0, 0, []), (44, 24, 4, 0, 208, []), (44, 56, 8, 8, 178, []), (3, 1, 0, 0, 0, []), (47, 0, 0, 0, 0, []), (16, 0, 0, 0, 0, []), (14, 0, 0, 0, 0, []), (45, 35, 4, 3, 215, []), (0, 0, 0, 0, 0, []), (53, 0, 0, 0, 0, [])]
def ac_Told_isCharm : List AOp := [(4, 0, 0, 0, 0, []), (44, 15, 8, 4, 165, []), (3, 1, 0, 0, 0, []), (47, 0, 0, 0, 0, []), (29, 7, 0, 0, 7, []), (0, 0, 0, 0, 1, []), (41, 8, 0, 0, 4, []), (0, 0, 0, 0, 0, []), (53, 0, 0, 0, 0, [])]
def ac_X_keep : List AOp := [(3, 1, 0, 0, 0, []), (31, 5, 0, 0, 8, []), (3, 1, 0, 0, 0, []), (0, 0, 0, 0, 2, []), (37, 7, 0, 0, 6, []), (0, 1, 0, 0, (-2), []), (53, 0, 0, 0, 0, []), (4, 0, 0, 0, 0, []), (44, 32, 9, 3, 431, []), (3, 1, 0, 0, 0, []), (51, 0, 0, 0, 0, []), (4, 0, 0, 0, 0, []), (44, 28, 9, 2, 430, []), (56, 206, 65, 1, 0, [(0, 803), (0, 804), (0, 805), (0, 78)]), (4, 0, 0, 0, 0, []), (26, 0, 0, 0, 0, []), (44, 36, 9, 4, 432, []), (0, 0, 0, 0, 1, []), (3, 1, 0, 0, 0, []), (16, 0, 0, 0, 0, []), (14, 0, 0, 0, 0, []), (45, 36, 9, 4, 432, []), (4, 0, 0, 0, 0, []), (44, 28, 9, 2, 430, []), (44, 195, 4, 1, 212, []), (53, 0, 0, 0, 0, [])]
def ac_Now_copy : List AOp := [(4, 0, 0, 0, 0, []), (4, 1, 0, 0, 0, []), (44, 28, 4, 1, 209, []), (45, 28, 4, 1, 209, []), (4, 0, 0, 0, 0, []), (4, 1, 0, 0, 0, []), (44, 32, 4, 2, 213, []), (45, 32, 4, 2, 213, []), (4, 0, 0, 0, 0, []), (4, 1, 0, 0, 0, []), (44, 35, 4, 3, 215, []), (45, 35, 4, 3, 215, []), (4, 1, 0, 0, 0, []), (44, 9, 4, 4, 217, []), (0, 0, 0, 0, 0, []), (4, 0, 0, 0, 0, []), (44, 9, 4, 4, 217, []), (0, 0, 0, 0, 0, []), (0, 1, 0, 0, 6, []), (58, 41, 0, 0, 0, [(0, 807), (0, 809), (0, 808), (0, 92)]), (4, 1, 0, 0, 0, []), (44, 15, 4, 5, 221, []), (0, 0, 0, 0, 0, []), (4, 0, 0, 0, 0, []), (44, 15, 4, 5, 221, []), (0, 0, 0, 0, 0, []), (0, 1, 0, 0, 6, []), (58, 41, 0, 0, 0, [(0, 807), (0, 809), (0, 808), (0, 92)]), (4, 1, 0, 0, 0, []), (44, 18, 4, 6, 223, []), (0, 0, 0, 0, 0, []), (4, 0, 0, 0, 0, []), (44, 18, 4, 6, 223, []), (0, 0, 0, 0, 0, []), (0, 1, 0, 0, 6, []), (58, 41, 0, 0, 0, [(0, 807), (0, 809), (0, 808), (0, 92)]), (4, 1, 0, 0, 0, []), (44, 21, 4, 7, 225, []), (0, 0, 0, 0, 0, []), (4, 0, 0, 0, 0, []), (44, 21, 4, 7, 225, []), (0, 0, 0, 0, 0, []), (0, 1, 0, 0, 6, []), (58, 41, 0, 0, 0, [(0, 807), (0, 809), (0, 808), (0, 92)]), (54, 0, 0, 0, 0, [])]
def ac_X_back : List AOp := [(3, 1, 0, 0, 0, []), (31, 5, 0, 0, 8, []), (3, 1, 0, 0, 0, []), (0, 0, 0, 0, 2, []), (37, 7, 0, 0, 6, []), (0, 1, 0, 0, (-2), []), (53, 0, 0, 0, 0, []), (4, 0, 0, 0, 0, []), (44, 36, 9, 4, 432, []), (3, 1, 0, 0, 0, []), (17, 0, 0, 0, 0, []), (0, 0, 0, 0, 1, []), (13, 0, 0, 0, 0, []), (30, 16, 0, 0, 6, []), (0, 1, 0, 0, (-4), []), (53, 0, 0, 0, 0, []), (4, 0, 0, 0, 0, []), (44, 28, 9, 2, 430, []), (4, 0, 0, 0, 0, []), (44, 32, 9, 3, 431, []), (3, 1, 0, 0, 0, []), (51, 0, 0, 0, 0, []), (56, 206, 65, 1, 0, [(0, 803), (0, 804), (0, 805), (0, 78)]), (4, 0, 0, 0, 0, []), (44, 28, 9, 2, 430, []), (44, 195, 4, 1, 212, []), (53, 0, 0, 0, 0, [])]
def ac_X_rings : List AOp := [(4, 0, 0, 0, 0, []), (44, 28, 9, 2, 430, []), (56, 210, 68, 0, 0, [(0, 818), (0, 819), (0, 820), (0, 78)]), (53, 0, 0, 0, 0, [])]
def ac_Now_ringCount : List AOp := [(0, 0, 0, 0, 0, []), (5, 1, 0, 0, 0, []), (0, 0, 0, 0, 0, []), (5, 2, 0, 0, 0, []), (0, 0, 0, 0, 0, []), (5, 3, 0, 0, 0, []), (59, 6, 0, 0, 0, []), (3, 3, 0, 0, 0, []), (4, 0, 0, 0, 0, []), (44, 24, 4, 0, 208, []), (44, 47, 8, 1, 158, []), (38, 51, 0, 0, 69, []), (3, 2, 0, 0, 0, []), (3, 3, 0, 0, 0, []), (17, 0, 0, 0, 0, []), (0, 0, 0, 0, 1, []), (13, 0, 0, 0, 0, []), (30, 19, 0, 0, 6, []), (7, 1, 0, 0, 1, []), (3, 3, 0, 0, 0, []), (5, 4, 1, 0, 0, []), (0, 0, 0, 0, 0, []), (5, 5, 1, 0, 0, []), (59, 23, 0, 0, 0, []), (3, 5, 1, 0, 0, []), (4, 0, 0, 0, 0, []), (44, 24, 4, 0, 208, []), (44, 47, 8, 1, 158, []), (38, 48, 0, 0, 34, []), (3, 2, 0, 0, 0, []), (3, 4, 1, 0, 0, []), (17, 0, 0, 0, 0, []), (0, 0, 0, 0, 1, []), (13, 0, 0, 0, 0, []), (30, 48, 0, 0, 25, []), (3, 2, 0, 0, 0, []), (0, 0, 0, 0, 1, []), (3, 4, 1, 0, 0, []), (16, 0, 0, 0, 0, []), (14, 0, 0, 0, 0, []), (5, 2, 0, 0, 0, []), (4, 0, 0, 0, 0, []), (44, 9, 4, 4, 217, []), (3, 4, 1, 0, 0, []), (47, 0, 0, 0, 0, []), (5, 4, 1, 0, 0, []), (7, 5, 0, 0, 1, []), (41, 23, 0, 0, (-40), []), (59, 48, 0, 0, 0, []), (7, 3, 0, 0, 1, []), (41, 6, 0, 0, (-74), []), (3, 1, 0, 0, 0, []), (53, 0, 0, 0, 0, [])]
def ac_X_mend : List AOp := [(3, 1, 0, 0, 0, []), (0, 0, 0, 0, (-1), []), (37, 8, 0, 0, 12, []), (3, 2, 0, 0, 0, []), (31, 8, 0, 0, 8, []), (3, 2, 0, 0, 0, []), (0, 0, 0, 0, 1, []), (40, 10, 0, 0, 6, []), (0, 1, 0, 0, (-3), []), (53, 0, 0, 0, 0, []), (4, 0, 0, 0, 0, []), (44, 52, 9, 6, 434, []), (56, 214, 70, 0, 0, [(0, 826), (0, 827), (0, 828), (0, 80)]), (5, 3, 0, 0, 0, []), (3, 1, 0, 0, 0, []), (0, 0, 0, 0, (-1), []), (36, 19, 0, 0, 5, []), (3, 3, 0, 0, 0, []), (53, 0, 0, 0, 0, []), (3, 1, 0, 0, 0, []), (3, 3, 0, 0, 0, []), (37, 24, 0, 0, 5, []), (0, 0, 0, 0, (-1), []), (53, 0, 0, 0, 0, []), (3, 2, 0, 0, 0, []), (30, 32, 0, 0, 15, []), (4, 0, 0, 0, 0, []), (44, 52, 9, 6, 434, []), (44, 217, 3, 2, 275, []), (3, 1, 0, 0, 0, []), (47, 0, 0, 0, 0, []), (41, 37, 0, 0, 12, []), (4, 0, 0, 0, 0, []), (44, 52, 9, 6, 434, []), (44, 220, 3, 3, 277, []), (3, 1, 0, 0, 0, []), (47, 0, 0, 0, 0, []), (53, 0, 0, 0, 0, [])]
def ac_Mend_find : List AOp := [(4, 0, 0, 0, 0, []), (44, 25, 3, 1, 273, []), (44, 29, 4, 4, 218, []), (0, 0, 0, 0, 0, []), (4, 0, 0, 0, 0, []), (44, 18, 3, 4, 278, []), (0, 0, 0, 0, 0, []), (0, 1, 0, 0, 6, []), (58, 32, 0, 0, 0, [(0, 830), (0, 809), (0, 808), (0, 92)]), (0, 0, 0, 0, 0, []), (5, 1, 0, 0, 0, []), (59, 11, 0, 0, 0, []), (3, 1, 0, 0, 0, []), (4, 0, 0, 0, 0, []), (44, 21, 3, 0, 272, []), (44, 38, 8, 1, 154, []), (38, 33, 0, 0, 33, []), (4, 0, 0, 0, 0, []), (44, 18, 3, 4, 278, []), (3, 1, 0, 0, 0, []), (47, 0, 0, 0, 0, []), (3, 1, 0, 0, 0, []), (35, 31, 0, 0, 17, []), (4, 0, 0, 0, 0, []), (44, 21, 3, 0, 272, []), (3, 1, 0, 0, 0, []), (0, 0, 0, 0, 1, []), (56, 44, 53, 2, 1, [(0, 831), (0, 754), (0, 755), (0, 77)]), (29, 31, 0, 0, 5, []), (0, 0, 0, 0, (-1), []), (53, 0, 0, 0, 0, []), (7, 1, 0, 0, 1, []), (41, 11, 0, 0, (-38), []), (59, 33, 0, 0, 0, []), (0, 0, 0, 0, 0, []), (5, 1, 0, 0, 0, []), (0, 0, 0, 0, 0, []), (5, 2, 0, 0, 0, []), (59, 38, 0, 0, 0, []), (3, 2, 0, 0, 0, []), (4, 0, 0, 0, 0, []), (44, 21, 3, 0, 272, []), (44, 38, 8, 1, 154, []), (38, 80, 0, 0, 61, []), (4, 0, 0, 0, 0, []), (44, 18, 3, 4, 278, []), (3, 2, 0, 0, 0, []), (47, 0, 0, 0, 0, []), (3, 2, 0, 0, 0, []), (35, 78, 0, 0, 45, []), (4, 0, 0, 0, 0, []), (3, 2, 0, 0, 0, []), (56, 48, 71, 1, 0, [(0, 832), (0, 834), (0, 14), (0, 80)]), (5, 3, 0, 0, 0, []), (4, 0, 0, 0, 0, []), (44, 9, 3, 2, 274, []), (3, 1, 0, 0, 0, []), (3, 2, 0, 0, 0, []), (48, 0, 0, 0, 0, []), (4, 0, 0, 0, 0, []), (44, 15, 3, 3, 276, []), (3, 1, 0, 0, 0, []), (3, 3, 0, 0, 0, []), (48, 0, 0, 0, 0, []), (7, 1, 0, 0, 1, []), (4, 0, 0, 0, 0, []), (44, 18, 3, 4, 278, []), (3, 3, 0, 0, 0, []), (4, 0, 0, 0, 0, []), (44, 18, 3, 4, 278, []), (3, 2, 0, 0, 0, []), (47, 0, 0, 0, 0, []), (48, 0, 0, 0, 0, []), (4, 0, 0, 0, 0, []), (44, 18, 3, 4, 278, []), (3, 2, 0, 0, 0, []), (3, 2, 0, 0, 0, []), (48, 0, 0, 0, 0, []), (7, 2, 0, 0, 1, []), (41, 38, 0, 0, (-66), []), (3, 1, 0, 0, 0, []), (53, 0, 0, 0, 0, [])]
def ac_Mend_placeOfOwn : List AOp := [(3, 1, 0, 0, 0, []), (5, 2, 0, 0, 0, []), (59, 2, 0, 0, 0, []), (3, 2, 0, 0, 0, []), (4, 0, 0, 0, 0, []), (44, 21, 3, 0, 272, []), (44, 38, 8, 1, 154, []), (38, 18, 0, 0, 21, []), (4, 0, 0, 0, 0, []), (44, 18, 3, 4, 278, []), (3, 2, 0, 0, 0, []), (47, 0, 0, 0, 0, []), (3, 1, 0, 0, 0, []), (36, 16, 0, 0, 5, []), (3, 2, 0, 0, 0, []), (53, 0, 0, 0, 0, []), (7, 2, 0, 0, 1, []), (41, 2, 0, 0, (-26), []), (3, 1, 0, 0, 0, []), (53, 0, 0, 0, 0, [])]
def ac_X_show : List AOp := [(4, 0, 0, 0, 0, []), (44, 19, 9, 1, 429, []), (3, 1, 0, 0, 0, []), (56, 122, 42, 1, 1, [(0, 703), (0, 704), (0, 705), (0, 77)]), (30, 7, 0, 0, 6, []), (0, 1, 0, 0, (-2), []), (53, 0, 0, 0, 0, []), (4, 0, 0, 0, 0, []), (44, 28, 9, 2, 430, []), (3, 1, 0, 0, 0, []), (56, 223, 73, 1, 0, [(0, 840), (0, 841), (0, 842), (0, 78)]), (53, 0, 0, 0, 0, [])]
def ac_Now_showable : List AOp := [(0, 0, 0, 0, 0, []), (5, 2, 0, 0, 0, []), (0, 0, 0, 0, 0, []), (5, 3, 0, 0, 0, []), (59, 4, 0, 0, 0, []), (3, 3, 0, 0, 0, []), (4, 0, 0, 0, 0, []), (44, 24, 4, 0, 208, []), (44, 47, 8, 1, 158, []), (38, 33, 0, 0, 48, []), (4, 0, 0, 0, 0, []), (44, 24, 4, 0, 208, []), (44, 56, 8, 8, 178, []), (3, 3, 0, 0, 0, []), (47, 0, 0, 0, 0, []), (3, 1, 0, 0, 0, []), (36, 31, 0, 0, 29, []), (4, 0, 0, 0, 0, []), (4, 0, 0, 0, 0, []), (44, 9, 4, 4, 217, []), (3, 3, 0, 0, 0, []), (47, 0, 0, 0, 0, []), (3, 3, 0, 0, 0, []), (4, 0, 0, 0, 0, []), (44, 24, 4, 0, 208, []), (44, 50, 8, 6, 173, []), (3, 3, 0, 0, 0, []), (47, 0, 0, 0, 0, []), (56, 63, 52, 3, 0, [(0, 794), (0, 750), (0, 751), (0, 78)]), (29, 31, 0, 0, 6, []), (7, 2, 0, 0, 1, []), (7, 3, 0, 0, 1, []), (41, 4, 0, 0, (-53), []), (3, 2, 0, 0, 0, []), (53, 0, 0, 0, 0, [])]
def ac_X_plan : List AOp := [(3, 1, 0, 0, 0, []), (31, 5, 0, 0, 8, []), (3, 1, 0, 0, 0, []), (0, 0, 0, 0, 1, []), (40, 7, 0, 0, 6, []), (0, 1, 0, 0, (-3), []), (53, 0, 0, 0, 0, []), (4, 0, 0, 0, 0, []), (44, 59, 9, 7, 435, []), (56, 226, 75, 0, 0, [(0, 848), (0, 849), (0, 850), (0, 81)]), (3, 1, 0, 0, 0, []), (30, 16, 0, 0, 13, []), (4, 0, 0, 0, 0, []), (44, 59, 9, 7, 435, []), (44, 228, 5, 5, 306, []), (41, 19, 0, 0, 10, []), (4, 0, 0, 0, 0, []), (44, 59, 9, 7, 435, []), (44, 231, 5, 6, 308, []), (53, 0, 0, 0, 0, [])]
def ac_Plan_find : List AOp := [(4, 0, 0, 0, 0, []), (56, 31, 76, 0, 0, [(0, 852), (0, 854), (0, 15), (0, 81)]), (5, 1, 0, 0, 0, []), (4, 0, 0, 0, 0, []), (3, 1, 0, 0, 0, []), (57, 35, 77, 1, 0, [(0, 857), (0, 858), (0, 93)]), (56, 41, 78, 1, 0, [(0, 863), (0, 865), (0, 16), (0, 81)]), (4, 0, 0, 0, 0, []), (44, 23, 5, 0, 298, []), (44, 45, 8, 2, 160, []), (0, 0, 0, 0, 1, []), (9, 0, 0, 0, 0, []), (5, 2, 0, 0, 0, []), (59, 13, 0, 0, 0, []), (3, 2, 0, 0, 0, []), (4, 0, 0, 0, 0, []), (44, 27, 5, 1, 299, []), (44, 51, 4, 1, 210, []), (37, 26, 0, 0, 18, []), (4, 0, 0, 0, 0, []), (3, 2, 0, 0, 0, []), (3, 1, 0, 0, 0, []), (57, 35, 77, 1, 0, [(0, 857), (0, 858), (0, 93)]), (56, 56, 80, 2, 0, [(0, 872), (0, 874), (0, 18), (0, 81)]), (7, 2, 0, 0, (-1), []), (41, 13, 0, 0, (-23), []), (59, 26, 0, 0, 0, []), (4, 0, 0, 0, 0, []), (0, 0, 0, 0, 0, []), (45, 60, 5, 6, 307, []), (4, 0, 0, 0, 0, []), (44, 27, 5, 1, 299, []), (44, 51, 4, 1, 210, []), (5, 2, 0, 0, 0, []), (59, 34, 0, 0, 0, []), (3, 2, 0, 0, 0, []), (4, 0, 0, 0, 0, []), (44, 23, 5, 0, 298, []), (44, 45, 8, 2, 160, []), (38, 47, 0, 0, 16, []), (4, 0, 0, 0, 0, []), (3, 2, 0, 0, 0, []), (3, 1, 0, 0, 0, []), (56, 63, 83, 2, 0, [(0, 885), (0, 887), (0, 20), (0, 81)]), (5, 1, 0, 0, 0, []), (7, 2, 0, 0, 1, []), (41, 34, 0, 0, (-21), []), (59, 47, 0, 0, 0, []), (4, 0, 0, 0, 0, []), (3, 1, 0, 0, 0, []), (4, 0, 0, 0, 0, []), (56, 67, 79, 0, 0, [(0, 867), (0, 869), (0, 17), (0, 81)]), (13, 0, 0, 0, 0, []), (57, 35, 77, 1, 0, [(0, 857), (0, 858), (0, 93)]), (45, 70, 5, 5, 305, []), (54, 0, 0, 0, 0, [])]
def ac_Plan_charmSet : List AOp := [(0, 0, 0, 0, 0, []), (5, 1, 0, 0, 0, []), (0, 0, 0, 0, 0, []), (5, 2, 0, 0, 0, []), (59, 4, 0, 0, 0, []), (3, 2, 0, 0, 0, []), (4, 0, 0, 0, 0, []), (44, 23, 5, 0, 298, []), (44, 73, 8, 1, 155, []), (38, 27, 0, 0, 34, []), (4, 0, 0, 0, 0, []), (44, 23, 5, 0, 298, []), (4, 0, 0, 0, 0, []), (44, 27, 5, 1, 299, []), (44, 76, 4, 4, 219, []), (3, 2, 0, 0, 0, []), (47, 0, 0, 0, 0, []), (56, 79, 63, 1, 1, [(0, 856), (0, 796), (0, 797), (0, 77)]), (29, 25, 0, 0, 9, []), (3, 1, 0, 0, 0, []), (0, 0, 0, 0, 1, []), (3, 2, 0, 0, 0, []), (16, 0, 0, 0, 0, []), (14, 0, 0, 0, 0, []), (5, 1, 0, 0, 0, []), (7, 2, 0, 0, 1, []), (41, 4, 0, 0, (-39), []), (3, 1, 0, 0, 0, []), (53, 0, 0, 0, 0, [])]
def ac_JInteger_bitCount : List AOp := [(3, 0, 0, 0, 0, []), (3, 0, 0, 0, 0, []), (0, 0, 0, 0, 1, []), (18, 0, 0, 0, 0, []), (0, 4, 265, 860, 1431655765, []), (13, 0, 0, 0, 0, []), (9, 0, 0, 0, 0, []), (5, 0, 0, 0, 0, []), (3, 0, 0, 0, 0, []), (0, 4, 266, 861, 858993459, []), (13, 0, 0, 0, 0, []), (3, 0, 0, 0, 0, []), (0, 0, 0, 0, 2, []), (18, 0, 0, 0, 0, []), (0, 4, 266, 861, 858993459, []), (13, 0, 0, 0, 0, []), (8, 0, 0, 0, 0, []), (5, 0, 0, 0, 0, []), (3, 0, 0, 0, 0, []), (3, 0, 0, 0, 0, []), (0, 0, 0, 0, 4, []), (18, 0, 0, 0, 0, []), (8, 0, 0, 0, 0, []), (0, 4, 267, 862, 252645135, []), (13, 0, 0, 0, 0, []), (5, 0, 0, 0, 0, []), (3, 0, 0, 0, 0, []), (3, 0, 0, 0, 0, []), (0, 1, 0, 0, 8, []), (18, 0, 0, 0, 0, []), (8, 0, 0, 0, 0, []), (5, 0, 0, 0, 0, []), (3, 0, 0, 0, 0, []), (3, 0, 0, 0, 0, []), (0, 1, 0, 0, 16, []), (18, 0, 0, 0, 0, []), (8, 0, 0, 0, 0, []), (5, 0, 0, 0, 0, []), (3, 0, 0, 0, 0, []), (0, 1, 0, 0, 63, []), (13, 0, 0, 0, 0, []), (53, 0, 0, 0, 0, [])]
def ac_Plan_weighEnds : List AOp := [(4, 0, 0, 0, 0, []), (56, 67, 79, 0, 0, [(0, 867), (0, 869), (0, 17), (0, 81)]), (5, 2, 0, 0, 0, []), (0, 0, 0, 0, 0, []), (5, 3, 0, 0, 0, []), (59, 5, 0, 0, 0, []), (3, 3, 0, 0, 0, []), (0, 1, 0, 0, 64, []), (38, 29, 0, 0, 40, []), (3, 3, 0, 0, 0, []), (57, 35, 77, 1, 0, [(0, 857), (0, 858), (0, 93)]), (3, 1, 0, 0, 0, []), (36, 27, 0, 0, 26, []), (4, 0, 0, 0, 0, []), (44, 13, 5, 2, 300, []), (4, 0, 0, 0, 0, []), (44, 23, 5, 0, 298, []), (44, 45, 8, 2, 160, []), (51, 0, 0, 0, 0, []), (3, 3, 0, 0, 0, []), (0, 1, 0, 0, 16, []), (3, 3, 0, 0, 0, []), (3, 2, 0, 0, 0, []), (13, 0, 0, 0, 0, []), (57, 35, 77, 1, 0, [(0, 857), (0, 858), (0, 93)]), (10, 0, 0, 0, 0, []), (48, 0, 0, 0, 0, []), (7, 3, 0, 0, 1, []), (41, 5, 0, 0, (-40), []), (54, 0, 0, 0, 0, [])]
def ac_Plan_hostPlaces : List AOp := [(0, 0, 0, 0, 0, []), (5, 1, 0, 0, 0, []), (0, 0, 0, 0, 0, []), (5, 2, 0, 0, 0, []), (59, 4, 0, 0, 0, []), (3, 2, 0, 0, 0, []), (4, 0, 0, 0, 0, []), (44, 23, 5, 0, 298, []), (44, 73, 8, 1, 155, []), (38, 24, 0, 0, 27, []), (4, 0, 0, 0, 0, []), (44, 23, 5, 0, 298, []), (3, 2, 0, 0, 0, []), (0, 0, 0, 0, 3, []), (56, 83, 53, 2, 1, [(0, 871), (0, 754), (0, 755), (0, 77)]), (29, 22, 0, 0, 9, []), (3, 1, 0, 0, 0, []), (0, 0, 0, 0, 1, []), (3, 2, 0, 0, 0, []), (16, 0, 0, 0, 0, []), (14, 0, 0, 0, 0, []), (5, 1, 0, 0, 0, []), (7, 2, 0, 0, 1, []), (41, 4, 0, 0, (-32), []), (3, 1, 0, 0, 0, []), (53, 0, 0, 0, 0, [])]
def ac_Plan_weighNight : List AOp := [(0, 0, 0, 0, 0, []), (5, 3, 0, 0, 0, []), (59, 2, 0, 0, 0, []), (3, 3, 0, 0, 0, []), (0, 1, 0, 0, 64, []), (38, 26, 0, 0, 35, []), (3, 3, 0, 0, 0, []), (57, 35, 77, 1, 0, [(0, 857), (0, 858), (0, 93)]), (3, 2, 0, 0, 0, []), (36, 24, 0, 0, 21, []), (4, 0, 0, 0, 0, []), (44, 13, 5, 2, 300, []), (3, 1, 0, 0, 0, []), (51, 0, 0, 0, 0, []), (3, 3, 0, 0, 0, []), (4, 0, 0, 0, 0, []), (44, 13, 5, 2, 300, []), (3, 1, 0, 0, 0, []), (0, 0, 0, 0, 1, []), (8, 0, 0, 0, 0, []), (51, 0, 0, 0, 0, []), (3, 3, 0, 0, 0, []), (47, 0, 0, 0, 0, []), (48, 0, 0, 0, 0, []), (7, 3, 0, 0, 1, []), (41, 2, 0, 0, (-35), []), (59, 26, 0, 0, 0, []), (0, 0, 0, 0, 0, []), (5, 3, 0, 0, 0, []), (59, 29, 0, 0, 0, []), (3, 3, 0, 0, 0, []), (4, 0, 0, 0, 0, []), (44, 23, 5, 0, 298, []), (44, 73, 8, 1, 155, []), (38, 63, 0, 0, 55, []), (3, 3, 0, 0, 0, []), (0, 0, 0, 0, 1, []), (8, 0, 0, 0, 0, []), (5, 4, 1, 0, 0, []), (59, 39, 0, 0, 0, []), (3, 4, 1, 0, 0, []), (4, 0, 0, 0, 0, []), (44, 23, 5, 0, 298, []), (44, 73, 8, 1, 155, []), (38, 60, 0, 0, 32, []), (4, 0, 0, 0, 0, []), (44, 23, 5, 0, 298, []), (3, 1, 0, 0, 0, []), (3, 3, 0, 0, 0, []), (3, 4, 1, 0, 0, []), (56, 87, 57, 3, 0, [(0, 876), (0, 770), (0, 771), (0, 77)]), (29, 58, 0, 0, 12, []), (4, 0, 0, 0, 0, []), (3, 1, 0, 0, 0, []), (3, 3, 0, 0, 0, []), (3, 4, 1, 0, 0, []), (3, 2, 0, 0, 0, []), (56, 91, 81, 4, 0, [(0, 877), (0, 879), (0, 19), (0, 81)]), (7, 4, 0, 0, 1, []), (41, 39, 0, 0, (-38), []), (59, 60, 0, 0, 0, []), (7, 3, 0, 0, 1, []), (41, 29, 0, 0, (-60), []), (54, 0, 0, 0, 0, [])]
def ac_Plan_weighChange : List AOp := [(0, 0, 0, 0, 0, []), (5, 5, 1, 0, 0, []), (59, 2, 0, 0, 0, []), (3, 5, 1, 0, 0, []), (0, 1, 0, 0, 64, []), (38, 40, 0, 0, 62, []), (3, 5, 1, 0, 0, []), (57, 35, 77, 1, 0, [(0, 857), (0, 858), (0, 93)]), (3, 4, 1, 0, 0, []), (36, 38, 0, 0, 46, []), (4, 0, 0, 0, 0, []), (44, 13, 5, 2, 300, []), (3, 1, 0, 0, 0, []), (0, 0, 0, 0, 1, []), (8, 0, 0, 0, 0, []), (51, 0, 0, 0, 0, []), (3, 5, 1, 0, 0, []), (3, 2, 0, 0, 0, []), (3, 3, 0, 0, 0, []), (57, 95, 82, 3, 1, [(0, 881), (0, 882), (0, 81)]), (47, 0, 0, 0, 0, []), (0, 0, 0, 0, 1, []), (9, 0, 0, 0, 0, []), (5, 6, 1, 0, 0, []), (4, 0, 0, 0, 0, []), (44, 13, 5, 2, 300, []), (3, 1, 0, 0, 0, []), (51, 0, 0, 0, 0, []), (3, 5, 1, 0, 0, []), (4, 0, 0, 0, 0, []), (44, 13, 5, 2, 300, []), (3, 1, 0, 0, 0, []), (51, 0, 0, 0, 0, []), (3, 5, 1, 0, 0, []), (47, 0, 0, 0, 0, []), (3, 6, 1, 0, 0, []), (61, 99, 0, 0, 0, [(0, 884), (0, 636), (0, 90), (0, 637)]), (48, 0, 0, 0, 0, []), (7, 5, 0, 0, 1, []), (41, 2, 0, 0, (-63), []), (54, 0, 0, 0, 0, [])]
def ac_Plan_exchanged : List AOp := [(3, 0, 0, 0, 0, []), (3, 1, 0, 0, 0, []), (17, 0, 0, 0, 0, []), (3, 0, 0, 0, 0, []), (3, 2, 0, 0, 0, []), (17, 0, 0, 0, 0, []), (15, 0, 0, 0, 0, []), (0, 0, 0, 0, 1, []), (13, 0, 0, 0, 0, []), (5, 3, 0, 0, 0, []), (3, 0, 0, 0, 0, []), (3, 3, 0, 0, 0, []), (3, 1, 0, 0, 0, []), (16, 0, 0, 0, 0, []), (3, 3, 0, 0, 0, []), (3, 2, 0, 0, 0, []), (16, 0, 0, 0, 0, []), (14, 0, 0, 0, 0, []), (15, 0, 0, 0, 0, []), (53, 0, 0, 0, 0, [])]
def ac_Plan_chooseChange : List AOp := [(4, 0, 0, 0, 0, []), (44, 16, 5, 3, 301, []), (3, 1, 0, 0, 0, []), (0, 0, 0, 0, (-1), []), (48, 0, 0, 0, 0, []), (4, 0, 0, 0, 0, []), (44, 20, 5, 4, 303, []), (3, 1, 0, 0, 0, []), (0, 0, 0, 0, (-1), []), (48, 0, 0, 0, 0, []), (4, 0, 0, 0, 0, []), (44, 13, 5, 2, 300, []), (3, 1, 0, 0, 0, []), (0, 0, 0, 0, 1, []), (8, 0, 0, 0, 0, []), (51, 0, 0, 0, 0, []), (3, 2, 0, 0, 0, []), (47, 0, 0, 0, 0, []), (4, 0, 0, 0, 0, []), (44, 13, 5, 2, 300, []), (3, 1, 0, 0, 0, []), (51, 0, 0, 0, 0, []), (3, 2, 0, 0, 0, []), (47, 0, 0, 0, 0, []), (36, 27, 0, 0, 5, []), (3, 2, 0, 0, 0, []), (53, 0, 0, 0, 0, []), (0, 0, 0, 0, 0, []), (5, 3, 0, 0, 0, []), (59, 29, 0, 0, 0, []), (3, 3, 0, 0, 0, []), (4, 0, 0, 0, 0, []), (44, 23, 5, 0, 298, []), (44, 73, 8, 1, 155, []), (38, 97, 0, 0, 107, []), (3, 3, 0, 0, 0, []), (0, 0, 0, 0, 1, []), (8, 0, 0, 0, 0, []), (5, 4, 1, 0, 0, []), (59, 39, 0, 0, 0, []), (3, 4, 1, 0, 0, []), (4, 0, 0, 0, 0, []), (44, 23, 5, 0, 298, []), (44, 73, 8, 1, 155, []), (38, 94, 0, 0, 84, []), (3, 2, 0, 0, 0, []), (3, 3, 0, 0, 0, []), (3, 4, 1, 0, 0, []), (57, 95, 82, 3, 1, [(0, 881), (0, 882), (0, 81)]), (5, 5, 1, 0, 0, []), (4, 0, 0, 0, 0, []), (44, 23, 5, 0, 298, []), (3, 1, 0, 0, 0, []), (3, 3, 0, 0, 0, []), (3, 4, 1, 0, 0, []), (56, 87, 57, 3, 0, [(0, 876), (0, 770), (0, 771), (0, 77)]), (29, 92, 0, 0, 55, []), (4, 0, 0, 0, 0, []), (44, 13, 5, 2, 300, []), (3, 1, 0, 0, 0, []), (0, 0, 0, 0, 1, []), (8, 0, 0, 0, 0, []), (51, 0, 0, 0, 0, []), (3, 5, 1, 0, 0, []), (47, 0, 0, 0, 0, []), (0, 0, 0, 0, 1, []), (9, 0, 0, 0, 0, []), (4, 0, 0, 0, 0, []), (44, 13, 5, 2, 300, []), (3, 1, 0, 0, 0, []), (51, 0, 0, 0, 0, []), (3, 2, 0, 0, 0, []), (47, 0, 0, 0, 0, []), (36, 92, 0, 0, 31, []), (4, 0, 0, 0, 0, []), (44, 16, 5, 3, 301, []), (3, 1, 0, 0, 0, []), (3, 3, 0, 0, 0, []), (48, 0, 0, 0, 0, []), (4, 0, 0, 0, 0, []), (44, 20, 5, 4, 303, []), (3, 1, 0, 0, 0, []), (3, 4, 1, 0, 0, []), (48, 0, 0, 0, 0, []), (4, 0, 0, 0, 0, []), (26, 0, 0, 0, 0, []), (44, 60, 5, 6, 307, []), (0, 0, 0, 0, 1, []), (8, 0, 0, 0, 0, []), (45, 60, 5, 6, 307, []), (3, 5, 1, 0, 0, []), (53, 0, 0, 0, 0, []), (7, 4, 0, 0, 1, []), (41, 39, 0, 0, (-90), []), (59, 94, 0, 0, 0, []), (7, 3, 0, 0, 1, []), (41, 29, 0, 0, (-112), []), (3, 2, 0, 0, 0, []), (53, 0, 0, 0, 0, [])]
def ac_X_planned : List AOp := [(4, 0, 0, 0, 0, []), (44, 19, 9, 1, 429, []), (3, 1, 0, 0, 0, []), (56, 189, 56, 1, 1, [(0, 765), (0, 766), (0, 767), (0, 77)]), (29, 10, 0, 0, 14, []), (3, 1, 0, 0, 0, []), (4, 0, 0, 0, 0, []), (44, 28, 9, 2, 430, []), (44, 195, 4, 1, 212, []), (38, 12, 0, 0, 6, []), (0, 1, 0, 0, (-2), []), (53, 0, 0, 0, 0, []), (3, 2, 0, 0, 0, []), (31, 17, 0, 0, 8, []), (3, 2, 0, 0, 0, []), (0, 0, 0, 0, 1, []), (40, 19, 0, 0, 6, []), (0, 1, 0, 0, (-3), []), (53, 0, 0, 0, 0, []), (4, 0, 0, 0, 0, []), (44, 59, 9, 7, 435, []), (56, 226, 75, 0, 0, [(0, 848), (0, 849), (0, 850), (0, 81)]), (3, 2, 0, 0, 0, []), (30, 30, 0, 0, 15, []), (4, 0, 0, 0, 0, []), (44, 59, 9, 7, 435, []), (44, 234, 5, 3, 302, []), (3, 1, 0, 0, 0, []), (47, 0, 0, 0, 0, []), (41, 35, 0, 0, 12, []), (4, 0, 0, 0, 0, []), (44, 59, 9, 7, 435, []), (44, 235, 5, 4, 304, []), (3, 1, 0, 0, 0, []), (47, 0, 0, 0, 0, []), (53, 0, 0, 0, 0, [])]
def ac_X_seen : List AOp := [(4, 0, 0, 0, 0, []), (44, 19, 9, 1, 429, []), (3, 1, 0, 0, 0, []), (56, 149, 38, 1, 1, [(0, 736), (0, 688), (0, 689), (0, 77)]), (30, 7, 0, 0, 6, []), (0, 1, 0, 0, (-2), []), (53, 0, 0, 0, 0, []), (3, 2, 0, 0, 0, []), (31, 17, 0, 0, 17, []), (3, 2, 0, 0, 0, []), (0, 0, 0, 0, 4, []), (38, 17, 0, 0, 12, []), (3, 3, 0, 0, 0, []), (31, 17, 0, 0, 8, []), (3, 3, 0, 0, 0, []), (0, 0, 0, 0, 1, []), (40, 19, 0, 0, 6, []), (0, 1, 0, 0, (-3), []), (53, 0, 0, 0, 0, []), (4, 0, 0, 0, 0, []), (44, 43, 9, 5, 433, []), (3, 1, 0, 0, 0, []), (3, 2, 0, 0, 0, []), (3, 3, 0, 0, 0, []), (0, 0, 0, 0, 1, []), (36, 28, 0, 0, 7, []), (0, 0, 0, 0, 1, []), (41, 29, 0, 0, 4, []), (0, 0, 0, 0, 0, []), (56, 236, 86, 3, 0, [(0, 897), (0, 898), (0, 899), (0, 79)]), (29, 35, 0, 0, 13, []), (4, 0, 0, 0, 0, []), (44, 43, 9, 5, 433, []), (44, 118, 6, 0, 252, []), (41, 36, 0, 0, 5, []), (0, 1, 0, 0, (-5), []), (53, 0, 0, 0, 0, [])]
def ac_Seen_append : List AOp := [(4, 0, 0, 0, 0, []), (44, 22, 6, 0, 251, []), (0, 1, 0, 0, 10, []), (37, 6, 0, 0, 5, []), (0, 0, 0, 0, 0, []), (53, 0, 0, 0, 0, []), (4, 0, 0, 0, 0, []), (44, 9, 6, 1, 253, []), (4, 0, 0, 0, 0, []), (44, 22, 6, 0, 251, []), (3, 1, 0, 0, 0, []), (48, 0, 0, 0, 0, []), (4, 0, 0, 0, 0, []), (44, 15, 6, 2, 254, []), (4, 0, 0, 0, 0, []), (44, 22, 6, 0, 251, []), (3, 2, 0, 0, 0, []), (48, 0, 0, 0, 0, []), (4, 0, 0, 0, 0, []), (44, 18, 6, 3, 255, []), (4, 0, 0, 0, 0, []), (44, 22, 6, 0, 251, []), (3, 3, 0, 0, 0, []), (50, 0, 0, 0, 0, []), (4, 0, 0, 0, 0, []), (26, 0, 0, 0, 0, []), (44, 22, 6, 0, 251, []), (0, 0, 0, 0, 1, []), (8, 0, 0, 0, 0, []), (45, 22, 6, 0, 251, []), (0, 0, 0, 0, 1, []), (53, 0, 0, 0, 0, [])]
def ac_X_forget : List AOp := [(4, 0, 0, 0, 0, []), (44, 43, 9, 5, 433, []), (44, 118, 6, 0, 252, []), (5, 1, 0, 0, 0, []), (4, 0, 0, 0, 0, []), (44, 43, 9, 5, 433, []), (0, 0, 0, 0, 0, []), (45, 118, 6, 0, 252, []), (3, 1, 0, 0, 0, []), (53, 0, 0, 0, 0, [])]
def ac_X_fit : List AOp := [(4, 0, 0, 0, 0, []), (44, 68, 9, 8, 436, []), (56, 239, 89, 0, 0, [(0, 909), (0, 910), (0, 911), (0, 82)]), (4, 0, 0, 0, 0, []), (44, 68, 9, 8, 436, []), (44, 242, 2, 7, 342, []), (53, 0, 0, 0, 0, [])]
def ac_Fits_weigh : List AOp := [(0, 0, 0, 0, 0, []), (5, 1, 0, 0, 0, []), (59, 2, 0, 0, 0, []), (3, 1, 0, 0, 0, []), (4, 0, 0, 0, 0, []), (44, 24, 2, 0, 330, []), (44, 36, 8, 1, 152, []), (38, 17, 0, 0, 20, []), (4, 0, 0, 0, 0, []), (44, 9, 2, 3, 333, []), (3, 1, 0, 0, 0, []), (4, 0, 0, 0, 0, []), (3, 1, 0, 0, 0, []), (56, 42, 90, 1, 0, [(0, 913), (0, 915), (0, 21), (0, 82)]), (48, 0, 0, 0, 0, []), (7, 1, 0, 0, 1, []), (41, 2, 0, 0, (-25), []), (59, 17, 0, 0, 0, []), (0, 0, 0, 0, 1, []), (4, 0, 0, 0, 0, []), (44, 24, 2, 0, 330, []), (44, 36, 8, 1, 152, []), (16, 0, 0, 0, 0, []), (0, 0, 0, 0, 1, []), (9, 0, 0, 0, 0, []), (5, 1, 0, 0, 0, []), (4, 0, 0, 0, 0, []), (3, 1, 0, 0, 0, []), (56, 46, 92, 1, 0, [(0, 922), (0, 924), (0, 22), (0, 82)]), (4, 0, 0, 0, 0, []), (3, 1, 0, 0, 0, []), (56, 50, 93, 1, 0, [(0, 927), (0, 929), (0, 23), (0, 82)]), (4, 0, 0, 0, 0, []), (4, 0, 0, 0, 0, []), (44, 18, 2, 5, 337, []), (0, 0, 0, 0, 0, []), (47, 0, 0, 0, 0, []), (45, 53, 2, 7, 341, []), (4, 0, 0, 0, 0, []), (3, 1, 0, 0, 0, []), (56, 56, 94, 1, 0, [(0, 931), (0, 933), (0, 24), (0, 82)]), (54, 0, 0, 0, 0, [])]
def ac_Fits_allowedIn : List AOp := [(0, 0, 0, 0, 0, []), (5, 2, 0, 0, 0, []), (0, 0, 0, 0, 0, []), (5, 3, 0, 0, 0, []), (59, 4, 0, 0, 0, []), (3, 3, 0, 0, 0, []), (4, 0, 0, 0, 0, []), (44, 24, 2, 0, 330, []), (44, 36, 8, 1, 152, []), (38, 37, 0, 0, 52, []), (4, 0, 0, 0, 0, []), (44, 24, 2, 0, 330, []), (44, 59, 8, 5, 169, []), (3, 3, 0, 0, 0, []), (47, 0, 0, 0, 0, []), (4, 0, 0, 0, 0, []), (44, 24, 2, 0, 330, []), (44, 59, 8, 5, 169, []), (3, 1, 0, 0, 0, []), (47, 0, 0, 0, 0, []), (36, 35, 0, 0, 25, []), (4, 0, 0, 0, 0, []), (44, 32, 2, 2, 332, []), (4, 0, 0, 0, 0, []), (44, 28, 2, 1, 331, []), (3, 3, 0, 0, 0, []), (3, 1, 0, 0, 0, []), (56, 62, 91, 3, 0, [(0, 917), (0, 918), (0, 919), (0, 79)]), (29, 35, 0, 0, 9, []), (3, 2, 0, 0, 0, []), (0, 0, 0, 0, 1, []), (3, 3, 0, 0, 0, []), (16, 0, 0, 0, 0, []), (14, 0, 0, 0, 0, []), (5, 2, 0, 0, 0, []), (7, 3, 0, 0, 1, []), (41, 4, 0, 0, (-57), []), (3, 2, 0, 0, 0, []), (53, 0, 0, 0, 0, [])]
def ac_Seen_agrees : List AOp := [(0, 0, 0, 0, 0, []), (5, 4, 1, 0, 0, []), (59, 2, 0, 0, 0, []), (3, 4, 1, 0, 0, []), (4, 0, 0, 0, 0, []), (44, 22, 6, 0, 251, []), (38, 30, 0, 0, 45, []), (4, 0, 0, 0, 0, []), (44, 9, 6, 1, 253, []), (3, 4, 1, 0, 0, []), (47, 0, 0, 0, 0, []), (3, 3, 0, 0, 0, []), (36, 28, 0, 0, 28, []), (4, 1, 0, 0, 0, []), (3, 2, 0, 0, 0, []), (3, 3, 0, 0, 0, []), (4, 0, 0, 0, 0, []), (44, 15, 6, 2, 254, []), (3, 4, 1, 0, 0, []), (47, 0, 0, 0, 0, []), (56, 26, 52, 3, 0, [(0, 921), (0, 750), (0, 751), (0, 78)]), (4, 0, 0, 0, 0, []), (44, 18, 6, 3, 255, []), (3, 4, 1, 0, 0, []), (49, 0, 0, 0, 0, []), (35, 28, 0, 0, 5, []), (0, 0, 0, 0, 0, []), (53, 0, 0, 0, 0, []), (7, 4, 0, 0, 1, []), (41, 2, 0, 0, (-48), []), (0, 0, 0, 0, 1, []), (53, 0, 0, 0, 0, [])]
def ac_Fits_weighHeads : List AOp := [(4, 0, 0, 0, 0, []), (44, 15, 2, 4, 336, []), (0, 0, 0, 0, 0, []), (0, 0, 0, 0, 1, []), (48, 0, 0, 0, 0, []), (0, 0, 0, 0, 1, []), (5, 2, 0, 0, 0, []), (59, 7, 0, 0, 0, []), (3, 2, 0, 0, 0, []), (3, 1, 0, 0, 0, []), (39, 59, 0, 0, 81, []), (3, 2, 0, 0, 0, []), (4, 0, 0, 0, 0, []), (44, 9, 2, 3, 333, []), (3, 2, 0, 0, 0, []), (57, 68, 77, 1, 0, [(0, 926), (0, 858), (0, 93)]), (0, 0, 0, 0, 1, []), (9, 0, 0, 0, 0, []), (47, 0, 0, 0, 0, []), (13, 0, 0, 0, 0, []), (5, 3, 0, 0, 0, []), (0, 0, 0, 0, 0, []), (5, 4, 1, 0, 0, []), (0, 0, 0, 0, 0, []), (5, 5, 1, 0, 0, []), (59, 25, 0, 0, 0, []), (3, 5, 1, 0, 0, []), (4, 0, 0, 0, 0, []), (44, 24, 2, 0, 330, []), (44, 36, 8, 1, 152, []), (38, 51, 0, 0, 35, []), (3, 3, 0, 0, 0, []), (3, 5, 1, 0, 0, []), (17, 0, 0, 0, 0, []), (0, 0, 0, 0, 1, []), (13, 0, 0, 0, 0, []), (0, 0, 0, 0, 1, []), (36, 49, 0, 0, 19, []), (3, 4, 1, 0, 0, []), (4, 0, 0, 0, 0, []), (44, 15, 2, 4, 336, []), (3, 2, 0, 0, 0, []), (0, 0, 0, 0, 1, []), (3, 5, 1, 0, 0, []), (16, 0, 0, 0, 0, []), (15, 0, 0, 0, 0, []), (47, 0, 0, 0, 0, []), (8, 0, 0, 0, 0, []), (5, 4, 1, 0, 0, []), (7, 5, 0, 0, 1, []), (41, 25, 0, 0, (-41), []), (59, 51, 0, 0, 0, []), (4, 0, 0, 0, 0, []), (44, 15, 2, 4, 336, []), (3, 2, 0, 0, 0, []), (3, 4, 1, 0, 0, []), (48, 0, 0, 0, 0, []), (7, 2, 0, 0, 1, []), (41, 7, 0, 0, (-80), []), (54, 0, 0, 0, 0, [])]
def ac_Fits_weighTails : List AOp := [(4, 0, 0, 0, 0, []), (44, 18, 2, 5, 337, []), (3, 1, 0, 0, 0, []), (0, 0, 0, 0, 1, []), (48, 0, 0, 0, 0, []), (3, 1, 0, 0, 0, []), (0, 0, 0, 0, 1, []), (9, 0, 0, 0, 0, []), (5, 2, 0, 0, 0, []), (59, 9, 0, 0, 0, []), (3, 2, 0, 0, 0, []), (31, 60, 0, 0, 81, []), (4, 0, 0, 0, 0, []), (44, 9, 2, 3, 333, []), (3, 2, 0, 0, 0, []), (57, 68, 77, 1, 0, [(0, 926), (0, 858), (0, 93)]), (47, 0, 0, 0, 0, []), (3, 2, 0, 0, 0, []), (0, 0, 0, 0, (-1), []), (15, 0, 0, 0, 0, []), (13, 0, 0, 0, 0, []), (5, 3, 0, 0, 0, []), (0, 0, 0, 0, 0, []), (5, 4, 1, 0, 0, []), (0, 0, 0, 0, 0, []), (5, 5, 1, 0, 0, []), (59, 26, 0, 0, 0, []), (3, 5, 1, 0, 0, []), (4, 0, 0, 0, 0, []), (44, 24, 2, 0, 330, []), (44, 36, 8, 1, 152, []), (38, 52, 0, 0, 35, []), (3, 3, 0, 0, 0, []), (3, 5, 1, 0, 0, []), (17, 0, 0, 0, 0, []), (0, 0, 0, 0, 1, []), (13, 0, 0, 0, 0, []), (0, 0, 0, 0, 1, []), (36, 50, 0, 0, 19, []), (3, 4, 1, 0, 0, []), (4, 0, 0, 0, 0, []), (44, 18, 2, 5, 337, []), (3, 2, 0, 0, 0, []), (0, 0, 0, 0, 1, []), (3, 5, 1, 0, 0, []), (16, 0, 0, 0, 0, []), (14, 0, 0, 0, 0, []), (47, 0, 0, 0, 0, []), (8, 0, 0, 0, 0, []), (5, 4, 1, 0, 0, []), (7, 5, 0, 0, 1, []), (41, 26, 0, 0, (-41), []), (59, 52, 0, 0, 0, []), (4, 0, 0, 0, 0, []), (44, 18, 2, 5, 337, []), (3, 2, 0, 0, 0, []), (3, 4, 1, 0, 0, []), (48, 0, 0, 0, 0, []), (7, 2, 0, 0, (-1), []), (41, 9, 0, 0, (-79), []), (54, 0, 0, 0, 0, [])]
def ac_Fits_weighLying : List AOp := [(4, 0, 0, 0, 0, []), (44, 21, 2, 6, 339, []), (0, 0, 0, 0, 0, []), (57, 73, 95, 2, 0, [(0, 935), (0, 936), (0, 94)]), (0, 0, 0, 0, 0, []), (5, 2, 0, 0, 0, []), (59, 6, 0, 0, 0, []), (3, 2, 0, 0, 0, []), (3, 1, 0, 0, 0, []), (38, 66, 0, 0, 91, []), (3, 2, 0, 0, 0, []), (57, 68, 77, 1, 0, [(0, 926), (0, 858), (0, 93)]), (5, 3, 0, 0, 0, []), (4, 0, 0, 0, 0, []), (44, 9, 2, 3, 333, []), (3, 3, 0, 0, 0, []), (47, 0, 0, 0, 0, []), (3, 2, 0, 0, 0, []), (0, 0, 0, 0, (-1), []), (15, 0, 0, 0, 0, []), (13, 0, 0, 0, 0, []), (5, 4, 1, 0, 0, []), (0, 0, 0, 0, 0, []), (5, 5, 1, 0, 0, []), (59, 24, 0, 0, 0, []), (3, 5, 1, 0, 0, []), (4, 0, 0, 0, 0, []), (44, 24, 2, 0, 330, []), (44, 36, 8, 1, 152, []), (38, 63, 0, 0, 53, []), (3, 4, 1, 0, 0, []), (3, 5, 1, 0, 0, []), (17, 0, 0, 0, 0, []), (0, 0, 0, 0, 1, []), (13, 0, 0, 0, 0, []), (0, 0, 0, 0, 1, []), (36, 61, 0, 0, 36, []), (4, 0, 0, 0, 0, []), (44, 21, 2, 6, 339, []), (3, 3, 0, 0, 0, []), (0, 1, 0, 0, 6, []), (10, 0, 0, 0, 0, []), (3, 5, 1, 0, 0, []), (8, 0, 0, 0, 0, []), (27, 0, 0, 0, 0, []), (47, 0, 0, 0, 0, []), (4, 0, 0, 0, 0, []), (44, 15, 2, 4, 336, []), (3, 2, 0, 0, 0, []), (47, 0, 0, 0, 0, []), (4, 0, 0, 0, 0, []), (44, 18, 2, 5, 337, []), (3, 2, 0, 0, 0, []), (0, 0, 0, 0, 1, []), (3, 5, 1, 0, 0, []), (16, 0, 0, 0, 0, []), (14, 0, 0, 0, 0, []), (47, 0, 0, 0, 0, []), (10, 0, 0, 0, 0, []), (8, 0, 0, 0, 0, []), (48, 0, 0, 0, 0, []), (7, 5, 0, 0, 1, []), (41, 24, 0, 0, (-59), []), (59, 63, 0, 0, 0, []), (7, 2, 0, 0, 1, []), (41, 6, 0, 0, (-90), []), (54, 0, 0, 0, 0, [])]
def ac_JArrays_fill : List AOp := [(0, 0, 0, 0, 0, []), (5, 2, 0, 0, 0, []), (4, 0, 0, 0, 0, []), (52, 0, 0, 0, 0, []), (5, 3, 0, 0, 0, []), (59, 5, 0, 0, 0, []), (3, 2, 0, 0, 0, []), (3, 3, 0, 0, 0, []), (38, 15, 0, 0, 13, []), (4, 0, 0, 0, 0, []), (3, 2, 0, 0, 0, []), (3, 1, 0, 0, 0, []), (48, 0, 0, 0, 0, []), (7, 2, 0, 0, 1, []), (41, 5, 0, 0, (-12), []), (54, 0, 0, 0, 0, [])]
def ac_X_lies : List AOp := [(4, 0, 0, 0, 0, []), (44, 19, 9, 1, 429, []), (3, 1, 0, 0, 0, []), (56, 149, 38, 1, 1, [(0, 736), (0, 688), (0, 689), (0, 77)]), (30, 7, 0, 0, 6, []), (0, 1, 0, 0, (-2), []), (53, 0, 0, 0, 0, []), (4, 0, 0, 0, 0, []), (44, 68, 9, 8, 436, []), (56, 239, 89, 0, 0, [(0, 909), (0, 910), (0, 911), (0, 82)]), (4, 0, 0, 0, 0, []), (44, 68, 9, 8, 436, []), (3, 1, 0, 0, 0, []), (56, 245, 97, 1, 0, [(0, 942), (0, 943), (0, 944), (0, 82)]), (53, 0, 0, 0, 0, [])]
def ac_Fits_mayLie : List AOp := [(0, 0, 0, 0, 0, []), (5, 2, 0, 0, 0, []), (0, 0, 0, 0, 0, []), (5, 3, 0, 0, 0, []), (59, 4, 0, 0, 0, []), (3, 3, 0, 0, 0, []), (4, 0, 0, 0, 0, []), (44, 24, 2, 0, 330, []), (44, 36, 8, 1, 152, []), (38, 27, 0, 0, 29, []), (4, 0, 0, 0, 0, []), (44, 21, 2, 6, 339, []), (3, 1, 0, 0, 0, []), (0, 1, 0, 0, 6, []), (10, 0, 0, 0, 0, []), (3, 3, 0, 0, 0, []), (8, 0, 0, 0, 0, []), (47, 0, 0, 0, 0, []), (34, 25, 0, 0, 9, []), (3, 2, 0, 0, 0, []), (0, 0, 0, 0, 1, []), (3, 3, 0, 0, 0, []), (16, 0, 0, 0, 0, []), (14, 0, 0, 0, 0, []), (5, 2, 0, 0, 0, []), (7, 3, 0, 0, 1, []), (41, 4, 0, 0, (-34), []), (3, 2, 0, 0, 0, []), (53, 0, 0, 0, 0, [])]
def ac_X_sure : List AOp := [(4, 0, 0, 0, 0, []), (44, 68, 9, 8, 436, []), (56, 239, 89, 0, 0, [(0, 909), (0, 910), (0, 911), (0, 82)]), (4, 0, 0, 0, 0, []), (44, 68, 9, 8, 436, []), (56, 248, 99, 0, 0, [(0, 950), (0, 951), (0, 952), (0, 82)]), (53, 0, 0, 0, 0, [])]
def ac_Fits_surePlaces : List AOp := [(0, 0, 0, 0, 0, []), (5, 1, 0, 0, 0, []), (0, 0, 0, 0, 0, []), (5, 2, 0, 0, 0, []), (59, 4, 0, 0, 0, []), (3, 2, 0, 0, 0, []), (4, 0, 0, 0, 0, []), (44, 24, 2, 0, 330, []), (44, 36, 8, 1, 152, []), (38, 24, 0, 0, 27, []), (4, 0, 0, 0, 0, []), (3, 2, 0, 0, 0, []), (56, 79, 97, 1, 0, [(0, 954), (0, 943), (0, 944), (0, 82)]), (57, 68, 77, 1, 0, [(0, 926), (0, 858), (0, 93)]), (0, 0, 0, 0, 1, []), (36, 22, 0, 0, 9, []), (3, 1, 0, 0, 0, []), (0, 0, 0, 0, 1, []), (3, 2, 0, 0, 0, []), (16, 0, 0, 0, 0, []), (14, 0, 0, 0, 0, []), (5, 1, 0, 0, 0, []), (7, 2, 0, 0, 1, []), (41, 4, 0, 0, (-32), []), (3, 1, 0, 0, 0, []), (53, 0, 0, 0, 0, [])]
def ac_X_odds : List AOp := [(4, 0, 0, 0, 0, []), (44, 19, 9, 1, 429, []), (3, 1, 0, 0, 0, []), (56, 149, 38, 1, 1, [(0, 736), (0, 688), (0, 689), (0, 77)]), (30, 7, 0, 0, 6, []), (0, 1, 0, 0, (-2), []), (53, 0, 0, 0, 0, []), (3, 2, 0, 0, 0, []), (31, 12, 0, 0, 8, []), (3, 2, 0, 0, 0, []), (0, 0, 0, 0, 1, []), (40, 14, 0, 0, 6, []), (0, 1, 0, 0, (-3), []), (53, 0, 0, 0, 0, []), (4, 0, 0, 0, 0, []), (44, 68, 9, 8, 436, []), (56, 239, 89, 0, 0, [(0, 909), (0, 910), (0, 911), (0, 82)]), (4, 0, 0, 0, 0, []), (44, 68, 9, 8, 436, []), (44, 242, 2, 7, 342, []), (30, 23, 0, 0, 6, []), (0, 1, 0, 0, (-4), []), (53, 0, 0, 0, 0, []), (4, 0, 0, 0, 0, []), (44, 68, 9, 8, 436, []), (3, 1, 0, 0, 0, []), (56, 251, 101, 1, 0, [(0, 959), (0, 960), (0, 961), (0, 82)]), (5, 3, 0, 0, 0, []), (3, 3, 0, 0, 0, []), (4, 0, 0, 0, 0, []), (44, 68, 9, 8, 436, []), (44, 242, 2, 7, 342, []), (57, 254, 102, 2, 0, [(0, 964), (0, 965), (0, 75)]), (5, 4, 1, 0, 0, []), (3, 2, 0, 0, 0, []), (30, 38, 0, 0, 7, []), (3, 3, 0, 0, 0, []), (41, 41, 0, 0, 10, []), (4, 0, 0, 0, 0, []), (44, 68, 9, 8, 436, []), (44, 242, 2, 7, 342, []), (3, 4, 1, 0, 0, []), (11, 0, 0, 0, 0, []), (53, 0, 0, 0, 0, [])]
def ac_Fits_withCharm : List AOp := [(0, 0, 0, 0, 0, []), (5, 2, 0, 0, 0, []), (0, 0, 0, 0, 0, []), (5, 3, 0, 0, 0, []), (59, 4, 0, 0, 0, []), (3, 3, 0, 0, 0, []), (4, 0, 0, 0, 0, []), (44, 24, 2, 0, 330, []), (44, 36, 8, 1, 152, []), (38, 28, 0, 0, 34, []), (4, 0, 0, 0, 0, []), (44, 24, 2, 0, 330, []), (3, 3, 0, 0, 0, []), (56, 82, 63, 1, 1, [(0, 963), (0, 796), (0, 797), (0, 77)]), (29, 26, 0, 0, 17, []), (3, 2, 0, 0, 0, []), (4, 0, 0, 0, 0, []), (44, 21, 2, 6, 339, []), (3, 1, 0, 0, 0, []), (0, 1, 0, 0, 6, []), (10, 0, 0, 0, 0, []), (3, 3, 0, 0, 0, []), (8, 0, 0, 0, 0, []), (47, 0, 0, 0, 0, []), (8, 0, 0, 0, 0, []), (5, 2, 0, 0, 0, []), (7, 3, 0, 0, 1, []), (41, 4, 0, 0, (-39), []), (3, 2, 0, 0, 0, []), (53, 0, 0, 0, 0, [])]
def ac_X_commonDivisor : List AOp := [(3, 0, 0, 0, 0, []), (5, 2, 0, 0, 0, []), (3, 1, 0, 0, 0, []), (5, 3, 0, 0, 0, []), (0, 0, 0, 0, 0, []), (5, 4, 1, 0, 0, []), (59, 6, 0, 0, 0, []), (3, 4, 1, 0, 0, []), (0, 1, 0, 0, 64, []), (38, 22, 0, 0, 23, []), (3, 3, 0, 0, 0, []), (34, 22, 0, 0, 19, []), (3, 2, 0, 0, 0, []), (3, 3, 0, 0, 0, []), (12, 0, 0, 0, 0, []), (5, 5, 1, 0, 0, []), (3, 3, 0, 0, 0, []), (5, 2, 0, 0, 0, []), (3, 5, 1, 0, 0, []), (5, 3, 0, 0, 0, []), (7, 4, 0, 0, 1, []), (41, 6, 0, 0, (-24), []), (59, 22, 0, 0, 0, []), (3, 2, 0, 0, 0, []), (0, 0, 0, 0, 1, []), (61, 282, 0, 0, 0, [(0, 967), (0, 636), (0, 90), (0, 637)]), (53, 0, 0, 0, 0, [])]
def ac_X_next : List AOp := [(3, 1, 0, 0, 0, []), (31, 5, 0, 0, 8, []), (3, 1, 0, 0, 0, []), (0, 0, 0, 0, 2, []), (40, 7, 0, 0, 6, []), (0, 1, 0, 0, (-3), []), (53, 0, 0, 0, 0, []), (4, 0, 0, 0, 0, []), (44, 68, 9, 8, 436, []), (56, 239, 89, 0, 0, [(0, 909), (0, 910), (0, 911), (0, 82)]), (4, 0, 0, 0, 0, []), (44, 19, 9, 1, 429, []), (44, 98, 8, 1, 159, []), (29, 18, 0, 0, 13, []), (4, 0, 0, 0, 0, []), (44, 68, 9, 8, 436, []), (44, 242, 2, 7, 342, []), (30, 20, 0, 0, 5, []), (0, 0, 0, 0, (-1), []), (53, 0, 0, 0, 0, []), (4, 0, 0, 0, 0, []), (44, 68, 9, 8, 436, []), (56, 258, 104, 0, 0, [(0, 972), (0, 973), (0, 974), (0, 82)]), (5, 2, 0, 0, 0, []), (3, 1, 0, 0, 0, []), (43, 34, 26, 0, 34, [(0, 26), (1, 30)]), (3, 2, 0, 0, 0, []), (0, 0, 0, 0, 4, []), (11, 0, 0, 0, 0, []), (53, 0, 0, 0, 0, []), (3, 2, 0, 0, 0, []), (0, 0, 0, 0, 4, []), (12, 0, 0, 0, 0, []), (53, 0, 0, 0, 0, []), (4, 0, 0, 0, 0, []), (44, 68, 9, 8, 436, []), (3, 2, 0, 0, 0, []), (0, 0, 0, 0, 4, []), (11, 0, 0, 0, 0, []), (3, 2, 0, 0, 0, []), (0, 0, 0, 0, 4, []), (12, 0, 0, 0, 0, []), (56, 261, 105, 2, 0, [(0, 982), (0, 977), (0, 978), (0, 82)]), (53, 0, 0, 0, 0, [])]
def ac_Fits_bestPair : List AOp := [(0, 0, 0, 0, 0, []), (5, 1, 0, 0, 0, []), (4, 0, 0, 0, 0, []), (0, 0, 0, 0, 0, []), (0, 0, 0, 0, 0, []), (56, 98, 105, 2, 0, [(0, 976), (0, 977), (0, 978), (0, 82)]), (5, 2, 0, 0, 0, []), (0, 0, 0, 0, 1, []), (5, 3, 0, 0, 0, []), (59, 9, 0, 0, 0, []), (3, 3, 0, 0, 0, []), (4, 0, 0, 0, 0, []), (44, 24, 2, 0, 330, []), (44, 36, 8, 1, 152, []), (0, 0, 0, 0, 4, []), (10, 0, 0, 0, 0, []), (38, 35, 0, 0, 32, []), (4, 0, 0, 0, 0, []), (3, 3, 0, 0, 0, []), (0, 0, 0, 0, 4, []), (11, 0, 0, 0, 0, []), (3, 3, 0, 0, 0, []), (0, 0, 0, 0, 4, []), (12, 0, 0, 0, 0, []), (56, 98, 105, 2, 0, [(0, 976), (0, 977), (0, 978), (0, 82)]), (5, 4, 1, 0, 0, []), (3, 4, 1, 0, 0, []), (3, 2, 0, 0, 0, []), (38, 33, 0, 0, 8, []), (3, 3, 0, 0, 0, []), (5, 1, 0, 0, 0, []), (3, 4, 1, 0, 0, []), (5, 2, 0, 0, 0, []), (7, 3, 0, 0, 1, []), (41, 9, 0, 0, (-39), []), (3, 1, 0, 0, 0, []), (53, 0, 0, 0, 0, [])]
def ac_Fits_leftAtMost : List AOp := [(0, 0, 0, 0, 0, []), (5, 3, 0, 0, 0, []), (0, 0, 0, 0, 0, []), (5, 4, 1, 0, 0, []), (59, 4, 0, 0, 0, []), (3, 4, 1, 0, 0, []), (4, 0, 0, 0, 0, []), (44, 24, 2, 0, 330, []), (44, 36, 8, 1, 152, []), (38, 30, 0, 0, 38, []), (4, 0, 0, 0, 0, []), (44, 28, 2, 1, 331, []), (3, 4, 1, 0, 0, []), (3, 1, 0, 0, 0, []), (3, 2, 0, 0, 0, []), (56, 86, 52, 3, 0, [(0, 980), (0, 750), (0, 751), (0, 78)]), (29, 28, 0, 0, 18, []), (3, 3, 0, 0, 0, []), (4, 0, 0, 0, 0, []), (44, 21, 2, 6, 339, []), (3, 1, 0, 0, 0, []), (0, 1, 0, 0, 6, []), (10, 0, 0, 0, 0, []), (3, 4, 1, 0, 0, []), (8, 0, 0, 0, 0, []), (47, 0, 0, 0, 0, []), (8, 0, 0, 0, 0, []), (5, 3, 0, 0, 0, []), (7, 4, 0, 0, 1, []), (41, 4, 0, 0, (-44), []), (59, 30, 0, 0, 0, []), (3, 3, 0, 0, 0, []), (4, 0, 0, 0, 0, []), (44, 53, 2, 7, 341, []), (3, 3, 0, 0, 0, []), (9, 0, 0, 0, 0, []), (61, 92, 0, 0, 0, [(0, 981), (0, 636), (0, 90), (0, 637)]), (53, 0, 0, 0, 0, [])]
def ac_X_apart : List AOp := [(3, 1, 0, 0, 0, []), (0, 0, 0, 0, (-1), []), (38, 5, 0, 0, 6, []), (0, 1, 0, 0, (-3), []), (53, 0, 0, 0, 0, []), (4, 0, 0, 0, 0, []), (44, 77, 9, 9, 437, []), (56, 264, 107, 0, 0, [(0, 987), (0, 988), (0, 989), (0, 83)]), (5, 2, 0, 0, 0, []), (3, 1, 0, 0, 0, []), (0, 0, 0, 0, (-1), []), (36, 14, 0, 0, 5, []), (3, 2, 0, 0, 0, []), (53, 0, 0, 0, 0, []), (3, 1, 0, 0, 0, []), (3, 2, 0, 0, 0, []), (38, 23, 0, 0, 15, []), (4, 0, 0, 0, 0, []), (44, 77, 9, 9, 437, []), (44, 265, 0, 7, 374, []), (3, 1, 0, 0, 0, []), (47, 0, 0, 0, 0, []), (41, 24, 0, 0, 4, []), (0, 0, 0, 0, (-1), []), (53, 0, 0, 0, 0, [])]
def ac_Apart_find : List AOp := [(4, 0, 0, 0, 0, []), (44, 32, 0, 2, 368, []), (56, 36, 89, 0, 0, [(0, 991), (0, 910), (0, 911), (0, 82)]), (4, 0, 0, 0, 0, []), (44, 32, 0, 2, 368, []), (44, 41, 2, 7, 340, []), (0, 1, 0, 0, 16, []), (40, 10, 0, 0, 5, []), (0, 0, 0, 0, (-1), []), (53, 0, 0, 0, 0, []), (4, 0, 0, 0, 0, []), (44, 9, 0, 3, 369, []), (0, 0, 0, 0, 0, []), (57, 45, 95, 2, 0, [(0, 992), (0, 936), (0, 94)]), (4, 0, 0, 0, 0, []), (0, 0, 0, 0, 0, []), (45, 51, 0, 6, 372, []), (4, 0, 0, 0, 0, []), (0, 0, 0, 0, 0, []), (0, 0, 0, 0, 0, []), (56, 54, 108, 2, 0, [(0, 993), (0, 995), (0, 25), (0, 83)]), (4, 0, 0, 0, 0, []), (44, 15, 0, 4, 370, []), (0, 0, 0, 0, 1, []), (0, 0, 0, 0, 1, []), (4, 0, 0, 0, 0, []), (44, 51, 0, 6, 372, []), (16, 0, 0, 0, 0, []), (0, 0, 0, 0, 1, []), (9, 0, 0, 0, 0, []), (48, 0, 0, 0, 0, []), (0, 0, 0, 0, 0, []), (5, 1, 0, 0, 0, []), (59, 33, 0, 0, 0, []), (3, 1, 0, 0, 0, []), (0, 0, 0, 0, 4, []), (39, 47, 0, 0, 21, []), (4, 0, 0, 0, 0, []), (0, 0, 0, 0, 0, []), (0, 0, 0, 0, 0, []), (3, 1, 0, 0, 0, []), (56, 58, 110, 3, 0, [(0, 1002), (0, 1004), (0, 27), (0, 83)]), (29, 45, 0, 0, 5, []), (3, 1, 0, 0, 0, []), (53, 0, 0, 0, 0, []), (7, 1, 0, 0, 1, []), (41, 33, 0, 0, (-20), []), (0, 0, 0, 0, (-1), []), (53, 0, 0, 0, 0, [])]
def ac_Apart_gather : List AOp := [(4, 0, 0, 0, 0, []), (44, 32, 0, 2, 368, []), (44, 62, 2, 5, 338, []), (3, 2, 0, 0, 0, []), (47, 0, 0, 0, 0, []), (29, 10, 0, 0, 12, []), (4, 0, 0, 0, 0, []), (44, 51, 0, 6, 372, []), (0, 1, 0, 0, 16, []), (37, 11, 0, 0, 4, []), (54, 0, 0, 0, 0, []), (3, 1, 0, 0, 0, []), (4, 0, 0, 0, 0, []), (44, 24, 0, 0, 366, []), (44, 65, 8, 1, 156, []), (37, 25, 0, 0, 18, []), (4, 0, 0, 0, 0, []), (56, 70, 109, 0, 0, [(0, 997), (0, 999), (0, 26), (0, 83)]), (4, 0, 0, 0, 0, []), (26, 0, 0, 0, 0, []), (44, 51, 0, 6, 372, []), (0, 0, 0, 0, 1, []), (8, 0, 0, 0, 0, []), (45, 51, 0, 6, 372, []), (54, 0, 0, 0, 0, []), (4, 0, 0, 0, 0, []), (44, 32, 0, 2, 368, []), (44, 73, 2, 3, 334, []), (3, 1, 0, 0, 0, []), (47, 0, 0, 0, 0, []), (3, 2, 0, 0, 0, []), (0, 0, 0, 0, (-1), []), (15, 0, 0, 0, 0, []), (13, 0, 0, 0, 0, []), (5, 3, 0, 0, 0, []), (0, 0, 0, 0, 0, []), (5, 4, 1, 0, 0, []), (59, 37, 0, 0, 0, []), (3, 4, 1, 0, 0, []), (4, 0, 0, 0, 0, []), (44, 24, 0, 0, 366, []), (44, 65, 8, 1, 156, []), (38, 67, 0, 0, 40, []), (3, 3, 0, 0, 0, []), (3, 4, 1, 0, 0, []), (17, 0, 0, 0, 0, []), (0, 0, 0, 0, 1, []), (13, 0, 0, 0, 0, []), (0, 0, 0, 0, 1, []), (36, 65, 0, 0, 24, []), (4, 0, 0, 0, 0, []), (44, 18, 0, 5, 371, []), (3, 1, 0, 0, 0, []), (3, 4, 1, 0, 0, []), (48, 0, 0, 0, 0, []), (4, 0, 0, 0, 0, []), (3, 1, 0, 0, 0, []), (0, 0, 0, 0, 1, []), (8, 0, 0, 0, 0, []), (3, 2, 0, 0, 0, []), (0, 0, 0, 0, 1, []), (3, 4, 1, 0, 0, []), (16, 0, 0, 0, 0, []), (14, 0, 0, 0, 0, []), (56, 54, 108, 2, 0, [(0, 993), (0, 995), (0, 25), (0, 83)]), (7, 4, 0, 0, 1, []), (41, 37, 0, 0, (-46), []), (54, 0, 0, 0, 0, [])]
def ac_Apart_noteAnswers : List AOp := [(0, 0, 0, 0, 0, []), (5, 1, 0, 0, 0, []), (59, 2, 0, 0, 0, []), (3, 1, 0, 0, 0, []), (4, 0, 0, 0, 0, []), (44, 24, 0, 0, 366, []), (44, 65, 8, 1, 156, []), (38, 44, 0, 0, 59, []), (0, 0, 0, 0, 0, []), (5, 2, 0, 0, 0, []), (59, 10, 0, 0, 0, []), (3, 2, 0, 0, 0, []), (0, 0, 0, 0, 4, []), (38, 41, 0, 0, 46, []), (4, 0, 0, 0, 0, []), (44, 28, 0, 1, 367, []), (4, 0, 0, 0, 0, []), (44, 18, 0, 5, 371, []), (3, 1, 0, 0, 0, []), (47, 0, 0, 0, 0, []), (3, 1, 0, 0, 0, []), (3, 2, 0, 0, 0, []), (56, 76, 52, 3, 0, [(0, 1001), (0, 750), (0, 751), (0, 78)]), (29, 39, 0, 0, 22, []), (4, 0, 0, 0, 0, []), (44, 9, 0, 3, 369, []), (3, 1, 0, 0, 0, []), (0, 0, 0, 0, 4, []), (10, 0, 0, 0, 0, []), (3, 2, 0, 0, 0, []), (8, 0, 0, 0, 0, []), (27, 0, 0, 0, 0, []), (47, 0, 0, 0, 0, []), (0, 0, 0, 0, 1, []), (4, 0, 0, 0, 0, []), (44, 51, 0, 6, 372, []), (16, 0, 0, 0, 0, []), (14, 0, 0, 0, 0, []), (48, 0, 0, 0, 0, []), (7, 2, 0, 0, 1, []), (41, 10, 0, 0, (-45), []), (59, 41, 0, 0, 0, []), (7, 1, 0, 0, 1, []), (41, 2, 0, 0, (-64), []), (54, 0, 0, 0, 0, [])]
def ac_Apart_choose : List AOp := [(4, 0, 0, 0, 0, []), (3, 1, 0, 0, 0, []), (0, 0, 0, 0, 1, []), (3, 3, 0, 0, 0, []), (3, 1, 0, 0, 0, []), (9, 0, 0, 0, 0, []), (16, 0, 0, 0, 0, []), (56, 81, 111, 2, 0, [(0, 1006), (0, 1008), (0, 28), (0, 83)]), (29, 11, 0, 0, 5, []), (0, 0, 0, 0, 0, []), (53, 0, 0, 0, 0, []), (3, 1, 0, 0, 0, []), (3, 3, 0, 0, 0, []), (38, 17, 0, 0, 8, []), (3, 1, 0, 0, 0, []), (0, 0, 0, 0, 4, []), (37, 19, 0, 0, 5, []), (0, 0, 0, 0, 1, []), (53, 0, 0, 0, 0, []), (3, 2, 0, 0, 0, []), (5, 4, 1, 0, 0, []), (59, 21, 0, 0, 0, []), (3, 4, 1, 0, 0, []), (4, 0, 0, 0, 0, []), (44, 24, 0, 0, 366, []), (44, 65, 8, 1, 156, []), (0, 0, 0, 0, 4, []), (10, 0, 0, 0, 0, []), (38, 55, 0, 0, 46, []), (4, 0, 0, 0, 0, []), (44, 21, 0, 7, 373, []), (3, 1, 0, 0, 0, []), (3, 4, 1, 0, 0, []), (48, 0, 0, 0, 0, []), (4, 0, 0, 0, 0, []), (3, 1, 0, 0, 0, []), (4, 0, 0, 0, 0, []), (44, 9, 0, 3, 369, []), (3, 4, 1, 0, 0, []), (47, 0, 0, 0, 0, []), (56, 85, 112, 2, 0, [(0, 1011), (0, 1013), (0, 29), (0, 83)]), (4, 0, 0, 0, 0, []), (3, 1, 0, 0, 0, []), (0, 0, 0, 0, 1, []), (8, 0, 0, 0, 0, []), (3, 4, 1, 0, 0, []), (0, 0, 0, 0, 1, []), (8, 0, 0, 0, 0, []), (3, 3, 0, 0, 0, []), (56, 58, 110, 3, 0, [(0, 1002), (0, 1004), (0, 27), (0, 83)]), (29, 53, 0, 0, 5, []), (0, 0, 0, 0, 1, []), (53, 0, 0, 0, 0, []), (7, 4, 0, 0, 1, []), (41, 21, 0, 0, (-54), []), (0, 0, 0, 0, 0, []), (53, 0, 0, 0, 0, [])]
def ac_Apart_isTooCoarse : List AOp := [(0, 0, 0, 0, 1, []), (3, 1, 0, 0, 0, []), (16, 0, 0, 0, 0, []), (5, 3, 0, 0, 0, []), (59, 4, 0, 0, 0, []), (3, 3, 0, 0, 0, []), (0, 0, 0, 0, 2, []), (3, 1, 0, 0, 0, []), (16, 0, 0, 0, 0, []), (38, 21, 0, 0, 24, []), (4, 0, 0, 0, 0, []), (44, 15, 0, 4, 370, []), (3, 3, 0, 0, 0, []), (47, 0, 0, 0, 0, []), (57, 88, 77, 1, 0, [(0, 1010), (0, 858), (0, 93)]), (3, 2, 0, 0, 0, []), (40, 19, 0, 0, 5, []), (0, 0, 0, 0, 1, []), (53, 0, 0, 0, 0, []), (7, 3, 0, 0, 1, []), (41, 4, 0, 0, (-25), []), (0, 0, 0, 0, 0, []), (53, 0, 0, 0, 0, [])]
def ac_Apart_split : List AOp := [(0, 0, 0, 0, 1, []), (3, 1, 0, 0, 0, []), (16, 0, 0, 0, 0, []), (5, 3, 0, 0, 0, []), (59, 4, 0, 0, 0, []), (3, 3, 0, 0, 0, []), (0, 0, 0, 0, 2, []), (3, 1, 0, 0, 0, []), (16, 0, 0, 0, 0, []), (38, 40, 0, 0, 45, []), (4, 0, 0, 0, 0, []), (44, 15, 0, 4, 370, []), (0, 0, 0, 0, 2, []), (3, 3, 0, 0, 0, []), (10, 0, 0, 0, 0, []), (4, 0, 0, 0, 0, []), (44, 15, 0, 4, 370, []), (3, 3, 0, 0, 0, []), (47, 0, 0, 0, 0, []), (3, 2, 0, 0, 0, []), (0, 0, 0, 0, (-1), []), (15, 0, 0, 0, 0, []), (13, 0, 0, 0, 0, []), (48, 0, 0, 0, 0, []), (4, 0, 0, 0, 0, []), (44, 15, 0, 4, 370, []), (0, 0, 0, 0, 2, []), (3, 3, 0, 0, 0, []), (10, 0, 0, 0, 0, []), (0, 0, 0, 0, 1, []), (8, 0, 0, 0, 0, []), (4, 0, 0, 0, 0, []), (44, 15, 0, 4, 370, []), (3, 3, 0, 0, 0, []), (47, 0, 0, 0, 0, []), (3, 2, 0, 0, 0, []), (13, 0, 0, 0, 0, []), (48, 0, 0, 0, 0, []), (7, 3, 0, 0, 1, []), (41, 4, 0, 0, (-46), []), (54, 0, 0, 0, 0, [])]
def ac_X_came : List AOp := [(3, 1, 0, 0, 0, []), (31, 5, 0, 0, 8, []), (3, 1, 0, 0, 0, []), (0, 0, 0, 0, 1, []), (40, 7, 0, 0, 6, []), (0, 1, 0, 0, (-3), []), (53, 0, 0, 0, 0, []), (4, 0, 0, 0, 0, []), (44, 84, 9, 10, 438, []), (56, 268, 114, 0, 0, [(0, 1019), (0, 1020), (0, 1021), (0, 84)]), (4, 0, 0, 0, 0, []), (44, 84, 9, 10, 438, []), (44, 269, 1, 8, 408, []), (30, 16, 0, 0, 5, []), (0, 0, 0, 0, (-1), []), (53, 0, 0, 0, 0, []), (3, 1, 0, 0, 0, []), (30, 22, 0, 0, 13, []), (4, 0, 0, 0, 0, []), (44, 84, 9, 10, 438, []), (44, 272, 1, 7, 406, []), (41, 25, 0, 0, 10, []), (4, 0, 0, 0, 0, []), (44, 84, 9, 10, 438, []), (44, 269, 1, 8, 408, []), (53, 0, 0, 0, 0, [])]
def ac_Came_find : List AOp := [(4, 0, 0, 0, 0, []), (44, 30, 1, 6, 404, []), (0, 0, 0, 0, (-1), []), (36, 12, 0, 0, 15, []), (4, 0, 0, 0, 0, []), (0, 0, 0, 0, 0, []), (45, 34, 1, 4, 402, []), (4, 0, 0, 0, 0, []), (0, 0, 0, 0, 0, []), (0, 0, 0, 0, 0, []), (0, 0, 0, 0, 0, []), (56, 37, 115, 3, 0, [(0, 1023), (0, 1025), (0, 30), (0, 84)]), (4, 0, 0, 0, 0, []), (44, 30, 1, 6, 404, []), (0, 0, 0, 0, (-1), []), (35, 22, 0, 0, 17, []), (4, 0, 0, 0, 0, []), (44, 30, 1, 6, 404, []), (4, 0, 0, 0, 0, []), (44, 22, 1, 1, 399, []), (44, 41, 4, 1, 211, []), (40, 24, 0, 0, 7, []), (4, 0, 0, 0, 0, []), (56, 46, 116, 0, 0, [(0, 1027), (0, 1029), (0, 31), (0, 84)]), (59, 24, 0, 0, 0, []), (4, 0, 0, 0, 0, []), (44, 30, 1, 6, 404, []), (4, 0, 0, 0, 0, []), (44, 22, 1, 1, 399, []), (44, 41, 4, 1, 211, []), (38, 40, 0, 0, 20, []), (4, 0, 0, 0, 0, []), (56, 49, 117, 0, 0, [(0, 1032), (0, 1034), (0, 32), (0, 84)]), (4, 0, 0, 0, 0, []), (26, 0, 0, 0, 0, []), (44, 30, 1, 6, 404, []), (0, 0, 0, 0, 1, []), (8, 0, 0, 0, 0, []), (45, 30, 1, 6, 404, []), (41, 24, 0, 0, (-28), []), (59, 40, 0, 0, 0, []), (4, 0, 0, 0, 0, []), (44, 26, 1, 2, 400, []), (56, 52, 89, 0, 0, [(0, 1054), (0, 910), (0, 911), (0, 82)]), (4, 0, 0, 0, 0, []), (0, 1, 0, 0, 7, []), (45, 57, 1, 7, 405, []), (4, 0, 0, 0, 0, []), (0, 0, 0, 0, 0, []), (45, 60, 1, 8, 407, []), (0, 0, 0, 0, 0, []), (5, 1, 0, 0, 0, []), (59, 52, 0, 0, 0, []), (3, 1, 0, 0, 0, []), (4, 0, 0, 0, 0, []), (44, 34, 1, 4, 402, []), (38, 87, 0, 0, 60, []), (4, 0, 0, 0, 0, []), (44, 15, 1, 5, 403, []), (3, 1, 0, 0, 0, []), (47, 0, 0, 0, 0, []), (0, 1, 0, 0, 7, []), (38, 85, 0, 0, 43, []), (4, 0, 0, 0, 0, []), (4, 0, 0, 0, 0, []), (44, 9, 1, 3, 401, []), (3, 1, 0, 0, 0, []), (47, 0, 0, 0, 0, []), (56, 63, 122, 1, 0, [(0, 1055), (0, 1057), (0, 37), (0, 84)]), (29, 85, 0, 0, 30, []), (4, 0, 0, 0, 0, []), (26, 0, 0, 0, 0, []), (44, 60, 1, 8, 407, []), (0, 0, 0, 0, 1, []), (8, 0, 0, 0, 0, []), (45, 60, 1, 8, 407, []), (4, 0, 0, 0, 0, []), (4, 0, 0, 0, 0, []), (44, 57, 1, 7, 405, []), (4, 0, 0, 0, 0, []), (44, 15, 1, 5, 403, []), (3, 1, 0, 0, 0, []), (47, 0, 0, 0, 0, []), (62, 67, 0, 0, 0, [(0, 1053), (0, 639), (0, 90), (0, 640)]), (45, 57, 1, 7, 405, []), (7, 1, 0, 0, 1, []), (41, 52, 0, 0, (-62), []), (54, 0, 0, 0, 0, [])]
def ac_Came_list : List AOp := [(3, 1, 0, 0, 0, []), (4, 0, 0, 0, 0, []), (44, 18, 1, 0, 398, []), (44, 73, 8, 1, 157, []), (37, 22, 0, 0, 34, []), (4, 0, 0, 0, 0, []), (44, 34, 1, 4, 402, []), (0, 2, 0, 0, 720, []), (38, 21, 0, 0, 23, []), (4, 0, 0, 0, 0, []), (44, 9, 1, 3, 401, []), (4, 0, 0, 0, 0, []), (44, 34, 1, 4, 402, []), (3, 3, 0, 0, 0, []), (48, 0, 0, 0, 0, []), (4, 0, 0, 0, 0, []), (26, 0, 0, 0, 0, []), (44, 34, 1, 4, 402, []), (0, 0, 0, 0, 1, []), (8, 0, 0, 0, 0, []), (45, 34, 1, 4, 402, []), (54, 0, 0, 0, 0, []), (0, 0, 0, 0, 0, []), (5, 4, 1, 0, 0, []), (59, 24, 0, 0, 0, []), (3, 4, 1, 0, 0, []), (4, 0, 0, 0, 0, []), (44, 18, 1, 0, 398, []), (44, 73, 8, 1, 157, []), (38, 64, 0, 0, 59, []), (4, 0, 0, 0, 0, []), (44, 18, 1, 0, 398, []), (44, 78, 8, 5, 170, []), (3, 4, 1, 0, 0, []), (47, 0, 0, 0, 0, []), (4, 0, 0, 0, 0, []), (44, 18, 1, 0, 398, []), (44, 78, 8, 5, 170, []), (3, 1, 0, 0, 0, []), (47, 0, 0, 0, 0, []), (36, 62, 0, 0, 31, []), (3, 2, 0, 0, 0, []), (3, 4, 1, 0, 0, []), (17, 0, 0, 0, 0, []), (0, 0, 0, 0, 1, []), (13, 0, 0, 0, 0, []), (30, 62, 0, 0, 22, []), (4, 0, 0, 0, 0, []), (3, 1, 0, 0, 0, []), (0, 0, 0, 0, 1, []), (8, 0, 0, 0, 0, []), (3, 2, 0, 0, 0, []), (0, 0, 0, 0, 1, []), (3, 4, 1, 0, 0, []), (16, 0, 0, 0, 0, []), (14, 0, 0, 0, 0, []), (3, 3, 0, 0, 0, []), (0, 0, 0, 0, 3, []), (16, 0, 0, 0, 0, []), (3, 4, 1, 0, 0, []), (14, 0, 0, 0, 0, []), (56, 37, 115, 3, 0, [(0, 1023), (0, 1025), (0, 30), (0, 84)]), (7, 4, 0, 0, 1, []), (41, 24, 0, 0, (-65), []), (54, 0, 0, 0, 0, [])]
def ac_Came_startAtHome : List AOp := [(4, 0, 0, 0, 0, []), (44, 15, 1, 5, 403, []), (0, 1, 0, 0, 7, []), (57, 81, 95, 2, 0, [(0, 1031), (0, 936), (0, 94)]), (4, 0, 0, 0, 0, []), (44, 15, 1, 5, 403, []), (0, 0, 0, 0, 0, []), (0, 0, 0, 0, 0, []), (48, 0, 0, 0, 0, []), (4, 0, 0, 0, 0, []), (0, 0, 0, 0, 0, []), (45, 30, 1, 6, 404, []), (54, 0, 0, 0, 0, [])]
def ac_Came_goOn : List AOp := [(4, 0, 0, 0, 0, []), (44, 30, 1, 6, 404, []), (5, 1, 0, 0, 0, []), (59, 3, 0, 0, 0, []), (3, 1, 0, 0, 0, []), (31, 33, 0, 0, 48, []), (0, 0, 0, 0, 0, []), (5, 2, 0, 0, 0, []), (59, 8, 0, 0, 0, []), (3, 2, 0, 0, 0, []), (4, 0, 0, 0, 0, []), (44, 34, 1, 4, 402, []), (38, 30, 0, 0, 32, []), (4, 0, 0, 0, 0, []), (44, 15, 1, 5, 403, []), (3, 2, 0, 0, 0, []), (47, 0, 0, 0, 0, []), (3, 1, 0, 0, 0, []), (36, 28, 0, 0, 16, []), (4, 0, 0, 0, 0, []), (4, 0, 0, 0, 0, []), (44, 9, 1, 3, 401, []), (3, 2, 0, 0, 0, []), (47, 0, 0, 0, 0, []), (3, 1, 0, 0, 0, []), (0, 0, 0, 0, 1, []), (8, 0, 0, 0, 0, []), (56, 87, 118, 2, 0, [(0, 1036), (0, 1038), (0, 33), (0, 84)]), (7, 2, 0, 0, 1, []), (41, 8, 0, 0, (-34), []), (59, 30, 0, 0, 0, []), (7, 1, 0, 0, (-1), []), (41, 3, 0, 0, (-46), []), (54, 0, 0, 0, 0, [])]
def ac_Came_spread : List AOp := [(0, 0, 0, 0, 0, []), (5, 3, 0, 0, 0, []), (59, 2, 0, 0, 0, []), (3, 3, 0, 0, 0, []), (4, 0, 0, 0, 0, []), (44, 18, 1, 0, 398, []), (44, 73, 8, 1, 157, []), (38, 49, 0, 0, 81, []), (3, 3, 0, 0, 0, []), (0, 0, 0, 0, 1, []), (8, 0, 0, 0, 0, []), (5, 4, 1, 0, 0, []), (59, 12, 0, 0, 0, []), (3, 4, 1, 0, 0, []), (4, 0, 0, 0, 0, []), (44, 18, 1, 0, 398, []), (44, 73, 8, 1, 157, []), (38, 46, 0, 0, 58, []), (4, 0, 0, 0, 0, []), (44, 18, 1, 0, 398, []), (4, 0, 0, 0, 0, []), (44, 30, 1, 6, 404, []), (3, 3, 0, 0, 0, []), (3, 4, 1, 0, 0, []), (56, 91, 57, 3, 0, [(0, 1040), (0, 770), (0, 771), (0, 77)]), (29, 44, 0, 0, 35, []), (4, 0, 0, 0, 0, []), (4, 0, 0, 0, 0, []), (3, 1, 0, 0, 0, []), (3, 3, 0, 0, 0, []), (3, 4, 1, 0, 0, []), (56, 95, 119, 3, 0, [(0, 1041), (0, 1043), (0, 34), (0, 84)]), (56, 99, 121, 1, 0, [(0, 1049), (0, 1051), (0, 36), (0, 84)]), (5, 5, 1, 0, 0, []), (4, 0, 0, 0, 0, []), (44, 15, 1, 5, 403, []), (3, 5, 1, 0, 0, []), (4, 0, 0, 0, 0, []), (44, 15, 1, 5, 403, []), (3, 5, 1, 0, 0, []), (47, 0, 0, 0, 0, []), (3, 2, 0, 0, 0, []), (62, 67, 0, 0, 0, [(0, 1053), (0, 639), (0, 90), (0, 640)]), (48, 0, 0, 0, 0, []), (7, 4, 0, 0, 1, []), (41, 12, 0, 0, (-64), []), (59, 46, 0, 0, 0, []), (7, 3, 0, 0, 1, []), (41, 2, 0, 0, (-86), []), (54, 0, 0, 0, 0, [])]
def ac_Came_exchanged : List AOp := [(3, 1, 0, 0, 0, []), (4, 0, 0, 0, 0, []), (3, 2, 0, 0, 0, []), (56, 103, 120, 1, 1, [(0, 1045), (0, 1047), (0, 35), (0, 84)]), (17, 0, 0, 0, 0, []), (3, 1, 0, 0, 0, []), (4, 0, 0, 0, 0, []), (3, 3, 0, 0, 0, []), (56, 103, 120, 1, 1, [(0, 1045), (0, 1047), (0, 35), (0, 84)]), (17, 0, 0, 0, 0, []), (15, 0, 0, 0, 0, []), (0, 1, 0, 0, 7, []), (13, 0, 0, 0, 0, []), (5, 4, 1, 0, 0, []), (3, 1, 0, 0, 0, []), (3, 4, 1, 0, 0, []), (4, 0, 0, 0, 0, []), (3, 2, 0, 0, 0, []), (56, 103, 120, 1, 1, [(0, 1045), (0, 1047), (0, 35), (0, 84)]), (16, 0, 0, 0, 0, []), (3, 4, 1, 0, 0, []), (4, 0, 0, 0, 0, []), (3, 3, 0, 0, 0, []), (56, 103, 120, 1, 1, [(0, 1045), (0, 1047), (0, 35), (0, 84)]), (16, 0, 0, 0, 0, []), (14, 0, 0, 0, 0, []), (15, 0, 0, 0, 0, []), (53, 0, 0, 0, 0, [])]
def ac_Came_shiftOf : List AOp := [(0, 0, 0, 0, 3, []), (4, 0, 0, 0, 0, []), (44, 18, 1, 0, 398, []), (44, 73, 8, 1, 157, []), (0, 0, 0, 0, 1, []), (9, 0, 0, 0, 0, []), (3, 1, 0, 0, 0, []), (9, 0, 0, 0, 0, []), (10, 0, 0, 0, 0, []), (53, 0, 0, 0, 0, [])]
def ac_Came_indexOf : List AOp := [(0, 0, 0, 0, 0, []), (5, 2, 0, 0, 0, []), (4, 0, 0, 0, 0, []), (44, 34, 1, 4, 402, []), (0, 0, 0, 0, 1, []), (9, 0, 0, 0, 0, []), (5, 3, 0, 0, 0, []), (0, 0, 0, 0, 0, []), (5, 4, 1, 0, 0, []), (59, 9, 0, 0, 0, []), (3, 4, 1, 0, 0, []), (0, 1, 0, 0, 12, []), (38, 37, 0, 0, 43, []), (3, 2, 0, 0, 0, []), (3, 3, 0, 0, 0, []), (38, 37, 0, 0, 38, []), (3, 2, 0, 0, 0, []), (3, 3, 0, 0, 0, []), (8, 0, 0, 0, 0, []), (0, 0, 0, 0, 2, []), (11, 0, 0, 0, 0, []), (5, 5, 1, 0, 0, []), (4, 0, 0, 0, 0, []), (44, 9, 1, 3, 401, []), (3, 5, 1, 0, 0, []), (47, 0, 0, 0, 0, []), (3, 1, 0, 0, 0, []), (38, 33, 0, 0, 11, []), (3, 5, 1, 0, 0, []), (0, 0, 0, 0, 1, []), (8, 0, 0, 0, 0, []), (5, 2, 0, 0, 0, []), (41, 35, 0, 0, 6, []), (3, 5, 1, 0, 0, []), (5, 3, 0, 0, 0, []), (7, 4, 0, 0, 1, []), (41, 9, 0, 0, (-44), []), (3, 2, 0, 0, 0, []), (53, 0, 0, 0, 0, [])]
def ac_Came_isFit : List AOp := [(0, 0, 0, 0, 0, []), (5, 2, 0, 0, 0, []), (59, 2, 0, 0, 0, []), (3, 2, 0, 0, 0, []), (4, 0, 0, 0, 0, []), (44, 18, 1, 0, 398, []), (44, 73, 8, 1, 157, []), (38, 30, 0, 0, 38, []), (3, 1, 0, 0, 0, []), (4, 0, 0, 0, 0, []), (3, 2, 0, 0, 0, []), (56, 103, 120, 1, 1, [(0, 1045), (0, 1047), (0, 35), (0, 84)]), (17, 0, 0, 0, 0, []), (0, 1, 0, 0, 7, []), (13, 0, 0, 0, 0, []), (5, 3, 0, 0, 0, []), (4, 0, 0, 0, 0, []), (44, 26, 1, 2, 400, []), (44, 106, 2, 3, 335, []), (3, 2, 0, 0, 0, []), (47, 0, 0, 0, 0, []), (3, 3, 0, 0, 0, []), (17, 0, 0, 0, 0, []), (0, 0, 0, 0, 1, []), (13, 0, 0, 0, 0, []), (30, 28, 0, 0, 5, []), (0, 0, 0, 0, 0, []), (53, 0, 0, 0, 0, []), (7, 2, 0, 0, 1, []), (41, 2, 0, 0, (-43), []), (0, 0, 0, 0, 1, []), (53, 0, 0, 0, 0, [])]
def ac_X_count : List AOp := [(3, 1, 0, 0, 0, []), (42, 42, 55, 0, 135, [(0, 2), (1, 6), (2, 10), (3, 14), (4, 18), (5, 22), (6, 26), (7, 30), (8, 34), (9, 38)]), (4, 0, 0, 0, 0, []), (44, 19, 9, 1, 429, []), (44, 95, 8, 0, 151, []), (53, 0, 0, 0, 0, []), (4, 0, 0, 0, 0, []), (44, 19, 9, 1, 429, []), (44, 98, 8, 1, 159, []), (53, 0, 0, 0, 0, []), (4, 0, 0, 0, 0, []), (44, 19, 9, 1, 429, []), (44, 101, 8, 2, 162, []), (53, 0, 0, 0, 0, []), (4, 0, 0, 0, 0, []), (44, 28, 9, 2, 430, []), (44, 195, 4, 1, 212, []), (53, 0, 0, 0, 0, []), (4, 0, 0, 0, 0, []), (44, 28, 9, 2, 430, []), (44, 275, 4, 2, 214, []), (53, 0, 0, 0, 0, []), (4, 0, 0, 0, 0, []), (44, 28, 9, 2, 430, []), (44, 133, 4, 3, 216, []), (53, 0, 0, 0, 0, []), (4, 0, 0, 0, 0, []), (44, 28, 9, 2, 430, []), (56, 276, 124, 0, 0, [(0, 1063), (0, 1064), (0, 1065), (0, 78)]), (53, 0, 0, 0, 0, []), (4, 0, 0, 0, 0, []), (44, 19, 9, 1, 429, []), (56, 279, 125, 0, 0, [(0, 1067), (0, 1068), (0, 1069), (0, 77)]), (53, 0, 0, 0, 0, []), (4, 0, 0, 0, 0, []), (44, 43, 9, 5, 433, []), (44, 118, 6, 0, 252, []), (53, 0, 0, 0, 0, []), (4, 0, 0, 0, 0, []), (44, 10, 9, 0, 428, []), (44, 92, 7, 1, 111, []), (53, 0, 0, 0, 0, []), (0, 1, 0, 0, (-3), []), (53, 0, 0, 0, 0, [])]
def ac_Now_atHome : List AOp := [(0, 0, 0, 0, 0, []), (5, 1, 0, 0, 0, []), (0, 0, 0, 0, 0, []), (5, 2, 0, 0, 0, []), (59, 4, 0, 0, 0, []), (3, 2, 0, 0, 0, []), (4, 0, 0, 0, 0, []), (44, 24, 4, 0, 208, []), (44, 47, 8, 1, 158, []), (38, 24, 0, 0, 25, []), (4, 0, 0, 0, 0, []), (44, 9, 4, 4, 217, []), (3, 2, 0, 0, 0, []), (47, 0, 0, 0, 0, []), (3, 2, 0, 0, 0, []), (36, 22, 0, 0, 9, []), (3, 1, 0, 0, 0, []), (0, 0, 0, 0, 1, []), (3, 2, 0, 0, 0, []), (16, 0, 0, 0, 0, []), (14, 0, 0, 0, 0, []), (5, 1, 0, 0, 0, []), (7, 2, 0, 0, 1, []), (41, 4, 0, 0, (-30), []), (3, 1, 0, 0, 0, []), (53, 0, 0, 0, 0, [])]
def ac_Told_arrangements : List AOp := [(0, 0, 0, 0, 1, []), (5, 1, 0, 0, 0, []), (0, 0, 0, 0, 0, []), (5, 2, 0, 0, 0, []), (59, 4, 0, 0, 0, []), (3, 2, 0, 0, 0, []), (4, 0, 0, 0, 0, []), (44, 42, 8, 1, 153, []), (38, 36, 0, 0, 49, []), (0, 0, 0, 0, 0, []), (5, 3, 0, 0, 0, []), (0, 0, 0, 0, 0, []), (5, 4, 1, 0, 0, []), (59, 13, 0, 0, 0, []), (3, 4, 1, 0, 0, []), (3, 2, 0, 0, 0, []), (39, 29, 0, 0, 28, []), (4, 0, 0, 0, 0, []), (44, 18, 8, 5, 168, []), (3, 4, 1, 0, 0, []), (47, 0, 0, 0, 0, []), (4, 0, 0, 0, 0, []), (44, 18, 8, 5, 168, []), (3, 2, 0, 0, 0, []), (47, 0, 0, 0, 0, []), (36, 27, 0, 0, 6, []), (7, 3, 0, 0, 1, []), (7, 4, 0, 0, 1, []), (41, 13, 0, 0, (-28), []), (59, 29, 0, 0, 0, []), (3, 1, 0, 0, 0, []), (3, 3, 0, 0, 0, []), (10, 0, 0, 0, 0, []), (5, 1, 0, 0, 0, []), (7, 2, 0, 0, 1, []), (41, 4, 0, 0, (-51), []), (3, 1, 0, 0, 0, []), (53, 0, 0, 0, 0, [])]
def ac_M_write : List AOp := [(3, 1, 0, 0, 0, []), (0, 0, 0, 0, 0, []), (0, 2, 0, 0, 255, []), (57, 54, 127, 3, 1, [(0, 1169), (0, 1170), (0, 85)]), (30, 7, 0, 0, 6, []), (0, 1, 0, 0, (-3), []), (53, 0, 0, 0, 0, []), (4, 0, 0, 0, 0, []), (44, 65, 10, 6, 1083, []), (0, 2, 0, 0, 160, []), (36, 13, 0, 0, 6, []), (0, 1, 0, 0, (-5), []), (53, 0, 0, 0, 0, []), (4, 0, 0, 0, 0, []), (44, 19, 10, 7, 1084, []), (4, 0, 0, 0, 0, []), (44, 65, 10, 6, 1083, []), (3, 1, 0, 0, 0, []), (48, 0, 0, 0, 0, []), (4, 0, 0, 0, 0, []), (26, 0, 0, 0, 0, []), (44, 65, 10, 6, 1083, []), (0, 0, 0, 0, 1, []), (8, 0, 0, 0, 0, []), (45, 65, 10, 6, 1083, []), (4, 0, 0, 0, 0, []), (44, 65, 10, 6, 1083, []), (53, 0, 0, 0, 0, [])]
def ac_M_in : List AOp := [(3, 0, 0, 0, 0, []), (3, 1, 0, 0, 0, []), (37, 8, 0, 0, 12, []), (3, 0, 0, 0, 0, []), (3, 2, 0, 0, 0, []), (39, 8, 0, 0, 7, []), (0, 0, 0, 0, 1, []), (41, 9, 0, 0, 4, []), (0, 0, 0, 0, 0, []), (53, 0, 0, 0, 0, [])]
def ac_M_erase : List AOp := [(4, 0, 0, 0, 0, []), (44, 65, 10, 6, 1083, []), (5, 1, 0, 0, 0, []), (4, 0, 0, 0, 0, []), (0, 0, 0, 0, 0, []), (45, 65, 10, 6, 1083, []), (3, 1, 0, 0, 0, []), (53, 0, 0, 0, 0, [])]
def ac_M_fault : List AOp := [(4, 0, 0, 0, 0, []), (56, 160, 130, 0, 0, [(0, 1180), (0, 1182), (0, 38), (0, 85)]), (29, 5, 0, 0, 7, []), (0, 0, 0, 0, (-1), []), (41, 7, 0, 0, 7, []), (4, 0, 0, 0, 0, []), (44, 96, 10, 13, 1090, []), (53, 0, 0, 0, 0, [])]
def ac_M_isRead : List AOp := [(4, 0, 0, 0, 0, []), (0, 0, 0, 0, 0, []), (45, 68, 10, 8, 1085, []), (4, 0, 0, 0, 0, []), (0, 0, 0, 0, 0, []), (45, 151, 10, 14, 1091, []), (4, 0, 0, 0, 0, []), (4, 0, 0, 0, 0, []), (44, 50, 10, 0, 1077, []), (45, 106, 10, 15, 1092, []), (4, 0, 0, 0, 0, []), (4, 0, 0, 0, 0, []), (44, 58, 10, 2, 1079, []), (45, 109, 10, 16, 1093, []), (4, 0, 0, 0, 0, []), (4, 0, 0, 0, 0, []), (44, 154, 10, 4, 1081, []), (45, 116, 10, 17, 1094, []), (0, 0, 0, 0, 1, []), (5, 1, 0, 0, 0, []), (59, 20, 0, 0, 0, []), (3, 1, 0, 0, 0, []), (29, 54, 0, 0, 61, []), (4, 0, 0, 0, 0, []), (0, 0, 0, 0, 5, []), (4, 0, 0, 0, 0, []), (44, 151, 10, 14, 1091, []), (10, 0, 0, 0, 0, []), (56, 157, 131, 1, 0, [(0, 1184), (0, 1186), (0, 39), (0, 85)]), (30, 32, 0, 0, 5, []), (0, 0, 0, 0, 0, []), (53, 0, 0, 0, 0, []), (4, 0, 0, 0, 0, []), (26, 0, 0, 0, 0, []), (44, 151, 10, 14, 1091, []), (0, 0, 0, 0, 1, []), (8, 0, 0, 0, 0, []), (45, 151, 10, 14, 1091, []), (4, 0, 0, 0, 0, []), (56, 99, 132, 0, 0, [(0, 1188), (0, 1190), (0, 40), (0, 85)]), (4, 0, 0, 0, 0, []), (44, 82, 10, 10, 1087, []), (2, 1, 94, 1197, (-3), []), (25, 0, 0, 0, 0, []), (30, 51, 0, 0, 16, []), (4, 0, 0, 0, 0, []), (44, 151, 10, 14, 1091, []), (0, 1, 0, 0, 14, []), (38, 51, 0, 0, 7, []), (0, 0, 0, 0, 1, []), (41, 52, 0, 0, 4, []), (0, 0, 0, 0, 0, []), (5, 1, 0, 0, 0, []), (41, 20, 0, 0, (-59), []), (59, 54, 0, 0, 0, []), (4, 0, 0, 0, 0, []), (44, 82, 10, 10, 1087, []), (2, 1, 80, 1192, (-2), []), (25, 0, 0, 0, 0, []), (29, 63, 0, 0, 10, []), (4, 0, 0, 0, 0, []), (56, 102, 134, 0, 1, [(0, 1213), (0, 1215), (0, 42), (0, 85)]), (29, 65, 0, 0, 7, []), (0, 0, 0, 0, 1, []), (41, 66, 0, 0, 4, []), (0, 0, 0, 0, 0, []), (53, 0, 0, 0, 0, [])]
def ac_M_isLine : List AOp := [(4, 0, 0, 0, 0, []), (56, 99, 132, 0, 0, [(0, 1188), (0, 1190), (0, 40), (0, 85)]), (4, 0, 0, 0, 0, []), (44, 82, 10, 10, 1087, []), (2, 1, 119, 1198, 4137608, []), (25, 0, 0, 0, 0, []), (30, 9, 0, 0, 7, []), (0, 0, 0, 0, 0, []), (41, 45, 0, 0, 79, []), (4, 0, 0, 0, 0, []), (44, 82, 10, 10, 1087, []), (2, 1, 121, 1199, 8935714008, []), (25, 0, 0, 0, 0, []), (30, 16, 0, 0, 7, []), (0, 0, 0, 0, 1, []), (41, 45, 0, 0, 64, []), (4, 0, 0, 0, 0, []), (44, 82, 10, 10, 1087, []), (2, 1, 123, 1200, 175122720, []), (25, 0, 0, 0, 0, []), (30, 23, 0, 0, 7, []), (0, 0, 0, 0, 2, []), (41, 45, 0, 0, 49, []), (4, 0, 0, 0, 0, []), (44, 82, 10, 10, 1087, []), (2, 1, 125, 1201, 168932, []), (25, 0, 0, 0, 0, []), (30, 30, 0, 0, 7, []), (0, 0, 0, 0, 3, []), (41, 45, 0, 0, 34, []), (4, 0, 0, 0, 0, []), (44, 82, 10, 10, 1087, []), (2, 1, 127, 1202, 94377, []), (25, 0, 0, 0, 0, []), (30, 37, 0, 0, 7, []), (0, 0, 0, 0, 4, []), (41, 45, 0, 0, 19, []), (4, 0, 0, 0, 0, []), (44, 82, 10, 10, 1087, []), (2, 1, 129, 1203, 407354, []), (25, 0, 0, 0, 0, []), (30, 44, 0, 0, 7, []), (0, 0, 0, 0, 5, []), (41, 45, 0, 0, 4, []), (0, 0, 0, 0, (-1), []), (5, 2, 0, 0, 0, []), (59, 46, 0, 0, 0, []), (4, 0, 0, 0, 0, []), (44, 82, 10, 10, 1087, []), (2, 1, 131, 1204, 86710561, []), (25, 0, 0, 0, 0, []), (30, 54, 0, 0, 8, []), (0, 1, 0, 0, 6, []), (41, 83, 0, 0, 68, []), (4, 0, 0, 0, 0, []), (44, 82, 10, 10, 1087, []), (2, 1, 133, 1205, 7215046, []), (25, 0, 0, 0, 0, []), (30, 61, 0, 0, 8, []), (0, 1, 0, 0, 7, []), (41, 83, 0, 0, 52, []), (4, 0, 0, 0, 0, []), (44, 82, 10, 10, 1087, []), (2, 1, 135, 1206, 6953, []), (25, 0, 0, 0, 0, []), (30, 68, 0, 0, 8, []), (0, 1, 0, 0, 8, []), (41, 83, 0, 0, 36, []), (4, 0, 0, 0, 0, []), (44, 82, 10, 10, 1087, []), (2, 1, 137, 1207, 7622660, []), (25, 0, 0, 0, 0, []), (30, 75, 0, 0, 8, []), (0, 1, 0, 0, 9, []), (41, 83, 0, 0, 20, []), (4, 0, 0, 0, 0, []), (44, 82, 10, 10, 1087, []), (2, 1, 139, 1208, 8815221, []), (25, 0, 0, 0, 0, []), (30, 82, 0, 0, 8, []), (0, 1, 0, 0, 10, []), (41, 83, 0, 0, 4, []), (0, 0, 0, 0, (-1), []), (5, 3, 0, 0, 0, []), (59, 84, 0, 0, 0, []), (4, 0, 0, 0, 0, []), (44, 22, 10, 18, 1095, []), (3, 1, 0, 0, 0, []), (3, 2, 0, 0, 0, []), (0, 0, 0, 0, (-1), []), (36, 93, 0, 0, 7, []), (3, 3, 0, 0, 0, []), (41, 94, 0, 0, 4, []), (3, 2, 0, 0, 0, []), (48, 0, 0, 0, 0, []), (59, 95, 0, 0, 0, []), (4, 0, 0, 0, 0, []), (44, 22, 10, 18, 1095, []), (3, 1, 0, 0, 0, []), (47, 0, 0, 0, 0, []), (42, 144, 60, 0, 128, [(0, 101), (1, 101), (2, 101), (3, 101), (4, 104), (5, 104), (6, 104), (7, 104), (8, 108), (9, 119), (10, 123)]), (4, 0, 0, 0, 0, []), (56, 141, 133, 0, 0, [(0, 1209), (0, 1211), (0, 41), (0, 85)]), (53, 0, 0, 0, 0, []), (4, 0, 0, 0, 0, []), (3, 1, 0, 0, 0, []), (56, 144, 135, 1, 0, [(0, 1217), (0, 1219), (0, 43), (0, 85)]), (53, 0, 0, 0, 0, []), (4, 0, 0, 0, 0, []), (0, 0, 0, 0, 0, []), (45, 106, 10, 15, 1092, []), (4, 0, 0, 0, 0, []), (0, 0, 0, 0, 0, []), (45, 109, 10, 16, 1093, []), (4, 0, 0, 0, 0, []), (0, 0, 0, 0, 0, []), (45, 116, 10, 17, 1094, []), (0, 0, 0, 0, 1, []), (53, 0, 0, 0, 0, []), (4, 0, 0, 0, 0, []), (3, 1, 0, 0, 0, []), (56, 148, 137, 1, 0, [(0, 1225), (0, 1227), (0, 45), (0, 85)]), (53, 0, 0, 0, 0, []), (4, 0, 0, 0, 0, []), (3, 1, 0, 0, 0, []), (0, 0, 0, 0, 1, []), (8, 0, 0, 0, 0, []), (4, 0, 0, 0, 0, []), (44, 109, 10, 16, 1093, []), (0, 0, 0, 0, 1, []), (9, 0, 0, 0, 0, []), (56, 112, 136, 2, 0, [(0, 1221), (0, 1223), (0, 44), (0, 85)]), (29, 142, 0, 0, 19, []), (4, 0, 0, 0, 0, []), (3, 1, 0, 0, 0, []), (0, 0, 0, 0, 2, []), (8, 0, 0, 0, 0, []), (0, 1, 0, 0, 9, []), (56, 112, 136, 2, 0, [(0, 1221), (0, 1223), (0, 44), (0, 85)]), (29, 142, 0, 0, 7, []), (0, 0, 0, 0, 1, []), (41, 143, 0, 0, 4, []), (0, 0, 0, 0, 0, []), (53, 0, 0, 0, 0, []), (4, 0, 0, 0, 0, []), (56, 102, 134, 0, 1, [(0, 1213), (0, 1215), (0, 42), (0, 85)]), (53, 0, 0, 0, 0, [])]
def ac_M_nextToken : List AOp := [(59, 0, 0, 0, 0, []), (4, 0, 0, 0, 0, []), (44, 68, 10, 8, 1085, []), (4, 0, 0, 0, 0, []), (44, 65, 10, 6, 1083, []), (38, 20, 0, 0, 30, []), (4, 0, 0, 0, 0, []), (44, 19, 10, 7, 1084, []), (4, 0, 0, 0, 0, []), (44, 68, 10, 8, 1085, []), (47, 0, 0, 0, 0, []), (0, 1, 0, 0, 32, []), (36, 20, 0, 0, 16, []), (4, 0, 0, 0, 0, []), (26, 0, 0, 0, 0, []), (44, 68, 10, 8, 1085, []), (0, 0, 0, 0, 1, []), (8, 0, 0, 0, 0, []), (45, 68, 10, 8, 1085, []), (41, 0, 0, 0, (-35), []), (59, 20, 0, 0, 0, []), (4, 0, 0, 0, 0, []), (4, 0, 0, 0, 0, []), (44, 68, 10, 8, 1085, []), (45, 71, 10, 9, 1086, []), (4, 0, 0, 0, 0, []), (0, 0, 0, 0, 0, []), (45, 74, 10, 11, 1088, []), (4, 0, 0, 0, 0, []), (0, 0, 0, 0, 0, []), (45, 77, 10, 12, 1089, []), (4, 0, 0, 0, 0, []), (44, 68, 10, 8, 1085, []), (4, 0, 0, 0, 0, []), (44, 65, 10, 6, 1083, []), (36, 40, 0, 0, 13, []), (4, 0, 0, 0, 0, []), (2, 1, 80, 1192, (-2), []), (45, 82, 10, 10, 1087, []), (41, 200, 0, 0, 320, []), (4, 0, 0, 0, 0, []), (44, 19, 10, 7, 1084, []), (4, 0, 0, 0, 0, []), (44, 68, 10, 8, 1085, []), (47, 0, 0, 0, 0, []), (0, 1, 0, 0, 97, []), (0, 1, 0, 0, 122, []), (57, 54, 127, 3, 1, [(0, 1169), (0, 1170), (0, 85)]), (29, 113, 0, 0, 129, []), (4, 0, 0, 0, 0, []), (2, 0, 0, 0, 0, []), (45, 82, 10, 10, 1087, []), (59, 52, 0, 0, 0, []), (4, 0, 0, 0, 0, []), (44, 68, 10, 8, 1085, []), (4, 0, 0, 0, 0, []), (44, 65, 10, 6, 1083, []), (38, 98, 0, 0, 82, []), (4, 0, 0, 0, 0, []), (44, 19, 10, 7, 1084, []), (4, 0, 0, 0, 0, []), (44, 68, 10, 8, 1085, []), (47, 0, 0, 0, 0, []), (0, 1, 0, 0, 97, []), (0, 1, 0, 0, 122, []), (57, 54, 127, 3, 1, [(0, 1169), (0, 1170), (0, 85)]), (29, 98, 0, 0, 63, []), (4, 0, 0, 0, 0, []), (4, 0, 0, 0, 0, []), (44, 68, 10, 8, 1085, []), (4, 0, 0, 0, 0, []), (44, 71, 10, 9, 1086, []), (9, 0, 0, 0, 0, []), (0, 1, 0, 0, 9, []), (38, 89, 0, 0, 29, []), (2, 1, 86, 1193, 27, []), (4, 0, 0, 0, 0, []), (44, 82, 10, 10, 1087, []), (24, 0, 0, 0, 0, []), (4, 0, 0, 0, 0, []), (44, 19, 10, 7, 1084, []), (4, 0, 0, 0, 0, []), (44, 68, 10, 8, 1085, []), (47, 0, 0, 0, 0, []), (19, 0, 0, 0, 0, []), (22, 0, 0, 0, 0, []), (2, 1, 88, 1194, 96, []), (23, 0, 0, 0, 0, []), (41, 90, 0, 0, 6, []), (2, 1, 90, 1195, (-4), []), (45, 82, 10, 10, 1087, []), (4, 0, 0, 0, 0, []), (26, 0, 0, 0, 0, []), (44, 68, 10, 8, 1085, []), (0, 0, 0, 0, 1, []), (8, 0, 0, 0, 0, []), (45, 68, 10, 8, 1085, []), (41, 52, 0, 0, (-87), []), (59, 98, 0, 0, 0, []), (4, 0, 0, 0, 0, []), (4, 0, 0, 0, 0, []), (44, 68, 10, 8, 1085, []), (4, 0, 0, 0, 0, []), (44, 71, 10, 9, 1086, []), (9, 0, 0, 0, 0, []), (0, 1, 0, 0, 9, []), (40, 109, 0, 0, 9, []), (2, 1, 90, 1195, (-4), []), (41, 111, 0, 0, 7, []), (4, 0, 0, 0, 0, []), (44, 82, 10, 10, 1087, []), (45, 82, 10, 10, 1087, []), (41, 200, 0, 0, 175, []), (4, 0, 0, 0, 0, []), (44, 19, 10, 7, 1084, []), (4, 0, 0, 0, 0, []), (44, 68, 10, 8, 1085, []), (47, 0, 0, 0, 0, []), (0, 1, 0, 0, 48, []), (0, 1, 0, 0, 57, []), (57, 54, 127, 3, 1, [(0, 1169), (0, 1170), (0, 85)]), (29, 182, 0, 0, 119, []), (59, 122, 0, 0, 0, []), (4, 0, 0, 0, 0, []), (44, 68, 10, 8, 1085, []), (4, 0, 0, 0, 0, []), (44, 65, 10, 6, 1083, []), (38, 171, 0, 0, 84, []), (4, 0, 0, 0, 0, []), (44, 19, 10, 7, 1084, []), (4, 0, 0, 0, 0, []), (44, 68, 10, 8, 1085, []), (47, 0, 0, 0, 0, []), (0, 1, 0, 0, 48, []), (0, 1, 0, 0, 57, []), (57, 54, 127, 3, 1, [(0, 1169), (0, 1170), (0, 85)]), (29, 171, 0, 0, 65, []), (4, 0, 0, 0, 0, []), (4, 0, 0, 0, 0, []), (44, 74, 10, 11, 1088, []), (0, 0, 0, 0, 2, []), (38, 155, 0, 0, 26, []), (0, 1, 0, 0, 10, []), (4, 0, 0, 0, 0, []), (44, 77, 10, 12, 1089, []), (10, 0, 0, 0, 0, []), (4, 0, 0, 0, 0, []), (44, 19, 10, 7, 1084, []), (4, 0, 0, 0, 0, []), (44, 68, 10, 8, 1085, []), (47, 0, 0, 0, 0, []), (8, 0, 0, 0, 0, []), (0, 1, 0, 0, 48, []), (9, 0, 0, 0, 0, []), (41, 157, 0, 0, 7, []), (4, 0, 0, 0, 0, []), (44, 77, 10, 12, 1089, []), (45, 77, 10, 12, 1089, []), (4, 0, 0, 0, 0, []), (26, 0, 0, 0, 0, []), (44, 74, 10, 11, 1088, []), (0, 0, 0, 0, 1, []), (8, 0, 0, 0, 0, []), (45, 74, 10, 11, 1088, []), (4, 0, 0, 0, 0, []), (26, 0, 0, 0, 0, []), (44, 68, 10, 8, 1085, []), (0, 0, 0, 0, 1, []), (8, 0, 0, 0, 0, []), (45, 68, 10, 8, 1085, []), (41, 122, 0, 0, (-89), []), (59, 171, 0, 0, 0, []), (4, 0, 0, 0, 0, []), (4, 0, 0, 0, 0, []), (44, 74, 10, 11, 1088, []), (0, 0, 0, 0, 2, []), (40, 179, 0, 0, 9, []), (2, 1, 90, 1195, (-4), []), (41, 180, 0, 0, 6, []), (2, 1, 92, 1196, (-1), []), (45, 82, 10, 10, 1087, []), (41, 200, 0, 0, 40, []), (4, 0, 0, 0, 0, []), (4, 0, 0, 0, 0, []), (44, 19, 10, 7, 1084, []), (4, 0, 0, 0, 0, []), (44, 68, 10, 8, 1085, []), (47, 0, 0, 0, 0, []), (0, 1, 0, 0, 59, []), (36, 192, 0, 0, 9, []), (2, 1, 94, 1197, (-3), []), (41, 193, 0, 0, 6, []), (2, 1, 90, 1195, (-4), []), (45, 82, 10, 10, 1087, []), (4, 0, 0, 0, 0, []), (26, 0, 0, 0, 0, []), (44, 68, 10, 8, 1085, []), (0, 0, 0, 0, 1, []), (8, 0, 0, 0, 0, []), (45, 68, 10, 8, 1085, []), (54, 0, 0, 0, 0, [])]
def ac_M_isPersonLine : List AOp := [(4, 0, 0, 0, 0, []), (44, 106, 10, 15, 1092, []), (0, 0, 0, 0, 5, []), (36, 7, 0, 0, 8, []), (4, 0, 0, 0, 0, []), (56, 102, 134, 0, 1, [(0, 1213), (0, 1215), (0, 42), (0, 85)]), (53, 0, 0, 0, 0, []), (4, 0, 0, 0, 0, []), (26, 0, 0, 0, 0, []), (44, 106, 10, 15, 1092, []), (0, 0, 0, 0, 1, []), (8, 0, 0, 0, 0, []), (45, 106, 10, 15, 1092, []), (0, 0, 0, 0, 1, []), (53, 0, 0, 0, 0, [])]
def ac_M_fails : List AOp := [(4, 0, 0, 0, 0, []), (4, 0, 0, 0, 0, []), (44, 71, 10, 9, 1086, []), (45, 96, 10, 13, 1090, []), (0, 0, 0, 0, 0, []), (53, 0, 0, 0, 0, [])]
def ac_M_isThingLine : List AOp := [(4, 0, 0, 0, 0, []), (44, 109, 10, 16, 1093, []), (0, 1, 0, 0, 6, []), (36, 7, 0, 0, 8, []), (4, 0, 0, 0, 0, []), (56, 102, 134, 0, 1, [(0, 1213), (0, 1215), (0, 42), (0, 85)]), (53, 0, 0, 0, 0, []), (4, 0, 0, 0, 0, []), (26, 0, 0, 0, 0, []), (44, 109, 10, 16, 1093, []), (0, 0, 0, 0, 1, []), (8, 0, 0, 0, 0, []), (45, 109, 10, 16, 1093, []), (4, 0, 0, 0, 0, []), (44, 22, 10, 18, 1095, []), (3, 1, 0, 0, 0, []), (47, 0, 0, 0, 0, []), (0, 0, 0, 0, 4, []), (9, 0, 0, 0, 0, []), (5, 2, 0, 0, 0, []), (4, 0, 0, 0, 0, []), (44, 22, 10, 18, 1095, []), (3, 1, 0, 0, 0, []), (0, 0, 0, 0, 3, []), (8, 0, 0, 0, 0, []), (0, 0, 0, 0, 0, []), (48, 0, 0, 0, 0, []), (4, 0, 0, 0, 0, []), (44, 22, 10, 18, 1095, []), (3, 1, 0, 0, 0, []), (0, 0, 0, 0, 4, []), (8, 0, 0, 0, 0, []), (0, 0, 0, 0, 0, []), (48, 0, 0, 0, 0, []), (4, 0, 0, 0, 0, []), (3, 1, 0, 0, 0, []), (0, 0, 0, 0, 1, []), (8, 0, 0, 0, 0, []), (0, 0, 0, 0, 2, []), (56, 112, 136, 2, 0, [(0, 1221), (0, 1223), (0, 44), (0, 85)]), (29, 51, 0, 0, 19, []), (4, 0, 0, 0, 0, []), (3, 1, 0, 0, 0, []), (0, 0, 0, 0, 2, []), (8, 0, 0, 0, 0, []), (4, 0, 0, 0, 0, []), (44, 106, 10, 15, 1092, []), (0, 0, 0, 0, 1, []), (9, 0, 0, 0, 0, []), (56, 112, 136, 2, 0, [(0, 1221), (0, 1223), (0, 44), (0, 85)]), (30, 53, 0, 0, 5, []), (0, 0, 0, 0, 0, []), (53, 0, 0, 0, 0, []), (3, 2, 0, 0, 0, []), (29, 72, 0, 0, 31, []), (4, 0, 0, 0, 0, []), (3, 1, 0, 0, 0, []), (0, 0, 0, 0, 3, []), (8, 0, 0, 0, 0, []), (0, 0, 0, 0, 3, []), (56, 112, 136, 2, 0, [(0, 1221), (0, 1223), (0, 44), (0, 85)]), (29, 74, 0, 0, 24, []), (3, 2, 0, 0, 0, []), (0, 0, 0, 0, 2, []), (36, 72, 0, 0, 15, []), (4, 0, 0, 0, 0, []), (3, 1, 0, 0, 0, []), (0, 0, 0, 0, 4, []), (8, 0, 0, 0, 0, []), (0, 1, 0, 0, 9, []), (56, 112, 136, 2, 0, [(0, 1221), (0, 1223), (0, 44), (0, 85)]), (29, 74, 0, 0, 7, []), (0, 0, 0, 0, 1, []), (41, 75, 0, 0, 4, []), (0, 0, 0, 0, 0, []), (53, 0, 0, 0, 0, [])]
def ac_M_isNumber : List AOp := [(4, 0, 0, 0, 0, []), (56, 99, 132, 0, 0, [(0, 1188), (0, 1190), (0, 40), (0, 85)]), (4, 0, 0, 0, 0, []), (44, 82, 10, 10, 1087, []), (2, 1, 92, 1196, (-1), []), (25, 0, 0, 0, 0, []), (30, 11, 0, 0, 11, []), (4, 0, 0, 0, 0, []), (44, 77, 10, 12, 1089, []), (3, 2, 0, 0, 0, []), (40, 14, 0, 0, 8, []), (4, 0, 0, 0, 0, []), (56, 102, 134, 0, 1, [(0, 1213), (0, 1215), (0, 42), (0, 85)]), (53, 0, 0, 0, 0, []), (4, 0, 0, 0, 0, []), (44, 22, 10, 18, 1095, []), (3, 1, 0, 0, 0, []), (4, 0, 0, 0, 0, []), (44, 77, 10, 12, 1089, []), (48, 0, 0, 0, 0, []), (0, 0, 0, 0, 1, []), (53, 0, 0, 0, 0, [])]
def ac_M_isNightLine : List AOp := [(4, 0, 0, 0, 0, []), (44, 116, 10, 17, 1094, []), (0, 1, 0, 0, 6, []), (36, 7, 0, 0, 8, []), (4, 0, 0, 0, 0, []), (56, 102, 134, 0, 1, [(0, 1213), (0, 1215), (0, 42), (0, 85)]), (53, 0, 0, 0, 0, []), (4, 0, 0, 0, 0, []), (26, 0, 0, 0, 0, []), (44, 116, 10, 17, 1094, []), (0, 0, 0, 0, 1, []), (8, 0, 0, 0, 0, []), (45, 116, 10, 17, 1094, []), (4, 0, 0, 0, 0, []), (3, 1, 0, 0, 0, []), (0, 0, 0, 0, 1, []), (8, 0, 0, 0, 0, []), (0, 0, 0, 0, 1, []), (4, 0, 0, 0, 0, []), (44, 106, 10, 15, 1092, []), (16, 0, 0, 0, 0, []), (0, 0, 0, 0, 1, []), (9, 0, 0, 0, 0, []), (56, 112, 136, 2, 0, [(0, 1221), (0, 1223), (0, 44), (0, 85)]), (53, 0, 0, 0, 0, [])]
def ac_M_inn : List AOp := [(4, 0, 0, 0, 0, []), (56, 160, 130, 0, 0, [(0, 1180), (0, 1182), (0, 38), (0, 85)]), (30, 5, 0, 0, 6, []), (0, 1, 0, 0, (-4), []), (53, 0, 0, 0, 0, []), (0, 0, 0, 0, 0, []), (5, 1, 0, 0, 0, []), (59, 7, 0, 0, 0, []), (3, 1, 0, 0, 0, []), (4, 0, 0, 0, 0, []), (44, 151, 10, 14, 1091, []), (38, 19, 0, 0, 16, []), (4, 0, 0, 0, 0, []), (0, 0, 0, 0, 5, []), (3, 1, 0, 0, 0, []), (10, 0, 0, 0, 0, []), (56, 163, 139, 1, 0, [(0, 1233), (0, 1235), (0, 46), (0, 85)]), (7, 1, 0, 0, 1, []), (41, 7, 0, 0, (-18), []), (59, 19, 0, 0, 0, []), (4, 0, 0, 0, 0, []), (0, 0, 0, 0, 0, []), (45, 65, 10, 6, 1083, []), (0, 0, 0, 0, 0, []), (5, 1, 0, 0, 0, []), (59, 25, 0, 0, 0, []), (3, 1, 0, 0, 0, []), (0, 1, 0, 0, 27, []), (38, 36, 0, 0, 16, []), (4, 0, 0, 0, 0, []), (44, 25, 10, 19, 1096, []), (3, 1, 0, 0, 0, []), (0, 0, 0, 0, 0, []), (48, 0, 0, 0, 0, []), (7, 1, 0, 0, 1, []), (41, 25, 0, 0, (-16), []), (59, 36, 0, 0, 0, []), (0, 0, 0, 0, 0, []), (5, 1, 0, 0, 0, []), (59, 39, 0, 0, 0, []), (3, 1, 0, 0, 0, []), (4, 0, 0, 0, 0, []), (44, 58, 10, 2, 1079, []), (38, 65, 0, 0, 35, []), (4, 0, 0, 0, 0, []), (44, 25, 10, 19, 1096, []), (3, 1, 0, 0, 0, []), (3, 1, 0, 0, 0, []), (48, 0, 0, 0, 0, []), (4, 0, 0, 0, 0, []), (44, 25, 10, 19, 1096, []), (0, 1, 0, 0, 6, []), (3, 1, 0, 0, 0, []), (8, 0, 0, 0, 0, []), (4, 0, 0, 0, 0, []), (44, 13, 10, 3, 1080, []), (0, 0, 0, 0, 5, []), (3, 1, 0, 0, 0, []), (10, 0, 0, 0, 0, []), (0, 0, 0, 0, 4, []), (8, 0, 0, 0, 0, []), (47, 0, 0, 0, 0, []), (48, 0, 0, 0, 0, []), (7, 1, 0, 0, 1, []), (41, 39, 0, 0, (-37), []), (59, 65, 0, 0, 0, []), (4, 0, 0, 0, 0, []), (0, 0, 0, 0, 0, []), (45, 167, 10, 22, 1099, []), (4, 0, 0, 0, 0, []), (44, 31, 10, 21, 1098, []), (0, 0, 0, 0, 0, []), (0, 0, 0, 0, 0, []), (50, 0, 0, 0, 0, []), (4, 0, 0, 0, 0, []), (44, 31, 10, 21, 1098, []), (0, 0, 0, 0, 1, []), (0, 0, 0, 0, 0, []), (50, 0, 0, 0, 0, []), (4, 0, 0, 0, 0, []), (44, 151, 10, 14, 1091, []), (53, 0, 0, 0, 0, [])]
def ac_M_doLine : List AOp := [(4, 0, 0, 0, 0, []), (44, 22, 10, 18, 1095, []), (3, 1, 0, 0, 0, []), (47, 0, 0, 0, 0, []), (5, 2, 0, 0, 0, []), (3, 2, 0, 0, 0, []), (0, 0, 0, 0, 4, []), (38, 21, 0, 0, 26, []), (4, 0, 0, 0, 0, []), (44, 7, 10, 1, 1078, []), (4, 0, 0, 0, 0, []), (44, 50, 10, 0, 1077, []), (3, 2, 0, 0, 0, []), (48, 0, 0, 0, 0, []), (4, 0, 0, 0, 0, []), (26, 0, 0, 0, 0, []), (44, 50, 10, 0, 1077, []), (0, 0, 0, 0, 1, []), (8, 0, 0, 0, 0, []), (45, 50, 10, 0, 1077, []), (41, 118, 0, 0, 155, []), (3, 2, 0, 0, 0, []), (0, 1, 0, 0, 8, []), (38, 65, 0, 0, 64, []), (4, 0, 0, 0, 0, []), (44, 13, 10, 3, 1080, []), (0, 0, 0, 0, 5, []), (4, 0, 0, 0, 0, []), (44, 58, 10, 2, 1079, []), (10, 0, 0, 0, 0, []), (3, 2, 0, 0, 0, []), (0, 0, 0, 0, 4, []), (9, 0, 0, 0, 0, []), (48, 0, 0, 0, 0, []), (0, 0, 0, 0, 1, []), (5, 3, 0, 0, 0, []), (59, 36, 0, 0, 0, []), (3, 3, 0, 0, 0, []), (0, 0, 0, 0, 5, []), (38, 57, 0, 0, 30, []), (4, 0, 0, 0, 0, []), (44, 13, 10, 3, 1080, []), (0, 0, 0, 0, 5, []), (4, 0, 0, 0, 0, []), (44, 58, 10, 2, 1079, []), (10, 0, 0, 0, 0, []), (3, 3, 0, 0, 0, []), (8, 0, 0, 0, 0, []), (4, 0, 0, 0, 0, []), (44, 22, 10, 18, 1095, []), (3, 1, 0, 0, 0, []), (3, 3, 0, 0, 0, []), (8, 0, 0, 0, 0, []), (47, 0, 0, 0, 0, []), (48, 0, 0, 0, 0, []), (7, 3, 0, 0, 1, []), (41, 36, 0, 0, (-29), []), (59, 57, 0, 0, 0, []), (4, 0, 0, 0, 0, []), (26, 0, 0, 0, 0, []), (44, 58, 10, 2, 1079, []), (0, 0, 0, 0, 1, []), (8, 0, 0, 0, 0, []), (45, 58, 10, 2, 1079, []), (41, 118, 0, 0, 88, []), (3, 2, 0, 0, 0, []), (0, 1, 0, 0, 8, []), (36, 78, 0, 0, 21, []), (4, 0, 0, 0, 0, []), (0, 0, 0, 0, 0, []), (45, 50, 10, 0, 1077, []), (4, 0, 0, 0, 0, []), (0, 0, 0, 0, 0, []), (45, 58, 10, 2, 1079, []), (4, 0, 0, 0, 0, []), (0, 0, 0, 0, 0, []), (45, 154, 10, 4, 1081, []), (41, 118, 0, 0, 64, []), (3, 2, 0, 0, 0, []), (0, 1, 0, 0, 9, []), (36, 99, 0, 0, 33, []), (4, 0, 0, 0, 0, []), (44, 16, 10, 5, 1082, []), (4, 0, 0, 0, 0, []), (44, 154, 10, 4, 1081, []), (4, 0, 0, 0, 0, []), (44, 22, 10, 18, 1095, []), (3, 1, 0, 0, 0, []), (0, 0, 0, 0, 1, []), (8, 0, 0, 0, 0, []), (47, 0, 0, 0, 0, []), (48, 0, 0, 0, 0, []), (4, 0, 0, 0, 0, []), (26, 0, 0, 0, 0, []), (44, 154, 10, 4, 1081, []), (0, 0, 0, 0, 1, []), (8, 0, 0, 0, 0, []), (45, 154, 10, 4, 1081, []), (41, 118, 0, 0, 28, []), (4, 0, 0, 0, 0, []), (44, 13, 10, 3, 1080, []), (0, 0, 0, 0, 5, []), (4, 0, 0, 0, 0, []), (44, 22, 10, 18, 1095, []), (3, 1, 0, 0, 0, []), (0, 0, 0, 0, 1, []), (8, 0, 0, 0, 0, []), (47, 0, 0, 0, 0, []), (10, 0, 0, 0, 0, []), (0, 0, 0, 0, 4, []), (8, 0, 0, 0, 0, []), (4, 0, 0, 0, 0, []), (44, 22, 10, 18, 1095, []), (3, 1, 0, 0, 0, []), (0, 0, 0, 0, 2, []), (8, 0, 0, 0, 0, []), (47, 0, 0, 0, 0, []), (48, 0, 0, 0, 0, []), (54, 0, 0, 0, 0, [])]
def ac_M_one : List AOp := [(4, 0, 0, 0, 0, []), (3, 1, 0, 0, 0, []), (56, 173, 141, 1, 1, [(0, 1241), (0, 1243), (0, 47), (0, 85)]), (30, 6, 0, 0, 6, []), (0, 1, 0, 0, (-2), []), (53, 0, 0, 0, 0, []), (0, 0, 0, 0, 0, []), (5, 3, 0, 0, 0, []), (0, 0, 0, 0, 0, []), (5, 4, 1, 0, 0, []), (59, 10, 0, 0, 0, []), (3, 4, 1, 0, 0, []), (4, 0, 0, 0, 0, []), (44, 58, 10, 2, 1079, []), (38, 30, 0, 0, 30, []), (3, 3, 0, 0, 0, []), (4, 0, 0, 0, 0, []), (3, 4, 1, 0, 0, []), (56, 61, 142, 1, 1, [(0, 1245), (0, 1247), (0, 48), (0, 85)]), (3, 1, 0, 0, 0, []), (36, 25, 0, 0, 10, []), (0, 0, 0, 0, 1, []), (3, 4, 1, 0, 0, []), (16, 0, 0, 0, 0, []), (41, 26, 0, 0, 4, []), (0, 0, 0, 0, 0, []), (14, 0, 0, 0, 0, []), (5, 3, 0, 0, 0, []), (7, 4, 0, 0, 1, []), (41, 10, 0, 0, (-33), []), (59, 30, 0, 0, 0, []), (3, 2, 0, 0, 0, []), (42, 53, 31, 0, 58, [(0, 33), (1, 38), (2, 40), (3, 49)]), (4, 0, 0, 0, 0, []), (44, 7, 10, 1, 1078, []), (3, 1, 0, 0, 0, []), (47, 0, 0, 0, 0, []), (53, 0, 0, 0, 0, []), (3, 3, 0, 0, 0, []), (53, 0, 0, 0, 0, []), (4, 0, 0, 0, 0, []), (44, 25, 10, 19, 1096, []), (0, 1, 0, 0, 26, []), (47, 0, 0, 0, 0, []), (3, 1, 0, 0, 0, []), (17, 0, 0, 0, 0, []), (0, 0, 0, 0, 1, []), (13, 0, 0, 0, 0, []), (53, 0, 0, 0, 0, []), (4, 0, 0, 0, 0, []), (3, 1, 0, 0, 0, []), (56, 176, 143, 1, 0, [(0, 1249), (0, 1251), (0, 49), (0, 85)]), (53, 0, 0, 0, 0, []), (0, 1, 0, 0, (-3), []), (53, 0, 0, 0, 0, [])]
def ac_M_isOne : List AOp := [(3, 1, 0, 0, 0, []), (0, 0, 0, 0, 0, []), (4, 0, 0, 0, 0, []), (44, 50, 10, 0, 1077, []), (0, 0, 0, 0, 1, []), (9, 0, 0, 0, 0, []), (57, 54, 127, 3, 1, [(0, 1169), (0, 1170), (0, 85)]), (53, 0, 0, 0, 0, [])]
def ac_M_keeperOf : List AOp := [(4, 0, 0, 0, 0, []), (44, 13, 10, 3, 1080, []), (0, 0, 0, 0, 5, []), (3, 1, 0, 0, 0, []), (10, 0, 0, 0, 0, []), (0, 0, 0, 0, 2, []), (8, 0, 0, 0, 0, []), (47, 0, 0, 0, 0, []), (53, 0, 0, 0, 0, [])]
def ac_M_nightsOf : List AOp := [(0, 0, 0, 0, 0, []), (5, 2, 0, 0, 0, []), (0, 0, 0, 0, 0, []), (5, 3, 0, 0, 0, []), (59, 4, 0, 0, 0, []), (3, 3, 0, 0, 0, []), (4, 0, 0, 0, 0, []), (44, 154, 10, 4, 1081, []), (38, 32, 0, 0, 42, []), (3, 2, 0, 0, 0, []), (4, 0, 0, 0, 0, []), (44, 7, 10, 1, 1078, []), (3, 1, 0, 0, 0, []), (47, 0, 0, 0, 0, []), (0, 0, 0, 0, 3, []), (35, 23, 0, 0, 16, []), (4, 0, 0, 0, 0, []), (44, 16, 10, 5, 1082, []), (3, 3, 0, 0, 0, []), (47, 0, 0, 0, 0, []), (3, 1, 0, 0, 0, []), (57, 170, 144, 2, 1, [(0, 1253), (0, 1254), (0, 85)]), (29, 27, 0, 0, 9, []), (0, 0, 0, 0, 1, []), (3, 3, 0, 0, 0, []), (16, 0, 0, 0, 0, []), (41, 28, 0, 0, 4, []), (0, 0, 0, 0, 0, []), (14, 0, 0, 0, 0, []), (5, 2, 0, 0, 0, []), (7, 3, 0, 0, 1, []), (41, 4, 0, 0, (-44), []), (3, 2, 0, 0, 0, []), (53, 0, 0, 0, 0, [])]
def ac_M_has : List AOp := [(3, 0, 0, 0, 0, []), (3, 1, 0, 0, 0, []), (17, 0, 0, 0, 0, []), (0, 0, 0, 0, 1, []), (13, 0, 0, 0, 0, []), (0, 0, 0, 0, 1, []), (36, 9, 0, 0, 7, []), (0, 0, 0, 0, 1, []), (41, 10, 0, 0, 4, []), (0, 0, 0, 0, 0, []), (53, 0, 0, 0, 0, [])]
def ac_M_as : List AOp := [(4, 0, 0, 0, 0, []), (3, 1, 0, 0, 0, []), (56, 173, 141, 1, 1, [(0, 1241), (0, 1243), (0, 47), (0, 85)]), (30, 6, 0, 0, 6, []), (0, 1, 0, 0, (-2), []), (53, 0, 0, 0, 0, []), (3, 2, 0, 0, 0, []), (0, 0, 0, 0, 0, []), (0, 0, 0, 0, 4, []), (57, 54, 127, 3, 1, [(0, 1169), (0, 1170), (0, 85)]), (30, 13, 0, 0, 6, []), (0, 1, 0, 0, (-3), []), (53, 0, 0, 0, 0, []), (4, 0, 0, 0, 0, []), (44, 7, 10, 1, 1078, []), (3, 1, 0, 0, 0, []), (47, 0, 0, 0, 0, []), (5, 3, 0, 0, 0, []), (3, 2, 0, 0, 0, []), (29, 32, 0, 0, 23, []), (3, 2, 0, 0, 0, []), (0, 0, 0, 0, 1, []), (36, 27, 0, 0, 11, []), (3, 3, 0, 0, 0, []), (0, 0, 0, 0, 3, []), (35, 34, 0, 0, 17, []), (41, 32, 0, 0, 10, []), (3, 3, 0, 0, 0, []), (3, 2, 0, 0, 0, []), (0, 0, 0, 0, 1, []), (9, 0, 0, 0, 0, []), (36, 34, 0, 0, 7, []), (0, 0, 0, 0, 1, []), (41, 35, 0, 0, 4, []), (0, 0, 0, 0, 0, []), (5, 4, 1, 0, 0, []), (0, 0, 0, 0, 0, []), (5, 5, 1, 0, 0, []), (0, 0, 0, 0, 0, []), (5, 6, 1, 0, 0, []), (59, 40, 0, 0, 0, []), (3, 6, 1, 0, 0, []), (4, 0, 0, 0, 0, []), (44, 58, 10, 2, 1079, []), (38, 66, 0, 0, 44, []), (3, 5, 1, 0, 0, []), (4, 0, 0, 0, 0, []), (3, 6, 1, 0, 0, []), (56, 61, 142, 1, 1, [(0, 1245), (0, 1247), (0, 48), (0, 85)]), (3, 1, 0, 0, 0, []), (36, 61, 0, 0, 22, []), (4, 0, 0, 0, 0, []), (4, 0, 0, 0, 0, []), (44, 25, 10, 19, 1096, []), (3, 6, 1, 0, 0, []), (47, 0, 0, 0, 0, []), (56, 61, 142, 1, 1, [(0, 1245), (0, 1247), (0, 48), (0, 85)]), (3, 1, 0, 0, 0, []), (36, 61, 0, 0, 7, []), (0, 0, 0, 0, 1, []), (41, 62, 0, 0, 4, []), (0, 0, 0, 0, 0, []), (8, 0, 0, 0, 0, []), (5, 5, 1, 0, 0, []), (7, 6, 0, 0, 1, []), (41, 40, 0, 0, (-47), []), (59, 66, 0, 0, 0, []), (3, 4, 1, 0, 0, []), (29, 71, 0, 0, 8, []), (3, 5, 1, 0, 0, []), (41, 72, 0, 0, 5, []), (0, 1, 0, 0, (-4), []), (53, 0, 0, 0, 0, [])]
def ac_M_thing : List AOp := [(4, 0, 0, 0, 0, []), (3, 1, 0, 0, 0, []), (56, 188, 147, 1, 1, [(0, 1264), (0, 1266), (0, 50), (0, 85)]), (30, 6, 0, 0, 6, []), (0, 1, 0, 0, (-2), []), (53, 0, 0, 0, 0, []), (3, 2, 0, 0, 0, []), (42, 38, 40, 0, 84, [(0, 8), (1, 12), (2, 16), (3, 20), (4, 27), (5, 31)]), (4, 0, 0, 0, 0, []), (3, 1, 0, 0, 0, []), (56, 182, 148, 1, 1, [(0, 1268), (0, 1270), (0, 51), (0, 85)]), (53, 0, 0, 0, 0, []), (4, 0, 0, 0, 0, []), (3, 1, 0, 0, 0, []), (56, 191, 149, 1, 1, [(0, 1272), (0, 1274), (0, 52), (0, 85)]), (53, 0, 0, 0, 0, []), (4, 0, 0, 0, 0, []), (3, 1, 0, 0, 0, []), (56, 179, 150, 1, 1, [(0, 1276), (0, 1278), (0, 53), (0, 85)]), (53, 0, 0, 0, 0, []), (4, 0, 0, 0, 0, []), (44, 25, 10, 19, 1096, []), (0, 1, 0, 0, 6, []), (3, 1, 0, 0, 0, []), (8, 0, 0, 0, 0, []), (47, 0, 0, 0, 0, []), (53, 0, 0, 0, 0, []), (4, 0, 0, 0, 0, []), (3, 1, 0, 0, 0, []), (56, 194, 151, 1, 0, [(0, 1280), (0, 1282), (0, 54), (0, 85)]), (53, 0, 0, 0, 0, []), (4, 0, 0, 0, 0, []), (44, 25, 10, 19, 1096, []), (0, 1, 0, 0, 12, []), (3, 1, 0, 0, 0, []), (8, 0, 0, 0, 0, []), (47, 0, 0, 0, 0, []), (53, 0, 0, 0, 0, []), (0, 1, 0, 0, (-3), []), (53, 0, 0, 0, 0, [])]
def ac_M_isPlace : List AOp := [(3, 1, 0, 0, 0, []), (0, 0, 0, 0, 0, []), (4, 0, 0, 0, 0, []), (44, 58, 10, 2, 1079, []), (0, 0, 0, 0, 1, []), (9, 0, 0, 0, 0, []), (57, 54, 127, 3, 1, [(0, 1169), (0, 1170), (0, 85)]), (53, 0, 0, 0, 0, [])]
def ac_M_kindOf : List AOp := [(4, 0, 0, 0, 0, []), (44, 13, 10, 3, 1080, []), (0, 0, 0, 0, 5, []), (3, 1, 0, 0, 0, []), (10, 0, 0, 0, 0, []), (47, 0, 0, 0, 0, []), (53, 0, 0, 0, 0, [])]
def ac_M_lookOf : List AOp := [(4, 0, 0, 0, 0, []), (44, 13, 10, 3, 1080, []), (0, 0, 0, 0, 5, []), (3, 1, 0, 0, 0, []), (10, 0, 0, 0, 0, []), (0, 0, 0, 0, 1, []), (8, 0, 0, 0, 0, []), (47, 0, 0, 0, 0, []), (53, 0, 0, 0, 0, [])]
def ac_M_wordOf : List AOp := [(4, 0, 0, 0, 0, []), (44, 13, 10, 3, 1080, []), (0, 0, 0, 0, 5, []), (3, 1, 0, 0, 0, []), (10, 0, 0, 0, 0, []), (0, 0, 0, 0, 3, []), (8, 0, 0, 0, 0, []), (47, 0, 0, 0, 0, []), (53, 0, 0, 0, 0, [])]
def ac_M_whereIs : List AOp := [(0, 0, 0, 0, 0, []), (5, 2, 0, 0, 0, []), (59, 2, 0, 0, 0, []), (3, 2, 0, 0, 0, []), (4, 0, 0, 0, 0, []), (44, 58, 10, 2, 1079, []), (38, 17, 0, 0, 21, []), (4, 0, 0, 0, 0, []), (44, 25, 10, 19, 1096, []), (3, 2, 0, 0, 0, []), (47, 0, 0, 0, 0, []), (3, 1, 0, 0, 0, []), (36, 15, 0, 0, 5, []), (3, 2, 0, 0, 0, []), (53, 0, 0, 0, 0, []), (7, 2, 0, 0, 1, []), (41, 2, 0, 0, (-23), []), (0, 0, 0, 0, (-1), []), (53, 0, 0, 0, 0, [])]
def ac_M_thingAs : List AOp := [(4, 0, 0, 0, 0, []), (3, 1, 0, 0, 0, []), (56, 188, 147, 1, 1, [(0, 1264), (0, 1266), (0, 50), (0, 85)]), (30, 6, 0, 0, 6, []), (0, 1, 0, 0, (-2), []), (53, 0, 0, 0, 0, []), (3, 2, 0, 0, 0, []), (0, 0, 0, 0, 0, []), (0, 0, 0, 0, 5, []), (57, 54, 127, 3, 1, [(0, 1169), (0, 1170), (0, 85)]), (30, 13, 0, 0, 6, []), (0, 1, 0, 0, (-3), []), (53, 0, 0, 0, 0, []), (4, 0, 0, 0, 0, []), (3, 1, 0, 0, 0, []), (56, 182, 148, 1, 1, [(0, 1268), (0, 1270), (0, 51), (0, 85)]), (5, 3, 0, 0, 0, []), (3, 2, 0, 0, 0, []), (29, 51, 0, 0, 63, []), (3, 2, 0, 0, 0, []), (0, 0, 0, 0, 1, []), (36, 25, 0, 0, 10, []), (3, 3, 0, 0, 0, []), (30, 53, 0, 0, 58, []), (41, 51, 0, 0, 51, []), (3, 2, 0, 0, 0, []), (0, 0, 0, 0, 2, []), (36, 31, 0, 0, 10, []), (3, 3, 0, 0, 0, []), (34, 53, 0, 0, 46, []), (41, 51, 0, 0, 39, []), (3, 2, 0, 0, 0, []), (0, 0, 0, 0, 3, []), (36, 41, 0, 0, 16, []), (3, 3, 0, 0, 0, []), (0, 0, 0, 0, 1, []), (35, 51, 0, 0, 29, []), (3, 3, 0, 0, 0, []), (0, 0, 0, 0, 3, []), (36, 53, 0, 0, 28, []), (41, 51, 0, 0, 21, []), (3, 2, 0, 0, 0, []), (0, 0, 0, 0, 4, []), (36, 48, 0, 0, 11, []), (3, 3, 0, 0, 0, []), (0, 0, 0, 0, 2, []), (36, 53, 0, 0, 15, []), (41, 51, 0, 0, 8, []), (3, 3, 0, 0, 0, []), (0, 0, 0, 0, 3, []), (36, 53, 0, 0, 7, []), (0, 0, 0, 0, 1, []), (41, 54, 0, 0, 4, []), (0, 0, 0, 0, 0, []), (5, 4, 1, 0, 0, []), (59, 55, 0, 0, 0, []), (3, 4, 1, 0, 0, []), (30, 60, 0, 0, 8, []), (0, 1, 0, 0, (-4), []), (41, 73, 0, 0, 26, []), (4, 0, 0, 0, 0, []), (3, 1, 0, 0, 0, []), (4, 0, 0, 0, 0, []), (3, 1, 0, 0, 0, []), (56, 194, 151, 1, 0, [(0, 1280), (0, 1282), (0, 54), (0, 85)]), (4, 0, 0, 0, 0, []), (3, 1, 0, 0, 0, []), (56, 179, 150, 1, 1, [(0, 1276), (0, 1278), (0, 53), (0, 85)]), (56, 197, 153, 3, 0, [(0, 1288), (0, 1290), (0, 55), (0, 85)]), (29, 72, 0, 0, 7, []), (0, 0, 0, 0, 1, []), (41, 73, 0, 0, 4, []), (0, 0, 0, 0, 0, []), (53, 0, 0, 0, 0, [])]
def ac_M_works : List AOp := [(3, 3, 0, 0, 0, []), (4, 0, 0, 0, 0, []), (3, 1, 0, 0, 0, []), (56, 179, 150, 1, 1, [(0, 1276), (0, 1278), (0, 53), (0, 85)]), (35, 7, 0, 0, 5, []), (0, 0, 0, 0, 0, []), (53, 0, 0, 0, 0, []), (4, 0, 0, 0, 0, []), (3, 1, 0, 0, 0, []), (56, 182, 148, 1, 1, [(0, 1268), (0, 1270), (0, 51), (0, 85)]), (42, 26, 28, 0, 50, [(0, 11), (1, 13), (2, 15)]), (0, 0, 0, 0, 0, []), (53, 0, 0, 0, 0, []), (0, 0, 0, 0, 1, []), (53, 0, 0, 0, 0, []), (4, 0, 0, 0, 0, []), (44, 25, 10, 19, 1096, []), (0, 1, 0, 0, 6, []), (3, 1, 0, 0, 0, []), (8, 0, 0, 0, 0, []), (47, 0, 0, 0, 0, []), (34, 24, 0, 0, 7, []), (0, 0, 0, 0, 1, []), (41, 25, 0, 0, 4, []), (0, 0, 0, 0, 0, []), (53, 0, 0, 0, 0, []), (4, 0, 0, 0, 0, []), (3, 2, 0, 0, 0, []), (56, 61, 142, 1, 1, [(0, 1245), (0, 1247), (0, 48), (0, 85)]), (4, 0, 0, 0, 0, []), (3, 1, 0, 0, 0, []), (56, 61, 142, 1, 1, [(0, 1245), (0, 1247), (0, 48), (0, 85)]), (35, 38, 0, 0, 12, []), (4, 0, 0, 0, 0, []), (3, 2, 0, 0, 0, []), (0, 0, 0, 0, 2, []), (56, 185, 154, 2, 1, [(0, 1292), (0, 1294), (0, 56), (0, 85)]), (29, 40, 0, 0, 7, []), (0, 0, 0, 0, 1, []), (41, 41, 0, 0, 4, []), (0, 0, 0, 0, 0, []), (53, 0, 0, 0, 0, [])]
def ac_M_isKeptBy : List AOp := [(4, 0, 0, 0, 0, []), (44, 7, 10, 1, 1078, []), (4, 0, 0, 0, 0, []), (3, 1, 0, 0, 0, []), (56, 61, 142, 1, 1, [(0, 1245), (0, 1247), (0, 48), (0, 85)]), (47, 0, 0, 0, 0, []), (3, 2, 0, 0, 0, []), (36, 10, 0, 0, 7, []), (0, 0, 0, 0, 1, []), (41, 11, 0, 0, 4, []), (0, 0, 0, 0, 0, []), (53, 0, 0, 0, 0, [])]
def ac_M_place : List AOp := [(4, 0, 0, 0, 0, []), (3, 1, 0, 0, 0, []), (56, 188, 147, 1, 1, [(0, 1264), (0, 1266), (0, 50), (0, 85)]), (30, 6, 0, 0, 6, []), (0, 1, 0, 0, (-2), []), (53, 0, 0, 0, 0, []), (3, 2, 0, 0, 0, []), (30, 12, 0, 0, 11, []), (4, 0, 0, 0, 0, []), (3, 1, 0, 0, 0, []), (56, 61, 142, 1, 1, [(0, 1245), (0, 1247), (0, 48), (0, 85)]), (41, 31, 0, 0, 36, []), (3, 2, 0, 0, 0, []), (0, 0, 0, 0, 1, []), (36, 20, 0, 0, 12, []), (4, 0, 0, 0, 0, []), (44, 25, 10, 19, 1096, []), (3, 1, 0, 0, 0, []), (47, 0, 0, 0, 0, []), (41, 31, 0, 0, 22, []), (3, 2, 0, 0, 0, []), (0, 0, 0, 0, 2, []), (36, 30, 0, 0, 15, []), (4, 0, 0, 0, 0, []), (44, 25, 10, 19, 1096, []), (0, 1, 0, 0, 18, []), (3, 1, 0, 0, 0, []), (8, 0, 0, 0, 0, []), (47, 0, 0, 0, 0, []), (41, 31, 0, 0, 5, []), (0, 1, 0, 0, (-3), []), (53, 0, 0, 0, 0, [])]
def ac_M_may : List AOp := [(3, 1, 0, 0, 0, []), (0, 0, 0, 0, 0, []), (4, 0, 0, 0, 0, []), (44, 154, 10, 4, 1081, []), (0, 0, 0, 0, 1, []), (9, 0, 0, 0, 0, []), (57, 54, 127, 3, 1, [(0, 1169), (0, 1170), (0, 85)]), (29, 16, 0, 0, 19, []), (4, 0, 0, 0, 0, []), (3, 2, 0, 0, 0, []), (56, 188, 147, 1, 1, [(0, 1264), (0, 1266), (0, 50), (0, 85)]), (29, 16, 0, 0, 11, []), (4, 0, 0, 0, 0, []), (3, 3, 0, 0, 0, []), (56, 188, 147, 1, 1, [(0, 1264), (0, 1266), (0, 50), (0, 85)]), (30, 18, 0, 0, 6, []), (0, 1, 0, 0, (-2), []), (53, 0, 0, 0, 0, []), (3, 2, 0, 0, 0, []), (3, 3, 0, 0, 0, []), (36, 23, 0, 0, 8, []), (0, 1, 0, 0, (-3), []), (41, 32, 0, 0, 18, []), (4, 0, 0, 0, 0, []), (3, 1, 0, 0, 0, []), (3, 2, 0, 0, 0, []), (3, 3, 0, 0, 0, []), (56, 203, 157, 3, 0, [(0, 1304), (0, 1306), (0, 57), (0, 85)]), (29, 31, 0, 0, 7, []), (0, 0, 0, 0, 1, []), (41, 32, 0, 0, 4, []), (0, 0, 0, 0, 0, []), (53, 0, 0, 0, 0, [])]
def ac_M_mayBe : List AOp := [(3, 2, 0, 0, 0, []), (3, 3, 0, 0, 0, []), (35, 22, 0, 0, 38, []), (4, 0, 0, 0, 0, []), (3, 2, 0, 0, 0, []), (56, 191, 149, 1, 1, [(0, 1272), (0, 1274), (0, 52), (0, 85)]), (4, 0, 0, 0, 0, []), (3, 3, 0, 0, 0, []), (56, 191, 149, 1, 1, [(0, 1272), (0, 1274), (0, 52), (0, 85)]), (36, 22, 0, 0, 25, []), (4, 0, 0, 0, 0, []), (3, 1, 0, 0, 0, []), (3, 2, 0, 0, 0, []), (56, 200, 158, 2, 0, [(0, 1308), (0, 1310), (0, 58), (0, 85)]), (29, 22, 0, 0, 16, []), (4, 0, 0, 0, 0, []), (3, 1, 0, 0, 0, []), (3, 3, 0, 0, 0, []), (56, 200, 158, 2, 0, [(0, 1308), (0, 1310), (0, 58), (0, 85)]), (29, 22, 0, 0, 7, []), (0, 0, 0, 0, 1, []), (41, 23, 0, 0, 4, []), (0, 0, 0, 0, 0, []), (53, 0, 0, 0, 0, [])]
def ac_M_isOpen : List AOp := [(4, 0, 0, 0, 0, []), (3, 2, 0, 0, 0, []), (0, 0, 0, 0, 3, []), (56, 185, 154, 2, 1, [(0, 1292), (0, 1294), (0, 56), (0, 85)]), (30, 19, 0, 0, 29, []), (4, 0, 0, 0, 0, []), (44, 16, 10, 5, 1082, []), (3, 1, 0, 0, 0, []), (47, 0, 0, 0, 0, []), (4, 0, 0, 0, 0, []), (3, 2, 0, 0, 0, []), (56, 61, 142, 1, 1, [(0, 1245), (0, 1247), (0, 48), (0, 85)]), (57, 170, 144, 2, 1, [(0, 1253), (0, 1254), (0, 85)]), (29, 21, 0, 0, 16, []), (4, 0, 0, 0, 0, []), (3, 2, 0, 0, 0, []), (0, 0, 0, 0, 1, []), (56, 185, 154, 2, 1, [(0, 1292), (0, 1294), (0, 56), (0, 85)]), (30, 21, 0, 0, 7, []), (0, 0, 0, 0, 1, []), (41, 22, 0, 0, 4, []), (0, 0, 0, 0, 0, []), (53, 0, 0, 0, 0, [])]
def ac_M_pass : List AOp := [(3, 1, 0, 0, 0, []), (0, 0, 0, 0, (-1), []), (35, 7, 0, 0, 11, []), (4, 0, 0, 0, 0, []), (3, 1, 0, 0, 0, []), (56, 188, 147, 1, 1, [(0, 1264), (0, 1266), (0, 50), (0, 85)]), (29, 14, 0, 0, 16, []), (3, 2, 0, 0, 0, []), (0, 0, 0, 0, (-1), []), (35, 16, 0, 0, 14, []), (4, 0, 0, 0, 0, []), (3, 2, 0, 0, 0, []), (56, 188, 147, 1, 1, [(0, 1264), (0, 1266), (0, 50), (0, 85)]), (30, 16, 0, 0, 6, []), (0, 1, 0, 0, (-2), []), (53, 0, 0, 0, 0, []), (3, 1, 0, 0, 0, []), (0, 0, 0, 0, (-1), []), (36, 24, 0, 0, 12, []), (3, 2, 0, 0, 0, []), (0, 0, 0, 0, (-1), []), (36, 24, 0, 0, 7, []), (0, 0, 0, 0, 1, []), (41, 25, 0, 0, 4, []), (0, 0, 0, 0, 0, []), (5, 3, 0, 0, 0, []), (59, 26, 0, 0, 0, []), (3, 3, 0, 0, 0, []), (30, 40, 0, 0, 21, []), (3, 1, 0, 0, 0, []), (3, 2, 0, 0, 0, []), (35, 38, 0, 0, 13, []), (3, 1, 0, 0, 0, []), (0, 0, 0, 0, (-1), []), (35, 38, 0, 0, 8, []), (3, 2, 0, 0, 0, []), (0, 0, 0, 0, (-1), []), (36, 40, 0, 0, 6, []), (0, 1, 0, 0, (-3), []), (53, 0, 0, 0, 0, []), (59, 40, 0, 0, 0, []), (4, 0, 0, 0, 0, []), (44, 25, 10, 19, 1096, []), (0, 1, 0, 0, 24, []), (47, 0, 0, 0, 0, []), (4, 0, 0, 0, 0, []), (44, 154, 10, 4, 1081, []), (35, 59, 0, 0, 23, []), (3, 3, 0, 0, 0, []), (30, 61, 0, 0, 22, []), (4, 0, 0, 0, 0, []), (4, 0, 0, 0, 0, []), (44, 25, 10, 19, 1096, []), (0, 1, 0, 0, 24, []), (47, 0, 0, 0, 0, []), (3, 1, 0, 0, 0, []), (3, 2, 0, 0, 0, []), (56, 203, 157, 3, 0, [(0, 1304), (0, 1306), (0, 57), (0, 85)]), (30, 61, 0, 0, 6, []), (0, 1, 0, 0, (-4), []), (53, 0, 0, 0, 0, []), (59, 61, 0, 0, 0, []), (4, 0, 0, 0, 0, []), (44, 25, 10, 19, 1096, []), (0, 1, 0, 0, 24, []), (27, 0, 0, 0, 0, []), (47, 0, 0, 0, 0, []), (0, 0, 0, 0, 1, []), (8, 0, 0, 0, 0, []), (48, 0, 0, 0, 0, []), (3, 3, 0, 0, 0, []), (30, 118, 0, 0, 68, []), (4, 0, 0, 0, 0, []), (44, 25, 10, 19, 1096, []), (3, 1, 0, 0, 0, []), (47, 0, 0, 0, 0, []), (5, 4, 1, 0, 0, []), (4, 0, 0, 0, 0, []), (44, 25, 10, 19, 1096, []), (3, 1, 0, 0, 0, []), (4, 0, 0, 0, 0, []), (44, 25, 10, 19, 1096, []), (3, 2, 0, 0, 0, []), (47, 0, 0, 0, 0, []), (48, 0, 0, 0, 0, []), (4, 0, 0, 0, 0, []), (44, 25, 10, 19, 1096, []), (3, 2, 0, 0, 0, []), (3, 4, 1, 0, 0, []), (48, 0, 0, 0, 0, []), (4, 0, 0, 0, 0, []), (44, 25, 10, 19, 1096, []), (0, 1, 0, 0, 25, []), (27, 0, 0, 0, 0, []), (47, 0, 0, 0, 0, []), (0, 0, 0, 0, 1, []), (8, 0, 0, 0, 0, []), (48, 0, 0, 0, 0, []), (4, 0, 0, 0, 0, []), (44, 25, 10, 19, 1096, []), (0, 1, 0, 0, 18, []), (3, 1, 0, 0, 0, []), (8, 0, 0, 0, 0, []), (27, 0, 0, 0, 0, []), (47, 0, 0, 0, 0, []), (0, 0, 0, 0, 1, []), (8, 0, 0, 0, 0, []), (48, 0, 0, 0, 0, []), (4, 0, 0, 0, 0, []), (44, 25, 10, 19, 1096, []), (0, 1, 0, 0, 18, []), (3, 2, 0, 0, 0, []), (8, 0, 0, 0, 0, []), (27, 0, 0, 0, 0, []), (47, 0, 0, 0, 0, []), (0, 0, 0, 0, 1, []), (8, 0, 0, 0, 0, []), (48, 0, 0, 0, 0, []), (59, 118, 0, 0, 0, []), (4, 0, 0, 0, 0, []), (44, 25, 10, 19, 1096, []), (0, 1, 0, 0, 24, []), (47, 0, 0, 0, 0, []), (53, 0, 0, 0, 0, [])]
def ac_M_say : List AOp := [(4, 0, 0, 0, 0, []), (3, 1, 0, 0, 0, []), (56, 188, 147, 1, 1, [(0, 1264), (0, 1266), (0, 50), (0, 85)]), (30, 6, 0, 0, 6, []), (0, 1, 0, 0, (-2), []), (53, 0, 0, 0, 0, []), (3, 2, 0, 0, 0, []), (0, 0, 0, 0, 0, []), (0, 0, 0, 0, 3, []), (57, 54, 127, 3, 1, [(0, 1169), (0, 1170), (0, 85)]), (30, 13, 0, 0, 6, []), (0, 1, 0, 0, (-3), []), (53, 0, 0, 0, 0, []), (4, 0, 0, 0, 0, []), (44, 25, 10, 19, 1096, []), (3, 1, 0, 0, 0, []), (47, 0, 0, 0, 0, []), (5, 3, 0, 0, 0, []), (4, 0, 0, 0, 0, []), (3, 3, 0, 0, 0, []), (3, 1, 0, 0, 0, []), (3, 2, 0, 0, 0, []), (56, 197, 153, 3, 0, [(0, 1288), (0, 1290), (0, 55), (0, 85)]), (5, 4, 1, 0, 0, []), (3, 4, 1, 0, 0, []), (29, 54, 0, 0, 45, []), (4, 0, 0, 0, 0, []), (44, 25, 10, 19, 1096, []), (0, 1, 0, 0, 12, []), (3, 3, 0, 0, 0, []), (8, 0, 0, 0, 0, []), (27, 0, 0, 0, 0, []), (47, 0, 0, 0, 0, []), (0, 0, 0, 0, 1, []), (8, 0, 0, 0, 0, []), (48, 0, 0, 0, 0, []), (4, 0, 0, 0, 0, []), (44, 25, 10, 19, 1096, []), (0, 1, 0, 0, 6, []), (3, 3, 0, 0, 0, []), (8, 0, 0, 0, 0, []), (27, 0, 0, 0, 0, []), (47, 0, 0, 0, 0, []), (4, 0, 0, 0, 0, []), (3, 3, 0, 0, 0, []), (56, 182, 148, 1, 1, [(0, 1268), (0, 1270), (0, 51), (0, 85)]), (0, 0, 0, 0, 2, []), (36, 50, 0, 0, 7, []), (0, 0, 0, 0, 1, []), (41, 51, 0, 0, 4, []), (0, 0, 0, 0, 0, []), (9, 0, 0, 0, 0, []), (48, 0, 0, 0, 0, []), (41, 82, 0, 0, 51, []), (4, 0, 0, 0, 0, []), (3, 1, 0, 0, 0, []), (0, 0, 0, 0, 3, []), (56, 185, 154, 2, 1, [(0, 1292), (0, 1294), (0, 56), (0, 85)]), (30, 82, 0, 0, 42, []), (4, 0, 0, 0, 0, []), (3, 1, 0, 0, 0, []), (56, 182, 148, 1, 1, [(0, 1268), (0, 1270), (0, 51), (0, 85)]), (34, 82, 0, 0, 34, []), (4, 0, 0, 0, 0, []), (3, 1, 0, 0, 0, []), (56, 179, 150, 1, 1, [(0, 1276), (0, 1278), (0, 53), (0, 85)]), (3, 2, 0, 0, 0, []), (36, 82, 0, 0, 25, []), (4, 0, 0, 0, 0, []), (44, 25, 10, 19, 1096, []), (0, 1, 0, 0, 26, []), (4, 0, 0, 0, 0, []), (44, 25, 10, 19, 1096, []), (0, 1, 0, 0, 26, []), (47, 0, 0, 0, 0, []), (0, 0, 0, 0, 1, []), (4, 0, 0, 0, 0, []), (3, 1, 0, 0, 0, []), (56, 61, 142, 1, 1, [(0, 1245), (0, 1247), (0, 48), (0, 85)]), (16, 0, 0, 0, 0, []), (14, 0, 0, 0, 0, []), (48, 0, 0, 0, 0, []), (59, 82, 0, 0, 0, []), (3, 4, 1, 0, 0, []), (29, 87, 0, 0, 7, []), (0, 0, 0, 0, 1, []), (41, 88, 0, 0, 4, []), (0, 0, 0, 0, 0, []), (53, 0, 0, 0, 0, [])]
def ac_M_keep : List AOp := [(3, 1, 0, 0, 0, []), (0, 0, 0, 0, 0, []), (0, 0, 0, 0, 1, []), (57, 54, 127, 3, 1, [(0, 1169), (0, 1170), (0, 85)]), (30, 7, 0, 0, 6, []), (0, 1, 0, 0, (-2), []), (53, 0, 0, 0, 0, []), (0, 0, 0, 0, 0, []), (5, 2, 0, 0, 0, []), (59, 9, 0, 0, 0, []), (3, 2, 0, 0, 0, []), (0, 1, 0, 0, 27, []), (38, 27, 0, 0, 26, []), (4, 0, 0, 0, 0, []), (44, 28, 10, 20, 1097, []), (0, 1, 0, 0, 27, []), (3, 1, 0, 0, 0, []), (10, 0, 0, 0, 0, []), (3, 2, 0, 0, 0, []), (8, 0, 0, 0, 0, []), (4, 0, 0, 0, 0, []), (44, 25, 10, 19, 1096, []), (3, 2, 0, 0, 0, []), (47, 0, 0, 0, 0, []), (48, 0, 0, 0, 0, []), (7, 2, 0, 0, 1, []), (41, 9, 0, 0, (-26), []), (59, 27, 0, 0, 0, []), (4, 0, 0, 0, 0, []), (44, 31, 10, 21, 1098, []), (3, 1, 0, 0, 0, []), (0, 0, 0, 0, 1, []), (50, 0, 0, 0, 0, []), (4, 0, 0, 0, 0, []), (44, 25, 10, 19, 1096, []), (0, 1, 0, 0, 24, []), (47, 0, 0, 0, 0, []), (53, 0, 0, 0, 0, [])]
def ac_M_back : List AOp := [(3, 1, 0, 0, 0, []), (0, 0, 0, 0, 0, []), (0, 0, 0, 0, 1, []), (57, 54, 127, 3, 1, [(0, 1169), (0, 1170), (0, 85)]), (30, 7, 0, 0, 6, []), (0, 1, 0, 0, (-2), []), (53, 0, 0, 0, 0, []), (4, 0, 0, 0, 0, []), (44, 31, 10, 21, 1098, []), (3, 1, 0, 0, 0, []), (49, 0, 0, 0, 0, []), (30, 14, 0, 0, 6, []), (0, 1, 0, 0, (-4), []), (53, 0, 0, 0, 0, []), (0, 0, 0, 0, 0, []), (5, 2, 0, 0, 0, []), (59, 16, 0, 0, 0, []), (3, 2, 0, 0, 0, []), (0, 1, 0, 0, 27, []), (38, 34, 0, 0, 26, []), (4, 0, 0, 0, 0, []), (44, 25, 10, 19, 1096, []), (3, 2, 0, 0, 0, []), (4, 0, 0, 0, 0, []), (44, 28, 10, 20, 1097, []), (0, 1, 0, 0, 27, []), (3, 1, 0, 0, 0, []), (10, 0, 0, 0, 0, []), (3, 2, 0, 0, 0, []), (8, 0, 0, 0, 0, []), (47, 0, 0, 0, 0, []), (48, 0, 0, 0, 0, []), (7, 2, 0, 0, 1, []), (41, 16, 0, 0, (-26), []), (59, 34, 0, 0, 0, []), (4, 0, 0, 0, 0, []), (44, 25, 10, 19, 1096, []), (0, 1, 0, 0, 24, []), (47, 0, 0, 0, 0, []), (53, 0, 0, 0, 0, [])]
def ac_M_rings : List AOp := [(0, 0, 0, 0, 0, []), (5, 1, 0, 0, 0, []), (0, 0, 0, 0, 0, []), (5, 2, 0, 0, 0, []), (0, 0, 0, 0, 0, []), (5, 3, 0, 0, 0, []), (59, 6, 0, 0, 0, []), (3, 3, 0, 0, 0, []), (4, 0, 0, 0, 0, []), (44, 58, 10, 2, 1079, []), (38, 43, 0, 0, 56, []), (3, 2, 0, 0, 0, []), (3, 1, 0, 0, 0, []), (3, 3, 0, 0, 0, []), (57, 170, 144, 2, 1, [(0, 1253), (0, 1254), (0, 85)]), (29, 18, 0, 0, 7, []), (0, 0, 0, 0, 0, []), (41, 19, 0, 0, 4, []), (0, 0, 0, 0, 1, []), (8, 0, 0, 0, 0, []), (5, 2, 0, 0, 0, []), (3, 3, 0, 0, 0, []), (5, 4, 1, 0, 0, []), (59, 23, 0, 0, 0, []), (3, 1, 0, 0, 0, []), (3, 4, 1, 0, 0, []), (57, 170, 144, 2, 1, [(0, 1253), (0, 1254), (0, 85)]), (30, 40, 0, 0, 22, []), (3, 1, 0, 0, 0, []), (0, 0, 0, 0, 1, []), (3, 4, 1, 0, 0, []), (16, 0, 0, 0, 0, []), (14, 0, 0, 0, 0, []), (5, 1, 0, 0, 0, []), (4, 0, 0, 0, 0, []), (44, 25, 10, 19, 1096, []), (3, 4, 1, 0, 0, []), (47, 0, 0, 0, 0, []), (5, 4, 1, 0, 0, []), (41, 23, 0, 0, (-25), []), (59, 40, 0, 0, 0, []), (7, 3, 0, 0, 1, []), (41, 6, 0, 0, (-58), []), (3, 2, 0, 0, 0, []), (53, 0, 0, 0, 0, [])]
def ac_M_mend : List AOp := [(3, 1, 0, 0, 0, []), (0, 0, 0, 0, (-1), []), (37, 8, 0, 0, 12, []), (3, 2, 0, 0, 0, []), (0, 0, 0, 0, 0, []), (0, 0, 0, 0, 1, []), (57, 54, 127, 3, 1, [(0, 1169), (0, 1170), (0, 85)]), (30, 10, 0, 0, 6, []), (0, 1, 0, 0, (-3), []), (53, 0, 0, 0, 0, []), (0, 0, 0, 0, 0, []), (5, 3, 0, 0, 0, []), (59, 12, 0, 0, 0, []), (3, 3, 0, 0, 0, []), (4, 0, 0, 0, 0, []), (44, 58, 10, 2, 1079, []), (38, 40, 0, 0, 42, []), (4, 0, 0, 0, 0, []), (44, 38, 10, 24, 1101, []), (3, 3, 0, 0, 0, []), (4, 0, 0, 0, 0, []), (44, 25, 10, 19, 1096, []), (3, 3, 0, 0, 0, []), (47, 0, 0, 0, 0, []), (48, 0, 0, 0, 0, []), (4, 0, 0, 0, 0, []), (3, 3, 0, 0, 0, []), (0, 0, 0, 0, 1, []), (56, 185, 154, 2, 1, [(0, 1292), (0, 1294), (0, 56), (0, 85)]), (29, 38, 0, 0, 15, []), (4, 0, 0, 0, 0, []), (44, 25, 10, 19, 1096, []), (3, 3, 0, 0, 0, []), (47, 0, 0, 0, 0, []), (3, 3, 0, 0, 0, []), (35, 38, 0, 0, 5, []), (0, 0, 0, 0, (-1), []), (53, 0, 0, 0, 0, []), (7, 3, 0, 0, 1, []), (41, 12, 0, 0, (-44), []), (59, 40, 0, 0, 0, []), (0, 0, 0, 0, 0, []), (5, 3, 0, 0, 0, []), (0, 0, 0, 0, 0, []), (5, 4, 1, 0, 0, []), (59, 45, 0, 0, 0, []), (3, 4, 1, 0, 0, []), (4, 0, 0, 0, 0, []), (44, 58, 10, 2, 1079, []), (38, 95, 0, 0, 88, []), (4, 0, 0, 0, 0, []), (44, 38, 10, 24, 1101, []), (3, 4, 1, 0, 0, []), (47, 0, 0, 0, 0, []), (3, 4, 1, 0, 0, []), (35, 93, 0, 0, 70, []), (3, 4, 1, 0, 0, []), (0, 0, 0, 0, 1, []), (8, 0, 0, 0, 0, []), (5, 5, 1, 0, 0, []), (59, 60, 0, 0, 0, []), (4, 0, 0, 0, 0, []), (44, 38, 10, 24, 1101, []), (3, 5, 1, 0, 0, []), (47, 0, 0, 0, 0, []), (3, 4, 1, 0, 0, []), (35, 69, 0, 0, 9, []), (7, 5, 0, 0, 1, []), (41, 60, 0, 0, (-15), []), (59, 69, 0, 0, 0, []), (3, 3, 0, 0, 0, []), (3, 1, 0, 0, 0, []), (36, 79, 0, 0, 15, []), (3, 2, 0, 0, 0, []), (30, 77, 0, 0, 8, []), (3, 4, 1, 0, 0, []), (41, 78, 0, 0, 5, []), (3, 5, 1, 0, 0, []), (53, 0, 0, 0, 0, []), (4, 0, 0, 0, 0, []), (44, 38, 10, 24, 1101, []), (3, 5, 1, 0, 0, []), (4, 0, 0, 0, 0, []), (44, 38, 10, 24, 1101, []), (3, 4, 1, 0, 0, []), (47, 0, 0, 0, 0, []), (48, 0, 0, 0, 0, []), (4, 0, 0, 0, 0, []), (44, 38, 10, 24, 1101, []), (3, 4, 1, 0, 0, []), (3, 4, 1, 0, 0, []), (48, 0, 0, 0, 0, []), (7, 3, 0, 0, 1, []), (7, 4, 0, 0, 1, []), (41, 45, 0, 0, (-91), []), (59, 95, 0, 0, 0, []), (3, 1, 0, 0, 0, []), (0, 0, 0, 0, (-1), []), (36, 101, 0, 0, 7, []), (3, 3, 0, 0, 0, []), (41, 102, 0, 0, 4, []), (0, 0, 0, 0, (-1), []), (53, 0, 0, 0, 0, [])]
def ac_M_show : List AOp := [(4, 0, 0, 0, 0, []), (3, 1, 0, 0, 0, []), (56, 173, 141, 1, 1, [(0, 1241), (0, 1243), (0, 47), (0, 85)]), (30, 6, 0, 0, 6, []), (0, 1, 0, 0, (-2), []), (53, 0, 0, 0, 0, []), (0, 0, 0, 0, 0, []), (5, 2, 0, 0, 0, []), (0, 0, 0, 0, 0, []), (5, 3, 0, 0, 0, []), (59, 10, 0, 0, 0, []), (3, 3, 0, 0, 0, []), (4, 0, 0, 0, 0, []), (44, 58, 10, 2, 1079, []), (38, 39, 0, 0, 45, []), (3, 2, 0, 0, 0, []), (4, 0, 0, 0, 0, []), (3, 3, 0, 0, 0, []), (56, 61, 142, 1, 1, [(0, 1245), (0, 1247), (0, 48), (0, 85)]), (3, 1, 0, 0, 0, []), (36, 34, 0, 0, 26, []), (4, 0, 0, 0, 0, []), (4, 0, 0, 0, 0, []), (44, 25, 10, 19, 1096, []), (3, 3, 0, 0, 0, []), (47, 0, 0, 0, 0, []), (3, 3, 0, 0, 0, []), (4, 0, 0, 0, 0, []), (3, 3, 0, 0, 0, []), (56, 179, 150, 1, 1, [(0, 1276), (0, 1278), (0, 53), (0, 85)]), (56, 197, 153, 3, 0, [(0, 1288), (0, 1290), (0, 55), (0, 85)]), (29, 34, 0, 0, 7, []), (0, 0, 0, 0, 1, []), (41, 35, 0, 0, 4, []), (0, 0, 0, 0, 0, []), (8, 0, 0, 0, 0, []), (5, 2, 0, 0, 0, []), (7, 3, 0, 0, 1, []), (41, 10, 0, 0, (-47), []), (3, 2, 0, 0, 0, []), (53, 0, 0, 0, 0, [])]
def ac_M_plan : List AOp := [(3, 1, 0, 0, 0, []), (0, 0, 0, 0, 0, []), (0, 0, 0, 0, 1, []), (57, 54, 127, 3, 1, [(0, 1169), (0, 1170), (0, 85)]), (30, 7, 0, 0, 6, []), (0, 1, 0, 0, (-3), []), (53, 0, 0, 0, 0, []), (4, 0, 0, 0, 0, []), (56, 227, 167, 0, 0, [(0, 1344), (0, 1346), (0, 59), (0, 85)]), (4, 0, 0, 0, 0, []), (56, 230, 174, 0, 0, [(0, 1372), (0, 1374), (0, 66), (0, 85)]), (4, 0, 0, 0, 0, []), (44, 44, 10, 27, 1104, []), (0, 2, 0, 0, 720, []), (4, 0, 0, 0, 0, []), (44, 25, 10, 19, 1096, []), (0, 1, 0, 0, 24, []), (47, 0, 0, 0, 0, []), (10, 0, 0, 0, 0, []), (4, 0, 0, 0, 0, []), (56, 224, 173, 0, 0, [(0, 1368), (0, 1370), (0, 65), (0, 85)]), (8, 0, 0, 0, 0, []), (47, 0, 0, 0, 0, []), (5, 2, 0, 0, 0, []), (3, 2, 0, 0, 0, []), (0, 1, 0, 0, 99, []), (8, 0, 0, 0, 0, []), (0, 1, 0, 0, 100, []), (11, 0, 0, 0, 0, []), (5, 3, 0, 0, 0, []), (3, 1, 0, 0, 0, []), (30, 34, 0, 0, 7, []), (3, 3, 0, 0, 0, []), (41, 39, 0, 0, 9, []), (0, 1, 0, 0, 100, []), (3, 3, 0, 0, 0, []), (10, 0, 0, 0, 0, []), (3, 2, 0, 0, 0, []), (9, 0, 0, 0, 0, []), (53, 0, 0, 0, 0, [])]
def ac_M_layPlan : List AOp := [(4, 0, 0, 0, 0, []), (44, 154, 10, 4, 1081, []), (5, 1, 0, 0, 0, []), (59, 3, 0, 0, 0, []), (3, 1, 0, 0, 0, []), (4, 0, 0, 0, 0, []), (44, 25, 10, 19, 1096, []), (0, 1, 0, 0, 24, []), (47, 0, 0, 0, 0, []), (37, 129, 0, 0, 217, []), (0, 0, 0, 0, 0, []), (5, 2, 0, 0, 0, []), (59, 12, 0, 0, 0, []), (3, 2, 0, 0, 0, []), (4, 0, 0, 0, 0, []), (56, 206, 168, 0, 0, [(0, 1348), (0, 1350), (0, 60), (0, 85)]), (38, 126, 0, 0, 201, []), (4, 0, 0, 0, 0, []), (3, 2, 0, 0, 0, []), (56, 210, 169, 1, 0, [(0, 1352), (0, 1354), (0, 61), (0, 85)]), (0, 0, 0, 0, 0, []), (5, 3, 0, 0, 0, []), (4, 0, 0, 0, 0, []), (56, 213, 170, 0, 0, [(0, 1356), (0, 1358), (0, 62), (0, 85)]), (30, 28, 0, 0, 10, []), (0, 2, 0, 0, (-1000), []), (5, 3, 0, 0, 0, []), (41, 114, 0, 0, 161, []), (3, 1, 0, 0, 0, []), (4, 0, 0, 0, 0, []), (44, 154, 10, 4, 1081, []), (36, 61, 0, 0, 57, []), (0, 0, 0, 0, 0, []), (5, 4, 1, 0, 0, []), (59, 34, 0, 0, 0, []), (3, 4, 1, 0, 0, []), (4, 0, 0, 0, 0, []), (44, 58, 10, 2, 1079, []), (38, 59, 0, 0, 42, []), (3, 3, 0, 0, 0, []), (4, 0, 0, 0, 0, []), (3, 4, 1, 0, 0, []), (0, 0, 0, 0, 3, []), (56, 185, 154, 2, 1, [(0, 1292), (0, 1294), (0, 56), (0, 85)]), (29, 54, 0, 0, 22, []), (4, 0, 0, 0, 0, []), (4, 0, 0, 0, 0, []), (44, 38, 10, 24, 1101, []), (3, 4, 1, 0, 0, []), (47, 0, 0, 0, 0, []), (56, 182, 148, 1, 1, [(0, 1268), (0, 1270), (0, 51), (0, 85)]), (34, 54, 0, 0, 8, []), (0, 1, 0, 0, 100, []), (41, 55, 0, 0, 4, []), (0, 0, 0, 0, 0, []), (8, 0, 0, 0, 0, []), (5, 3, 0, 0, 0, []), (7, 4, 0, 0, 1, []), (41, 34, 0, 0, (-45), []), (59, 59, 0, 0, 0, []), (41, 114, 0, 0, 99, []), (4, 0, 0, 0, 0, []), (44, 44, 10, 27, 1104, []), (0, 2, 0, 0, 720, []), (3, 1, 0, 0, 0, []), (0, 0, 0, 0, 1, []), (8, 0, 0, 0, 0, []), (10, 0, 0, 0, 0, []), (3, 2, 0, 0, 0, []), (8, 0, 0, 0, 0, []), (47, 0, 0, 0, 0, []), (5, 3, 0, 0, 0, []), (0, 0, 0, 0, 0, []), (5, 4, 1, 0, 0, []), (59, 74, 0, 0, 0, []), (3, 4, 1, 0, 0, []), (4, 0, 0, 0, 0, []), (44, 58, 10, 2, 1079, []), (38, 114, 0, 0, 72, []), (3, 4, 1, 0, 0, []), (0, 0, 0, 0, 1, []), (8, 0, 0, 0, 0, []), (5, 5, 1, 0, 0, []), (59, 83, 0, 0, 0, []), (3, 5, 1, 0, 0, []), (4, 0, 0, 0, 0, []), (44, 58, 10, 2, 1079, []), (38, 111, 0, 0, 51, []), (4, 0, 0, 0, 0, []), (3, 1, 0, 0, 0, []), (3, 4, 1, 0, 0, []), (3, 5, 1, 0, 0, []), (56, 203, 157, 3, 0, [(0, 1304), (0, 1306), (0, 57), (0, 85)]), (29, 100, 0, 0, 15, []), (4, 0, 0, 0, 0, []), (3, 1, 0, 0, 0, []), (3, 4, 1, 0, 0, []), (3, 5, 1, 0, 0, []), (56, 216, 171, 3, 0, [(0, 1360), (0, 1362), (0, 63), (0, 85)]), (41, 101, 0, 0, 6, []), (0, 2, 0, 0, (-1000), []), (5, 6, 1, 0, 0, []), (3, 6, 1, 0, 0, []), (3, 3, 0, 0, 0, []), (40, 107, 0, 0, 8, []), (3, 6, 1, 0, 0, []), (41, 108, 0, 0, 4, []), (3, 3, 0, 0, 0, []), (5, 3, 0, 0, 0, []), (7, 5, 0, 0, 1, []), (41, 83, 0, 0, (-54), []), (59, 111, 0, 0, 0, []), (7, 4, 0, 0, 1, []), (41, 74, 0, 0, (-75), []), (59, 114, 0, 0, 0, []), (4, 0, 0, 0, 0, []), (44, 44, 10, 27, 1104, []), (0, 2, 0, 0, 720, []), (3, 1, 0, 0, 0, []), (10, 0, 0, 0, 0, []), (3, 2, 0, 0, 0, []), (8, 0, 0, 0, 0, []), (3, 3, 0, 0, 0, []), (48, 0, 0, 0, 0, []), (7, 2, 0, 0, 1, []), (41, 12, 0, 0, (-203), []), (59, 126, 0, 0, 0, []), (7, 1, 0, 0, (-1), []), (41, 3, 0, 0, (-222), []), (54, 0, 0, 0, 0, [])]
def ac_M_rowMany : List AOp := [(0, 0, 0, 0, 1, []), (5, 1, 0, 0, 0, []), (0, 0, 0, 0, 2, []), (5, 2, 0, 0, 0, []), (59, 4, 0, 0, 0, []), (3, 2, 0, 0, 0, []), (4, 0, 0, 0, 0, []), (44, 58, 10, 2, 1079, []), (39, 15, 0, 0, 13, []), (3, 1, 0, 0, 0, []), (3, 2, 0, 0, 0, []), (10, 0, 0, 0, 0, []), (5, 1, 0, 0, 0, []), (7, 2, 0, 0, 1, []), (41, 4, 0, 0, (-15), []), (3, 1, 0, 0, 0, []), (53, 0, 0, 0, 0, [])]
def ac_M_lay : List AOp := [(3, 1, 0, 0, 0, []), (5, 2, 0, 0, 0, []), (0, 0, 0, 0, 0, []), (5, 3, 0, 0, 0, []), (4, 0, 0, 0, 0, []), (56, 206, 168, 0, 0, [(0, 1348), (0, 1350), (0, 60), (0, 85)]), (5, 4, 1, 0, 0, []), (0, 0, 0, 0, 0, []), (5, 5, 1, 0, 0, []), (59, 9, 0, 0, 0, []), (3, 5, 1, 0, 0, []), (4, 0, 0, 0, 0, []), (44, 58, 10, 2, 1079, []), (38, 64, 0, 0, 90, []), (3, 4, 1, 0, 0, []), (4, 0, 0, 0, 0, []), (44, 58, 10, 2, 1079, []), (3, 5, 1, 0, 0, []), (9, 0, 0, 0, 0, []), (11, 0, 0, 0, 0, []), (5, 4, 1, 0, 0, []), (3, 2, 0, 0, 0, []), (3, 4, 1, 0, 0, []), (11, 0, 0, 0, 0, []), (5, 6, 1, 0, 0, []), (3, 2, 0, 0, 0, []), (3, 4, 1, 0, 0, []), (12, 0, 0, 0, 0, []), (5, 2, 0, 0, 0, []), (0, 0, 0, 0, 0, []), (5, 7, 1, 0, 0, []), (59, 31, 0, 0, 0, []), (3, 3, 0, 0, 0, []), (3, 7, 1, 0, 0, []), (57, 170, 144, 2, 1, [(0, 1253), (0, 1254), (0, 85)]), (30, 38, 0, 0, 8, []), (3, 6, 1, 0, 0, []), (34, 50, 0, 0, 28, []), (3, 6, 1, 0, 0, []), (3, 3, 0, 0, 0, []), (3, 7, 1, 0, 0, []), (57, 170, 144, 2, 1, [(0, 1253), (0, 1254), (0, 85)]), (29, 45, 0, 0, 7, []), (0, 0, 0, 0, 0, []), (41, 46, 0, 0, 4, []), (0, 0, 0, 0, 1, []), (9, 0, 0, 0, 0, []), (5, 6, 1, 0, 0, []), (7, 7, 0, 0, 1, []), (41, 31, 0, 0, (-36), []), (59, 50, 0, 0, 0, []), (4, 0, 0, 0, 0, []), (44, 38, 10, 24, 1101, []), (3, 5, 1, 0, 0, []), (3, 7, 1, 0, 0, []), (48, 0, 0, 0, 0, []), (3, 3, 0, 0, 0, []), (0, 0, 0, 0, 1, []), (3, 7, 1, 0, 0, []), (16, 0, 0, 0, 0, []), (14, 0, 0, 0, 0, []), (5, 3, 0, 0, 0, []), (7, 5, 0, 0, 1, []), (41, 9, 0, 0, (-93), []), (54, 0, 0, 0, 0, [])]
def ac_M_isLawful : List AOp := [(0, 0, 0, 0, 1, []), (5, 1, 0, 0, 0, []), (0, 0, 0, 0, 0, []), (5, 2, 0, 0, 0, []), (59, 4, 0, 0, 0, []), (3, 2, 0, 0, 0, []), (4, 0, 0, 0, 0, []), (44, 58, 10, 2, 1079, []), (38, 27, 0, 0, 37, []), (3, 1, 0, 0, 0, []), (29, 23, 0, 0, 25, []), (4, 0, 0, 0, 0, []), (3, 2, 0, 0, 0, []), (56, 191, 149, 1, 1, [(0, 1272), (0, 1274), (0, 52), (0, 85)]), (4, 0, 0, 0, 0, []), (4, 0, 0, 0, 0, []), (44, 38, 10, 24, 1101, []), (3, 2, 0, 0, 0, []), (47, 0, 0, 0, 0, []), (56, 191, 149, 1, 1, [(0, 1272), (0, 1274), (0, 52), (0, 85)]), (36, 23, 0, 0, 7, []), (0, 0, 0, 0, 1, []), (41, 24, 0, 0, 4, []), (0, 0, 0, 0, 0, []), (5, 1, 0, 0, 0, []), (7, 2, 0, 0, 1, []), (41, 4, 0, 0, (-39), []), (3, 1, 0, 0, 0, []), (53, 0, 0, 0, 0, [])]
def ac_M_by : List AOp := [(4, 0, 0, 0, 0, []), (3, 2, 0, 0, 0, []), (3, 3, 0, 0, 0, []), (56, 220, 172, 2, 1, [(0, 1364), (0, 1366), (0, 64), (0, 85)]), (4, 0, 0, 0, 0, []), (44, 44, 10, 27, 1104, []), (0, 2, 0, 0, 720, []), (3, 1, 0, 0, 0, []), (0, 0, 0, 0, 1, []), (8, 0, 0, 0, 0, []), (10, 0, 0, 0, 0, []), (4, 0, 0, 0, 0, []), (56, 224, 173, 0, 0, [(0, 1368), (0, 1370), (0, 65), (0, 85)]), (8, 0, 0, 0, 0, []), (47, 0, 0, 0, 0, []), (0, 0, 0, 0, 1, []), (9, 0, 0, 0, 0, []), (5, 4, 1, 0, 0, []), (4, 0, 0, 0, 0, []), (3, 2, 0, 0, 0, []), (3, 3, 0, 0, 0, []), (56, 220, 172, 2, 1, [(0, 1364), (0, 1366), (0, 64), (0, 85)]), (3, 4, 1, 0, 0, []), (53, 0, 0, 0, 0, [])]
def ac_M_exchange : List AOp := [(4, 0, 0, 0, 0, []), (44, 38, 10, 24, 1101, []), (3, 1, 0, 0, 0, []), (47, 0, 0, 0, 0, []), (5, 3, 0, 0, 0, []), (4, 0, 0, 0, 0, []), (44, 38, 10, 24, 1101, []), (3, 1, 0, 0, 0, []), (4, 0, 0, 0, 0, []), (44, 38, 10, 24, 1101, []), (3, 2, 0, 0, 0, []), (47, 0, 0, 0, 0, []), (48, 0, 0, 0, 0, []), (4, 0, 0, 0, 0, []), (44, 38, 10, 24, 1101, []), (3, 2, 0, 0, 0, []), (3, 3, 0, 0, 0, []), (48, 0, 0, 0, 0, []), (54, 0, 0, 0, 0, [])]
def ac_M_rowOf : List AOp := [(0, 0, 0, 0, 0, []), (5, 1, 0, 0, 0, []), (0, 0, 0, 0, 0, []), (5, 2, 0, 0, 0, []), (0, 0, 0, 0, 0, []), (5, 3, 0, 0, 0, []), (59, 6, 0, 0, 0, []), (3, 3, 0, 0, 0, []), (4, 0, 0, 0, 0, []), (44, 58, 10, 2, 1079, []), (38, 55, 0, 0, 74, []), (0, 0, 0, 0, 0, []), (5, 4, 1, 0, 0, []), (0, 0, 0, 0, 0, []), (5, 5, 1, 0, 0, []), (59, 15, 0, 0, 0, []), (3, 5, 1, 0, 0, []), (4, 0, 0, 0, 0, []), (44, 38, 10, 24, 1101, []), (3, 3, 0, 0, 0, []), (47, 0, 0, 0, 0, []), (38, 34, 0, 0, 28, []), (3, 4, 1, 0, 0, []), (3, 2, 0, 0, 0, []), (3, 5, 1, 0, 0, []), (57, 170, 144, 2, 1, [(0, 1253), (0, 1254), (0, 85)]), (29, 29, 0, 0, 7, []), (0, 0, 0, 0, 0, []), (41, 30, 0, 0, 4, []), (0, 0, 0, 0, 1, []), (8, 0, 0, 0, 0, []), (5, 4, 1, 0, 0, []), (7, 5, 0, 0, 1, []), (41, 15, 0, 0, (-33), []), (59, 34, 0, 0, 0, []), (3, 1, 0, 0, 0, []), (4, 0, 0, 0, 0, []), (44, 58, 10, 2, 1079, []), (3, 3, 0, 0, 0, []), (9, 0, 0, 0, 0, []), (10, 0, 0, 0, 0, []), (3, 4, 1, 0, 0, []), (8, 0, 0, 0, 0, []), (5, 1, 0, 0, 0, []), (3, 2, 0, 0, 0, []), (0, 0, 0, 0, 1, []), (4, 0, 0, 0, 0, []), (44, 38, 10, 24, 1101, []), (3, 3, 0, 0, 0, []), (47, 0, 0, 0, 0, []), (16, 0, 0, 0, 0, []), (14, 0, 0, 0, 0, []), (5, 2, 0, 0, 0, []), (7, 3, 0, 0, 1, []), (41, 6, 0, 0, (-76), []), (3, 1, 0, 0, 0, []), (53, 0, 0, 0, 0, [])]
def ac_M_layNow : List AOp := [(0, 0, 0, 0, 0, []), (5, 1, 0, 0, 0, []), (59, 2, 0, 0, 0, []), (3, 1, 0, 0, 0, []), (4, 0, 0, 0, 0, []), (44, 58, 10, 2, 1079, []), (38, 17, 0, 0, 21, []), (4, 0, 0, 0, 0, []), (44, 38, 10, 24, 1101, []), (3, 1, 0, 0, 0, []), (4, 0, 0, 0, 0, []), (44, 25, 10, 19, 1096, []), (3, 1, 0, 0, 0, []), (47, 0, 0, 0, 0, []), (48, 0, 0, 0, 0, []), (7, 1, 0, 0, 1, []), (41, 2, 0, 0, (-23), []), (54, 0, 0, 0, 0, [])]
def ac_M_planned : List AOp := [(3, 1, 0, 0, 0, []), (4, 0, 0, 0, 0, []), (44, 25, 10, 19, 1096, []), (0, 1, 0, 0, 24, []), (47, 0, 0, 0, 0, []), (4, 0, 0, 0, 0, []), (44, 154, 10, 4, 1081, []), (0, 0, 0, 0, 1, []), (9, 0, 0, 0, 0, []), (57, 54, 127, 3, 1, [(0, 1169), (0, 1170), (0, 85)]), (30, 13, 0, 0, 6, []), (0, 1, 0, 0, (-2), []), (53, 0, 0, 0, 0, []), (3, 2, 0, 0, 0, []), (0, 0, 0, 0, 0, []), (0, 0, 0, 0, 1, []), (57, 54, 127, 3, 1, [(0, 1169), (0, 1170), (0, 85)]), (30, 20, 0, 0, 6, []), (0, 1, 0, 0, (-3), []), (53, 0, 0, 0, 0, []), (4, 0, 0, 0, 0, []), (56, 227, 167, 0, 0, [(0, 1344), (0, 1346), (0, 59), (0, 85)]), (4, 0, 0, 0, 0, []), (56, 230, 174, 0, 0, [(0, 1372), (0, 1374), (0, 66), (0, 85)]), (0, 0, 0, 0, (-1), []), (5, 3, 0, 0, 0, []), (0, 0, 0, 0, (-1), []), (5, 4, 1, 0, 0, []), (4, 0, 0, 0, 0, []), (44, 25, 10, 19, 1096, []), (0, 1, 0, 0, 24, []), (47, 0, 0, 0, 0, []), (5, 5, 1, 0, 0, []), (59, 33, 0, 0, 0, []), (3, 5, 1, 0, 0, []), (3, 1, 0, 0, 0, []), (39, 122, 0, 0, 161, []), (4, 0, 0, 0, 0, []), (44, 44, 10, 27, 1104, []), (0, 2, 0, 0, 720, []), (3, 5, 1, 0, 0, []), (10, 0, 0, 0, 0, []), (4, 0, 0, 0, 0, []), (56, 224, 173, 0, 0, [(0, 1368), (0, 1370), (0, 65), (0, 85)]), (8, 0, 0, 0, 0, []), (47, 0, 0, 0, 0, []), (5, 6, 1, 0, 0, []), (0, 0, 0, 0, (-1), []), (5, 3, 0, 0, 0, []), (0, 0, 0, 0, (-1), []), (5, 4, 1, 0, 0, []), (4, 0, 0, 0, 0, []), (44, 44, 10, 27, 1104, []), (0, 2, 0, 0, 720, []), (3, 5, 1, 0, 0, []), (0, 0, 0, 0, 1, []), (8, 0, 0, 0, 0, []), (10, 0, 0, 0, 0, []), (4, 0, 0, 0, 0, []), (56, 224, 173, 0, 0, [(0, 1368), (0, 1370), (0, 65), (0, 85)]), (8, 0, 0, 0, 0, []), (47, 0, 0, 0, 0, []), (3, 6, 1, 0, 0, []), (36, 66, 0, 0, 7, []), (0, 0, 0, 0, 1, []), (41, 67, 0, 0, 4, []), (0, 0, 0, 0, 0, []), (5, 7, 1, 0, 0, []), (0, 0, 0, 0, 0, []), (5, 8, 1, 0, 0, []), (59, 70, 0, 0, 0, []), (3, 8, 1, 0, 0, []), (4, 0, 0, 0, 0, []), (44, 58, 10, 2, 1079, []), (38, 112, 0, 0, 78, []), (3, 7, 1, 0, 0, []), (30, 112, 0, 0, 73, []), (3, 8, 1, 0, 0, []), (0, 0, 0, 0, 1, []), (8, 0, 0, 0, 0, []), (5, 9, 1, 0, 0, []), (59, 81, 0, 0, 0, []), (3, 9, 1, 0, 0, []), (4, 0, 0, 0, 0, []), (44, 58, 10, 2, 1079, []), (38, 109, 0, 0, 52, []), (3, 7, 1, 0, 0, []), (30, 109, 0, 0, 47, []), (4, 0, 0, 0, 0, []), (3, 5, 1, 0, 0, []), (3, 8, 1, 0, 0, []), (3, 9, 1, 0, 0, []), (56, 203, 157, 3, 0, [(0, 1304), (0, 1306), (0, 57), (0, 85)]), (29, 107, 0, 0, 28, []), (4, 0, 0, 0, 0, []), (3, 5, 1, 0, 0, []), (3, 8, 1, 0, 0, []), (3, 9, 1, 0, 0, []), (56, 216, 171, 3, 0, [(0, 1360), (0, 1362), (0, 63), (0, 85)]), (3, 6, 1, 0, 0, []), (36, 107, 0, 0, 13, []), (3, 8, 1, 0, 0, []), (5, 3, 0, 0, 0, []), (3, 9, 1, 0, 0, []), (5, 4, 1, 0, 0, []), (0, 0, 0, 0, 1, []), (5, 7, 1, 0, 0, []), (7, 9, 0, 0, 1, []), (41, 81, 0, 0, (-55), []), (59, 109, 0, 0, 0, []), (7, 8, 0, 0, 1, []), (41, 70, 0, 0, (-81), []), (59, 112, 0, 0, 0, []), (3, 3, 0, 0, 0, []), (0, 0, 0, 0, (-1), []), (35, 120, 0, 0, 10, []), (4, 0, 0, 0, 0, []), (3, 3, 0, 0, 0, []), (3, 4, 1, 0, 0, []), (56, 220, 172, 2, 1, [(0, 1364), (0, 1366), (0, 64), (0, 85)]), (7, 5, 0, 0, 1, []), (41, 33, 0, 0, (-161), []), (59, 122, 0, 0, 0, []), (3, 2, 0, 0, 0, []), (30, 127, 0, 0, 7, []), (3, 3, 0, 0, 0, []), (41, 128, 0, 0, 5, []), (3, 4, 1, 0, 0, []), (53, 0, 0, 0, 0, [])]
def ac_M_seen : List AOp := [(4, 0, 0, 0, 0, []), (3, 1, 0, 0, 0, []), (56, 188, 147, 1, 1, [(0, 1264), (0, 1266), (0, 50), (0, 85)]), (30, 6, 0, 0, 6, []), (0, 1, 0, 0, (-2), []), (53, 0, 0, 0, 0, []), (3, 2, 0, 0, 0, []), (0, 0, 0, 0, 0, []), (0, 0, 0, 0, 3, []), (57, 54, 127, 3, 1, [(0, 1169), (0, 1170), (0, 85)]), (29, 16, 0, 0, 12, []), (3, 3, 0, 0, 0, []), (0, 0, 0, 0, 0, []), (0, 0, 0, 0, 1, []), (57, 54, 127, 3, 1, [(0, 1169), (0, 1170), (0, 85)]), (30, 18, 0, 0, 6, []), (0, 1, 0, 0, (-3), []), (53, 0, 0, 0, 0, []), (4, 0, 0, 0, 0, []), (44, 167, 10, 22, 1099, []), (0, 1, 0, 0, 10, []), (36, 24, 0, 0, 6, []), (0, 1, 0, 0, (-5), []), (53, 0, 0, 0, 0, []), (4, 0, 0, 0, 0, []), (44, 35, 10, 23, 1100, []), (0, 0, 0, 0, 3, []), (4, 0, 0, 0, 0, []), (44, 167, 10, 22, 1099, []), (10, 0, 0, 0, 0, []), (3, 1, 0, 0, 0, []), (48, 0, 0, 0, 0, []), (4, 0, 0, 0, 0, []), (44, 35, 10, 23, 1100, []), (0, 0, 0, 0, 3, []), (4, 0, 0, 0, 0, []), (44, 167, 10, 22, 1099, []), (10, 0, 0, 0, 0, []), (0, 0, 0, 0, 1, []), (8, 0, 0, 0, 0, []), (3, 2, 0, 0, 0, []), (48, 0, 0, 0, 0, []), (4, 0, 0, 0, 0, []), (44, 35, 10, 23, 1100, []), (0, 0, 0, 0, 3, []), (4, 0, 0, 0, 0, []), (44, 167, 10, 22, 1099, []), (10, 0, 0, 0, 0, []), (0, 0, 0, 0, 2, []), (8, 0, 0, 0, 0, []), (3, 3, 0, 0, 0, []), (48, 0, 0, 0, 0, []), (4, 0, 0, 0, 0, []), (26, 0, 0, 0, 0, []), (44, 167, 10, 22, 1099, []), (0, 0, 0, 0, 1, []), (8, 0, 0, 0, 0, []), (45, 167, 10, 22, 1099, []), (4, 0, 0, 0, 0, []), (44, 167, 10, 22, 1099, []), (53, 0, 0, 0, 0, [])]
def ac_M_forget : List AOp := [(4, 0, 0, 0, 0, []), (44, 167, 10, 22, 1099, []), (5, 1, 0, 0, 0, []), (4, 0, 0, 0, 0, []), (0, 0, 0, 0, 0, []), (45, 167, 10, 22, 1099, []), (3, 1, 0, 0, 0, []), (53, 0, 0, 0, 0, [])]
def ac_M_fit : List AOp := [(4, 0, 0, 0, 0, []), (56, 239, 179, 0, 0, [(0, 1392), (0, 1394), (0, 67), (0, 85)]), (4, 0, 0, 0, 0, []), (44, 233, 10, 26, 1103, []), (53, 0, 0, 0, 0, [])]
def ac_M_layFitting : List AOp := [(4, 0, 0, 0, 0, []), (0, 0, 0, 0, 0, []), (45, 233, 10, 26, 1103, []), (0, 0, 0, 0, 0, []), (5, 1, 0, 0, 0, []), (59, 5, 0, 0, 0, []), (3, 1, 0, 0, 0, []), (4, 0, 0, 0, 0, []), (56, 206, 168, 0, 0, [(0, 1348), (0, 1350), (0, 60), (0, 85)]), (38, 33, 0, 0, 48, []), (4, 0, 0, 0, 0, []), (3, 1, 0, 0, 0, []), (56, 210, 169, 1, 0, [(0, 1352), (0, 1354), (0, 61), (0, 85)]), (4, 0, 0, 0, 0, []), (56, 213, 170, 0, 0, [(0, 1356), (0, 1358), (0, 62), (0, 85)]), (29, 31, 0, 0, 30, []), (4, 0, 0, 0, 0, []), (56, 236, 180, 0, 0, [(0, 1396), (0, 1398), (0, 68), (0, 85)]), (29, 31, 0, 0, 23, []), (4, 0, 0, 0, 0, []), (44, 41, 10, 25, 1102, []), (4, 0, 0, 0, 0, []), (44, 233, 10, 26, 1103, []), (3, 1, 0, 0, 0, []), (48, 0, 0, 0, 0, []), (4, 0, 0, 0, 0, []), (26, 0, 0, 0, 0, []), (44, 233, 10, 26, 1103, []), (0, 0, 0, 0, 1, []), (8, 0, 0, 0, 0, []), (45, 233, 10, 26, 1103, []), (7, 1, 0, 0, 1, []), (41, 5, 0, 0, (-50), []), (54, 0, 0, 0, 0, [])]
def ac_M_isAsSeen : List AOp := [(0, 0, 0, 0, 1, []), (5, 1, 0, 0, 0, []), (0, 0, 0, 0, 0, []), (5, 2, 0, 0, 0, []), (59, 4, 0, 0, 0, []), (3, 2, 0, 0, 0, []), (4, 0, 0, 0, 0, []), (44, 167, 10, 22, 1099, []), (38, 53, 0, 0, 71, []), (4, 0, 0, 0, 0, []), (44, 35, 10, 23, 1100, []), (0, 0, 0, 0, 3, []), (3, 2, 0, 0, 0, []), (10, 0, 0, 0, 0, []), (47, 0, 0, 0, 0, []), (5, 3, 0, 0, 0, []), (3, 1, 0, 0, 0, []), (29, 49, 0, 0, 50, []), (4, 0, 0, 0, 0, []), (4, 0, 0, 0, 0, []), (44, 38, 10, 24, 1101, []), (3, 3, 0, 0, 0, []), (47, 0, 0, 0, 0, []), (3, 3, 0, 0, 0, []), (4, 0, 0, 0, 0, []), (44, 35, 10, 23, 1100, []), (0, 0, 0, 0, 3, []), (3, 2, 0, 0, 0, []), (10, 0, 0, 0, 0, []), (0, 0, 0, 0, 1, []), (8, 0, 0, 0, 0, []), (47, 0, 0, 0, 0, []), (56, 197, 153, 3, 0, [(0, 1288), (0, 1290), (0, 55), (0, 85)]), (4, 0, 0, 0, 0, []), (44, 35, 10, 23, 1100, []), (0, 0, 0, 0, 3, []), (3, 2, 0, 0, 0, []), (10, 0, 0, 0, 0, []), (0, 0, 0, 0, 2, []), (8, 0, 0, 0, 0, []), (47, 0, 0, 0, 0, []), (0, 0, 0, 0, 1, []), (36, 45, 0, 0, 7, []), (0, 0, 0, 0, 1, []), (41, 46, 0, 0, 4, []), (0, 0, 0, 0, 0, []), (36, 49, 0, 0, 7, []), (0, 0, 0, 0, 1, []), (41, 50, 0, 0, 4, []), (0, 0, 0, 0, 0, []), (5, 1, 0, 0, 0, []), (7, 2, 0, 0, 1, []), (41, 4, 0, 0, (-73), []), (3, 1, 0, 0, 0, []), (53, 0, 0, 0, 0, [])]
def ac_M_lies : List AOp := [(4, 0, 0, 0, 0, []), (3, 1, 0, 0, 0, []), (56, 188, 147, 1, 1, [(0, 1264), (0, 1266), (0, 50), (0, 85)]), (30, 6, 0, 0, 6, []), (0, 1, 0, 0, (-2), []), (53, 0, 0, 0, 0, []), (4, 0, 0, 0, 0, []), (56, 239, 179, 0, 0, [(0, 1392), (0, 1394), (0, 67), (0, 85)]), (4, 0, 0, 0, 0, []), (3, 1, 0, 0, 0, []), (56, 242, 182, 1, 0, [(0, 1404), (0, 1406), (0, 69), (0, 85)]), (53, 0, 0, 0, 0, [])]
def ac_M_liesIn : List AOp := [(0, 0, 0, 0, 0, []), (5, 2, 0, 0, 0, []), (0, 0, 0, 0, 0, []), (5, 3, 0, 0, 0, []), (59, 4, 0, 0, 0, []), (3, 3, 0, 0, 0, []), (4, 0, 0, 0, 0, []), (44, 233, 10, 26, 1103, []), (38, 26, 0, 0, 30, []), (4, 0, 0, 0, 0, []), (4, 0, 0, 0, 0, []), (44, 41, 10, 25, 1102, []), (3, 3, 0, 0, 0, []), (47, 0, 0, 0, 0, []), (56, 210, 169, 1, 0, [(0, 1352), (0, 1354), (0, 61), (0, 85)]), (3, 2, 0, 0, 0, []), (0, 0, 0, 0, 1, []), (4, 0, 0, 0, 0, []), (44, 38, 10, 24, 1101, []), (3, 1, 0, 0, 0, []), (47, 0, 0, 0, 0, []), (16, 0, 0, 0, 0, []), (14, 0, 0, 0, 0, []), (5, 2, 0, 0, 0, []), (7, 3, 0, 0, 1, []), (41, 4, 0, 0, (-32), []), (3, 2, 0, 0, 0, []), (53, 0, 0, 0, 0, [])]
def ac_M_sure : List AOp := [(4, 0, 0, 0, 0, []), (56, 239, 179, 0, 0, [(0, 1392), (0, 1394), (0, 67), (0, 85)]), (0, 0, 0, 0, 0, []), (5, 1, 0, 0, 0, []), (0, 0, 0, 0, 0, []), (5, 2, 0, 0, 0, []), (59, 6, 0, 0, 0, []), (3, 2, 0, 0, 0, []), (4, 0, 0, 0, 0, []), (44, 58, 10, 2, 1079, []), (38, 33, 0, 0, 37, []), (4, 0, 0, 0, 0, []), (3, 2, 0, 0, 0, []), (56, 242, 182, 1, 0, [(0, 1404), (0, 1406), (0, 69), (0, 85)]), (5, 3, 0, 0, 0, []), (3, 1, 0, 0, 0, []), (3, 3, 0, 0, 0, []), (29, 28, 0, 0, 17, []), (3, 3, 0, 0, 0, []), (3, 3, 0, 0, 0, []), (0, 0, 0, 0, 1, []), (9, 0, 0, 0, 0, []), (13, 0, 0, 0, 0, []), (30, 28, 0, 0, 9, []), (0, 0, 0, 0, 1, []), (3, 2, 0, 0, 0, []), (16, 0, 0, 0, 0, []), (41, 29, 0, 0, 4, []), (0, 0, 0, 0, 0, []), (14, 0, 0, 0, 0, []), (5, 1, 0, 0, 0, []), (7, 2, 0, 0, 1, []), (41, 6, 0, 0, (-39), []), (3, 1, 0, 0, 0, []), (53, 0, 0, 0, 0, [])]
def ac_M_odds : List AOp := [(4, 0, 0, 0, 0, []), (3, 1, 0, 0, 0, []), (56, 188, 147, 1, 1, [(0, 1264), (0, 1266), (0, 50), (0, 85)]), (30, 6, 0, 0, 6, []), (0, 1, 0, 0, (-2), []), (53, 0, 0, 0, 0, []), (3, 2, 0, 0, 0, []), (0, 0, 0, 0, 0, []), (0, 0, 0, 0, 1, []), (57, 54, 127, 3, 1, [(0, 1169), (0, 1170), (0, 85)]), (30, 13, 0, 0, 6, []), (0, 1, 0, 0, (-3), []), (53, 0, 0, 0, 0, []), (4, 0, 0, 0, 0, []), (56, 239, 179, 0, 0, [(0, 1392), (0, 1394), (0, 67), (0, 85)]), (4, 0, 0, 0, 0, []), (44, 233, 10, 26, 1103, []), (30, 20, 0, 0, 6, []), (0, 1, 0, 0, (-4), []), (53, 0, 0, 0, 0, []), (0, 0, 0, 0, 0, []), (5, 3, 0, 0, 0, []), (0, 0, 0, 0, 0, []), (5, 4, 1, 0, 0, []), (59, 24, 0, 0, 0, []), (3, 4, 1, 0, 0, []), (4, 0, 0, 0, 0, []), (44, 233, 10, 26, 1103, []), (38, 50, 0, 0, 41, []), (4, 0, 0, 0, 0, []), (4, 0, 0, 0, 0, []), (44, 41, 10, 25, 1102, []), (3, 4, 1, 0, 0, []), (47, 0, 0, 0, 0, []), (56, 210, 169, 1, 0, [(0, 1352), (0, 1354), (0, 61), (0, 85)]), (3, 3, 0, 0, 0, []), (4, 0, 0, 0, 0, []), (4, 0, 0, 0, 0, []), (44, 38, 10, 24, 1101, []), (3, 1, 0, 0, 0, []), (47, 0, 0, 0, 0, []), (56, 182, 148, 1, 1, [(0, 1268), (0, 1270), (0, 51), (0, 85)]), (34, 45, 0, 0, 7, []), (0, 0, 0, 0, 1, []), (41, 46, 0, 0, 4, []), (0, 0, 0, 0, 0, []), (8, 0, 0, 0, 0, []), (5, 3, 0, 0, 0, []), (7, 4, 0, 0, 1, []), (41, 24, 0, 0, (-44), []), (59, 50, 0, 0, 0, []), (3, 3, 0, 0, 0, []), (5, 4, 1, 0, 0, []), (4, 0, 0, 0, 0, []), (44, 233, 10, 26, 1103, []), (5, 5, 1, 0, 0, []), (59, 56, 0, 0, 0, []), (3, 5, 1, 0, 0, []), (34, 68, 0, 0, 21, []), (3, 4, 1, 0, 0, []), (3, 5, 1, 0, 0, []), (12, 0, 0, 0, 0, []), (5, 6, 1, 0, 0, []), (3, 5, 1, 0, 0, []), (5, 4, 1, 0, 0, []), (3, 6, 1, 0, 0, []), (5, 5, 1, 0, 0, []), (41, 56, 0, 0, (-20), []), (59, 68, 0, 0, 0, []), (3, 2, 0, 0, 0, []), (30, 73, 0, 0, 7, []), (3, 3, 0, 0, 0, []), (41, 75, 0, 0, 7, []), (4, 0, 0, 0, 0, []), (44, 233, 10, 26, 1103, []), (3, 4, 1, 0, 0, []), (11, 0, 0, 0, 0, []), (53, 0, 0, 0, 0, [])]
def ac_M_next : List AOp := [(3, 1, 0, 0, 0, []), (0, 0, 0, 0, 0, []), (0, 0, 0, 0, 2, []), (57, 54, 127, 3, 1, [(0, 1169), (0, 1170), (0, 85)]), (30, 7, 0, 0, 6, []), (0, 1, 0, 0, (-3), []), (53, 0, 0, 0, 0, []), (4, 0, 0, 0, 0, []), (56, 239, 179, 0, 0, [(0, 1392), (0, 1394), (0, 67), (0, 85)]), (0, 0, 0, 0, (-1), []), (5, 2, 0, 0, 0, []), (0, 0, 0, 0, (-1), []), (5, 3, 0, 0, 0, []), (0, 0, 0, 0, 0, []), (5, 4, 1, 0, 0, []), (59, 15, 0, 0, 0, []), (3, 4, 1, 0, 0, []), (0, 0, 0, 0, 4, []), (4, 0, 0, 0, 0, []), (44, 58, 10, 2, 1079, []), (10, 0, 0, 0, 0, []), (38, 101, 0, 0, 150, []), (4, 0, 0, 0, 0, []), (44, 233, 10, 26, 1103, []), (34, 101, 0, 0, 143, []), (0, 0, 0, 0, 0, []), (5, 5, 1, 0, 0, []), (0, 0, 0, 0, 0, []), (5, 6, 1, 0, 0, []), (59, 29, 0, 0, 0, []), (3, 6, 1, 0, 0, []), (4, 0, 0, 0, 0, []), (44, 233, 10, 26, 1103, []), (38, 63, 0, 0, 54, []), (4, 0, 0, 0, 0, []), (4, 0, 0, 0, 0, []), (44, 41, 10, 25, 1102, []), (3, 6, 1, 0, 0, []), (47, 0, 0, 0, 0, []), (56, 210, 169, 1, 0, [(0, 1352), (0, 1354), (0, 61), (0, 85)]), (3, 5, 1, 0, 0, []), (4, 0, 0, 0, 0, []), (4, 0, 0, 0, 0, []), (44, 38, 10, 24, 1101, []), (3, 4, 1, 0, 0, []), (0, 0, 0, 0, 4, []), (11, 0, 0, 0, 0, []), (47, 0, 0, 0, 0, []), (3, 4, 1, 0, 0, []), (0, 0, 0, 0, 4, []), (11, 0, 0, 0, 0, []), (3, 4, 1, 0, 0, []), (0, 0, 0, 0, 4, []), (12, 0, 0, 0, 0, []), (56, 197, 153, 3, 0, [(0, 1288), (0, 1290), (0, 55), (0, 85)]), (29, 58, 0, 0, 7, []), (0, 0, 0, 0, 1, []), (41, 59, 0, 0, 4, []), (0, 0, 0, 0, 0, []), (8, 0, 0, 0, 0, []), (5, 5, 1, 0, 0, []), (7, 6, 0, 0, 1, []), (41, 29, 0, 0, (-57), []), (59, 63, 0, 0, 0, []), (3, 5, 1, 0, 0, []), (4, 0, 0, 0, 0, []), (44, 233, 10, 26, 1103, []), (3, 5, 1, 0, 0, []), (9, 0, 0, 0, 0, []), (40, 72, 0, 0, 8, []), (3, 5, 1, 0, 0, []), (41, 76, 0, 0, 10, []), (4, 0, 0, 0, 0, []), (44, 233, 10, 26, 1103, []), (3, 5, 1, 0, 0, []), (9, 0, 0, 0, 0, []), (5, 6, 1, 0, 0, []), (3, 2, 0, 0, 0, []), (0, 0, 0, 0, (-1), []), (35, 83, 0, 0, 9, []), (3, 6, 1, 0, 0, []), (3, 3, 0, 0, 0, []), (38, 85, 0, 0, 7, []), (0, 0, 0, 0, 1, []), (41, 86, 0, 0, 4, []), (0, 0, 0, 0, 0, []), (5, 7, 1, 0, 0, []), (3, 7, 1, 0, 0, []), (29, 91, 0, 0, 8, []), (3, 4, 1, 0, 0, []), (41, 92, 0, 0, 4, []), (3, 2, 0, 0, 0, []), (5, 2, 0, 0, 0, []), (3, 7, 1, 0, 0, []), (29, 97, 0, 0, 8, []), (3, 6, 1, 0, 0, []), (41, 98, 0, 0, 4, []), (3, 3, 0, 0, 0, []), (5, 3, 0, 0, 0, []), (7, 4, 0, 0, 1, []), (41, 15, 0, 0, (-155), []), (59, 101, 0, 0, 0, []), (3, 2, 0, 0, 0, []), (0, 0, 0, 0, (-1), []), (35, 108, 0, 0, 8, []), (3, 1, 0, 0, 0, []), (0, 0, 0, 0, 2, []), (36, 110, 0, 0, 7, []), (3, 3, 0, 0, 0, []), (41, 119, 0, 0, 16, []), (3, 1, 0, 0, 0, []), (30, 116, 0, 0, 9, []), (3, 2, 0, 0, 0, []), (0, 0, 0, 0, 4, []), (11, 0, 0, 0, 0, []), (41, 119, 0, 0, 6, []), (3, 2, 0, 0, 0, []), (0, 0, 0, 0, 4, []), (12, 0, 0, 0, 0, []), (53, 0, 0, 0, 0, [])]
def ac_M_apart : List AOp := [(3, 1, 0, 0, 0, []), (0, 0, 0, 0, (-1), []), (38, 5, 0, 0, 6, []), (0, 1, 0, 0, (-3), []), (53, 0, 0, 0, 0, []), (4, 0, 0, 0, 0, []), (56, 248, 187, 0, 0, [(0, 1424), (0, 1426), (0, 70), (0, 85)]), (0, 0, 0, 0, 0, []), (5, 2, 0, 0, 0, []), (0, 0, 0, 0, (-1), []), (5, 3, 0, 0, 0, []), (0, 0, 0, 0, 1, []), (5, 4, 1, 0, 0, []), (59, 13, 0, 0, 0, []), (3, 2, 0, 0, 0, []), (0, 0, 0, 0, 5, []), (38, 36, 0, 0, 39, []), (3, 3, 0, 0, 0, []), (0, 0, 0, 0, (-1), []), (36, 36, 0, 0, 34, []), (4, 0, 0, 0, 0, []), (44, 233, 10, 26, 1103, []), (3, 4, 1, 0, 0, []), (40, 26, 0, 0, 7, []), (0, 0, 0, 0, (-1), []), (41, 29, 0, 0, 8, []), (4, 0, 0, 0, 0, []), (3, 2, 0, 0, 0, []), (56, 251, 188, 1, 0, [(0, 1428), (0, 1430), (0, 71), (0, 85)]), (5, 3, 0, 0, 0, []), (7, 2, 0, 0, 1, []), (3, 4, 1, 0, 0, []), (0, 0, 0, 0, 2, []), (10, 0, 0, 0, 0, []), (5, 4, 1, 0, 0, []), (41, 13, 0, 0, (-38), []), (59, 36, 0, 0, 0, []), (3, 3, 0, 0, 0, []), (0, 0, 0, 0, (-1), []), (36, 42, 0, 0, 5, []), (0, 0, 0, 0, (-1), []), (53, 0, 0, 0, 0, []), (3, 1, 0, 0, 0, []), (0, 0, 0, 0, (-1), []), (36, 49, 0, 0, 7, []), (3, 2, 0, 0, 0, []), (0, 0, 0, 0, 1, []), (9, 0, 0, 0, 0, []), (53, 0, 0, 0, 0, []), (3, 1, 0, 0, 0, []), (5, 5, 1, 0, 0, []), (0, 0, 0, 0, 0, []), (5, 6, 1, 0, 0, []), (59, 53, 0, 0, 0, []), (3, 6, 1, 0, 0, []), (0, 0, 0, 0, 4, []), (4, 0, 0, 0, 0, []), (44, 58, 10, 2, 1079, []), (10, 0, 0, 0, 0, []), (38, 71, 0, 0, 29, []), (3, 3, 0, 0, 0, []), (3, 6, 1, 0, 0, []), (57, 170, 144, 2, 1, [(0, 1253), (0, 1254), (0, 85)]), (29, 69, 0, 0, 14, []), (3, 5, 1, 0, 0, []), (30, 68, 0, 0, 6, []), (3, 6, 1, 0, 0, []), (53, 0, 0, 0, 0, []), (7, 5, 0, 0, (-1), []), (7, 6, 0, 0, 1, []), (41, 53, 0, 0, (-34), []), (0, 0, 0, 0, (-1), []), (53, 0, 0, 0, 0, [])]
def ac_M_layAnswers : List AOp := [(4, 0, 0, 0, 0, []), (56, 239, 179, 0, 0, [(0, 1392), (0, 1394), (0, 67), (0, 85)]), (0, 0, 0, 0, 0, []), (5, 1, 0, 0, 0, []), (59, 4, 0, 0, 0, []), (3, 1, 0, 0, 0, []), (4, 0, 0, 0, 0, []), (44, 233, 10, 26, 1103, []), (38, 63, 0, 0, 85, []), (4, 0, 0, 0, 0, []), (4, 0, 0, 0, 0, []), (44, 41, 10, 25, 1102, []), (3, 1, 0, 0, 0, []), (47, 0, 0, 0, 0, []), (56, 210, 169, 1, 0, [(0, 1352), (0, 1354), (0, 61), (0, 85)]), (4, 0, 0, 0, 0, []), (44, 47, 10, 28, 1105, []), (3, 1, 0, 0, 0, []), (0, 0, 0, 0, 0, []), (48, 0, 0, 0, 0, []), (0, 0, 0, 0, 0, []), (5, 2, 0, 0, 0, []), (59, 22, 0, 0, 0, []), (3, 2, 0, 0, 0, []), (0, 0, 0, 0, 4, []), (4, 0, 0, 0, 0, []), (44, 58, 10, 2, 1079, []), (10, 0, 0, 0, 0, []), (38, 60, 0, 0, 50, []), (4, 0, 0, 0, 0, []), (44, 47, 10, 28, 1105, []), (3, 1, 0, 0, 0, []), (4, 0, 0, 0, 0, []), (44, 47, 10, 28, 1105, []), (3, 1, 0, 0, 0, []), (47, 0, 0, 0, 0, []), (4, 0, 0, 0, 0, []), (4, 0, 0, 0, 0, []), (44, 38, 10, 24, 1101, []), (3, 2, 0, 0, 0, []), (0, 0, 0, 0, 4, []), (11, 0, 0, 0, 0, []), (47, 0, 0, 0, 0, []), (3, 2, 0, 0, 0, []), (0, 0, 0, 0, 4, []), (11, 0, 0, 0, 0, []), (3, 2, 0, 0, 0, []), (0, 0, 0, 0, 4, []), (12, 0, 0, 0, 0, []), (56, 197, 153, 3, 0, [(0, 1288), (0, 1290), (0, 55), (0, 85)]), (29, 55, 0, 0, 9, []), (0, 0, 0, 0, 1, []), (3, 2, 0, 0, 0, []), (16, 0, 0, 0, 0, []), (41, 56, 0, 0, 4, []), (0, 0, 0, 0, 0, []), (14, 0, 0, 0, 0, []), (48, 0, 0, 0, 0, []), (7, 2, 0, 0, 1, []), (41, 22, 0, 0, (-54), []), (59, 60, 0, 0, 0, []), (7, 1, 0, 0, 1, []), (41, 4, 0, 0, (-87), []), (54, 0, 0, 0, 0, [])]
def ac_M_leastOf : List AOp := [(0, 0, 0, 0, 4, []), (4, 0, 0, 0, 0, []), (44, 58, 10, 2, 1079, []), (10, 0, 0, 0, 0, []), (5, 2, 0, 0, 0, []), (3, 1, 0, 0, 0, []), (34, 9, 0, 0, 7, []), (3, 2, 0, 0, 0, []), (41, 10, 0, 0, 4, []), (0, 0, 0, 0, 1, []), (5, 3, 0, 0, 0, []), (0, 0, 0, 0, 0, []), (5, 4, 1, 0, 0, []), (59, 13, 0, 0, 0, []), (3, 4, 1, 0, 0, []), (3, 3, 0, 0, 0, []), (38, 123, 0, 0, 185, []), (3, 1, 0, 0, 0, []), (0, 0, 0, 0, 1, []), (40, 24, 0, 0, 10, []), (3, 4, 1, 0, 0, []), (0, 0, 0, 0, 1, []), (8, 0, 0, 0, 0, []), (41, 25, 0, 0, 4, []), (0, 0, 0, 0, 0, []), (5, 5, 1, 0, 0, []), (59, 26, 0, 0, 0, []), (3, 5, 1, 0, 0, []), (3, 1, 0, 0, 0, []), (0, 0, 0, 0, 1, []), (40, 33, 0, 0, 7, []), (3, 2, 0, 0, 0, []), (41, 34, 0, 0, 4, []), (0, 0, 0, 0, 1, []), (38, 120, 0, 0, 149, []), (3, 1, 0, 0, 0, []), (0, 0, 0, 0, 2, []), (40, 42, 0, 0, 10, []), (3, 5, 1, 0, 0, []), (0, 0, 0, 0, 1, []), (8, 0, 0, 0, 0, []), (41, 43, 0, 0, 4, []), (0, 0, 0, 0, 0, []), (5, 6, 1, 0, 0, []), (59, 44, 0, 0, 0, []), (3, 6, 1, 0, 0, []), (3, 1, 0, 0, 0, []), (0, 0, 0, 0, 2, []), (40, 51, 0, 0, 7, []), (3, 2, 0, 0, 0, []), (41, 52, 0, 0, 4, []), (0, 0, 0, 0, 1, []), (38, 117, 0, 0, 113, []), (3, 1, 0, 0, 0, []), (0, 0, 0, 0, 3, []), (40, 60, 0, 0, 10, []), (3, 6, 1, 0, 0, []), (0, 0, 0, 0, 1, []), (8, 0, 0, 0, 0, []), (41, 61, 0, 0, 4, []), (0, 0, 0, 0, 0, []), (5, 7, 1, 0, 0, []), (59, 62, 0, 0, 0, []), (3, 7, 1, 0, 0, []), (3, 1, 0, 0, 0, []), (0, 0, 0, 0, 3, []), (40, 69, 0, 0, 7, []), (3, 2, 0, 0, 0, []), (41, 70, 0, 0, 4, []), (0, 0, 0, 0, 1, []), (38, 114, 0, 0, 77, []), (3, 1, 0, 0, 0, []), (34, 77, 0, 0, 10, []), (0, 0, 0, 0, 1, []), (3, 4, 1, 0, 0, []), (16, 0, 0, 0, 0, []), (41, 78, 0, 0, 4, []), (0, 0, 0, 0, 0, []), (3, 1, 0, 0, 0, []), (0, 0, 0, 0, 1, []), (40, 85, 0, 0, 10, []), (0, 0, 0, 0, 1, []), (3, 5, 1, 0, 0, []), (16, 0, 0, 0, 0, []), (41, 86, 0, 0, 4, []), (0, 0, 0, 0, 0, []), (14, 0, 0, 0, 0, []), (3, 1, 0, 0, 0, []), (0, 0, 0, 0, 2, []), (40, 94, 0, 0, 10, []), (0, 0, 0, 0, 1, []), (3, 6, 1, 0, 0, []), (16, 0, 0, 0, 0, []), (41, 95, 0, 0, 4, []), (0, 0, 0, 0, 0, []), (14, 0, 0, 0, 0, []), (3, 1, 0, 0, 0, []), (0, 0, 0, 0, 3, []), (40, 103, 0, 0, 10, []), (0, 0, 0, 0, 1, []), (3, 7, 1, 0, 0, []), (16, 0, 0, 0, 0, []), (41, 104, 0, 0, 4, []), (0, 0, 0, 0, 0, []), (14, 0, 0, 0, 0, []), (5, 8, 1, 0, 0, []), (4, 0, 0, 0, 0, []), (3, 8, 1, 0, 0, []), (56, 245, 189, 1, 0, [(0, 1432), (0, 1434), (0, 72), (0, 85)]), (29, 112, 0, 0, 6, []), (3, 8, 1, 0, 0, []), (53, 0, 0, 0, 0, []), (7, 7, 0, 0, 1, []), (41, 62, 0, 0, (-86), []), (59, 114, 0, 0, 0, []), (7, 6, 0, 0, 1, []), (41, 44, 0, 0, (-122), []), (59, 117, 0, 0, 0, []), (7, 5, 0, 0, 1, []), (41, 26, 0, 0, (-158), []), (59, 120, 0, 0, 0, []), (7, 4, 0, 0, 1, []), (41, 13, 0, 0, (-185), []), (0, 0, 0, 0, (-1), []), (53, 0, 0, 0, 0, [])]
def ac_M_parts : List AOp := [(0, 0, 0, 0, 0, []), (5, 2, 0, 0, 0, []), (59, 2, 0, 0, 0, []), (3, 2, 0, 0, 0, []), (4, 0, 0, 0, 0, []), (44, 233, 10, 26, 1103, []), (38, 32, 0, 0, 42, []), (0, 0, 0, 0, 0, []), (5, 3, 0, 0, 0, []), (59, 9, 0, 0, 0, []), (3, 3, 0, 0, 0, []), (3, 2, 0, 0, 0, []), (38, 29, 0, 0, 29, []), (4, 0, 0, 0, 0, []), (44, 47, 10, 28, 1105, []), (3, 2, 0, 0, 0, []), (47, 0, 0, 0, 0, []), (4, 0, 0, 0, 0, []), (44, 47, 10, 28, 1105, []), (3, 3, 0, 0, 0, []), (47, 0, 0, 0, 0, []), (15, 0, 0, 0, 0, []), (3, 1, 0, 0, 0, []), (13, 0, 0, 0, 0, []), (30, 27, 0, 0, 5, []), (0, 0, 0, 0, 0, []), (53, 0, 0, 0, 0, []), (7, 3, 0, 0, 1, []), (41, 9, 0, 0, (-28), []), (59, 29, 0, 0, 0, []), (7, 2, 0, 0, 1, []), (41, 2, 0, 0, (-44), []), (0, 0, 0, 0, 1, []), (53, 0, 0, 0, 0, [])]
def ac_M_came : List AOp := [(3, 1, 0, 0, 0, []), (0, 0, 0, 0, 0, []), (0, 0, 0, 0, 1, []), (57, 54, 127, 3, 1, [(0, 1169), (0, 1170), (0, 85)]), (30, 7, 0, 0, 6, []), (0, 1, 0, 0, (-3), []), (53, 0, 0, 0, 0, []), (4, 0, 0, 0, 0, []), (56, 239, 179, 0, 0, [(0, 1392), (0, 1394), (0, 67), (0, 85)]), (4, 0, 0, 0, 0, []), (56, 254, 191, 0, 0, [(0, 1440), (0, 1442), (0, 73), (0, 85)]), (0, 1, 0, 0, 99, []), (5, 2, 0, 0, 0, []), (0, 0, 0, 0, 0, []), (5, 3, 0, 0, 0, []), (0, 0, 0, 0, 0, []), (5, 4, 1, 0, 0, []), (59, 17, 0, 0, 0, []), (3, 4, 1, 0, 0, []), (4, 0, 0, 0, 0, []), (44, 233, 10, 26, 1103, []), (38, 48, 0, 0, 51, []), (4, 0, 0, 0, 0, []), (44, 44, 10, 27, 1104, []), (4, 0, 0, 0, 0, []), (44, 41, 10, 25, 1102, []), (3, 4, 1, 0, 0, []), (47, 0, 0, 0, 0, []), (47, 0, 0, 0, 0, []), (5, 5, 1, 0, 0, []), (3, 5, 1, 0, 0, []), (3, 2, 0, 0, 0, []), (38, 35, 0, 0, 8, []), (3, 5, 1, 0, 0, []), (41, 36, 0, 0, 4, []), (3, 2, 0, 0, 0, []), (5, 2, 0, 0, 0, []), (3, 3, 0, 0, 0, []), (3, 5, 1, 0, 0, []), (0, 1, 0, 0, 99, []), (38, 43, 0, 0, 7, []), (0, 0, 0, 0, 1, []), (41, 44, 0, 0, 4, []), (0, 0, 0, 0, 0, []), (8, 0, 0, 0, 0, []), (5, 3, 0, 0, 0, []), (7, 4, 0, 0, 1, []), (41, 17, 0, 0, (-54), []), (59, 48, 0, 0, 0, []), (3, 3, 0, 0, 0, []), (30, 53, 0, 0, 7, []), (0, 0, 0, 0, (-1), []), (41, 58, 0, 0, 12, []), (3, 1, 0, 0, 0, []), (30, 57, 0, 0, 7, []), (3, 2, 0, 0, 0, []), (41, 58, 0, 0, 4, []), (3, 3, 0, 0, 0, []), (53, 0, 0, 0, 0, [])]
def ac_M_layCame : List AOp := [(0, 0, 0, 0, 0, []), (5, 1, 0, 0, 0, []), (59, 2, 0, 0, 0, []), (3, 1, 0, 0, 0, []), (4, 0, 0, 0, 0, []), (56, 206, 168, 0, 0, [(0, 1348), (0, 1350), (0, 60), (0, 85)]), (38, 18, 0, 0, 25, []), (4, 0, 0, 0, 0, []), (44, 44, 10, 27, 1104, []), (3, 1, 0, 0, 0, []), (3, 1, 0, 0, 0, []), (30, 14, 0, 0, 7, []), (0, 0, 0, 0, 0, []), (41, 15, 0, 0, 5, []), (0, 1, 0, 0, 99, []), (48, 0, 0, 0, 0, []), (7, 1, 0, 0, 1, []), (41, 2, 0, 0, (-27), []), (59, 18, 0, 0, 0, []), (0, 0, 0, 0, 0, []), (5, 1, 0, 0, 0, []), (59, 21, 0, 0, 0, []), (3, 1, 0, 0, 0, []), (4, 0, 0, 0, 0, []), (44, 25, 10, 19, 1096, []), (0, 1, 0, 0, 24, []), (47, 0, 0, 0, 0, []), (38, 156, 0, 0, 222, []), (0, 0, 0, 0, 0, []), (5, 2, 0, 0, 0, []), (59, 30, 0, 0, 0, []), (3, 2, 0, 0, 0, []), (4, 0, 0, 0, 0, []), (56, 206, 168, 0, 0, [(0, 1348), (0, 1350), (0, 60), (0, 85)]), (38, 47, 0, 0, 25, []), (4, 0, 0, 0, 0, []), (44, 44, 10, 27, 1104, []), (0, 2, 0, 0, 720, []), (3, 2, 0, 0, 0, []), (8, 0, 0, 0, 0, []), (4, 0, 0, 0, 0, []), (44, 44, 10, 27, 1104, []), (3, 2, 0, 0, 0, []), (47, 0, 0, 0, 0, []), (48, 0, 0, 0, 0, []), (7, 2, 0, 0, 1, []), (41, 30, 0, 0, (-27), []), (59, 47, 0, 0, 0, []), (0, 0, 0, 0, 0, []), (5, 2, 0, 0, 0, []), (59, 50, 0, 0, 0, []), (3, 2, 0, 0, 0, []), (4, 0, 0, 0, 0, []), (56, 206, 168, 0, 0, [(0, 1348), (0, 1350), (0, 60), (0, 85)]), (38, 133, 0, 0, 142, []), (0, 0, 0, 0, 0, []), (5, 3, 0, 0, 0, []), (59, 57, 0, 0, 0, []), (3, 3, 0, 0, 0, []), (4, 0, 0, 0, 0, []), (44, 58, 10, 2, 1079, []), (4, 0, 0, 0, 0, []), (44, 58, 10, 2, 1079, []), (10, 0, 0, 0, 0, []), (38, 130, 0, 0, 121, []), (4, 0, 0, 0, 0, []), (44, 44, 10, 27, 1104, []), (3, 2, 0, 0, 0, []), (47, 0, 0, 0, 0, []), (0, 1, 0, 0, 99, []), (38, 130, 0, 0, 110, []), (3, 3, 0, 0, 0, []), (4, 0, 0, 0, 0, []), (44, 58, 10, 2, 1079, []), (11, 0, 0, 0, 0, []), (5, 4, 1, 0, 0, []), (3, 3, 0, 0, 0, []), (4, 0, 0, 0, 0, []), (44, 58, 10, 2, 1079, []), (12, 0, 0, 0, 0, []), (5, 5, 1, 0, 0, []), (3, 4, 1, 0, 0, []), (3, 5, 1, 0, 0, []), (38, 128, 0, 0, 81, []), (4, 0, 0, 0, 0, []), (3, 1, 0, 0, 0, []), (3, 4, 1, 0, 0, []), (3, 5, 1, 0, 0, []), (56, 203, 157, 3, 0, [(0, 1304), (0, 1306), (0, 57), (0, 85)]), (29, 128, 0, 0, 69, []), (4, 0, 0, 0, 0, []), (3, 2, 0, 0, 0, []), (56, 210, 169, 1, 0, [(0, 1352), (0, 1354), (0, 61), (0, 85)]), (4, 0, 0, 0, 0, []), (3, 4, 1, 0, 0, []), (3, 5, 1, 0, 0, []), (56, 220, 172, 2, 1, [(0, 1364), (0, 1366), (0, 64), (0, 85)]), (0, 2, 0, 0, 720, []), (4, 0, 0, 0, 0, []), (56, 224, 173, 0, 0, [(0, 1368), (0, 1370), (0, 65), (0, 85)]), (8, 0, 0, 0, 0, []), (5, 6, 1, 0, 0, []), (4, 0, 0, 0, 0, []), (44, 44, 10, 27, 1104, []), (3, 6, 1, 0, 0, []), (4, 0, 0, 0, 0, []), (44, 44, 10, 27, 1104, []), (3, 2, 0, 0, 0, []), (47, 0, 0, 0, 0, []), (0, 0, 0, 0, 1, []), (8, 0, 0, 0, 0, []), (4, 0, 0, 0, 0, []), (44, 44, 10, 27, 1104, []), (3, 6, 1, 0, 0, []), (47, 0, 0, 0, 0, []), (38, 123, 0, 0, 14, []), (4, 0, 0, 0, 0, []), (44, 44, 10, 27, 1104, []), (3, 2, 0, 0, 0, []), (47, 0, 0, 0, 0, []), (0, 0, 0, 0, 1, []), (8, 0, 0, 0, 0, []), (41, 127, 0, 0, 10, []), (4, 0, 0, 0, 0, []), (44, 44, 10, 27, 1104, []), (3, 6, 1, 0, 0, []), (47, 0, 0, 0, 0, []), (48, 0, 0, 0, 0, []), (7, 3, 0, 0, 1, []), (41, 57, 0, 0, (-128), []), (59, 130, 0, 0, 0, []), (7, 2, 0, 0, 1, []), (41, 50, 0, 0, (-144), []), (59, 133, 0, 0, 0, []), (0, 0, 0, 0, 0, []), (5, 2, 0, 0, 0, []), (59, 136, 0, 0, 0, []), (3, 2, 0, 0, 0, []), (4, 0, 0, 0, 0, []), (56, 206, 168, 0, 0, [(0, 1348), (0, 1350), (0, 60), (0, 85)]), (38, 153, 0, 0, 25, []), (4, 0, 0, 0, 0, []), (44, 44, 10, 27, 1104, []), (3, 2, 0, 0, 0, []), (4, 0, 0, 0, 0, []), (44, 44, 10, 27, 1104, []), (0, 2, 0, 0, 720, []), (3, 2, 0, 0, 0, []), (8, 0, 0, 0, 0, []), (47, 0, 0, 0, 0, []), (48, 0, 0, 0, 0, []), (7, 2, 0, 0, 1, []), (41, 136, 0, 0, (-27), []), (59, 153, 0, 0, 0, []), (7, 1, 0, 0, 1, []), (41, 21, 0, 0, (-227), []), (54, 0, 0, 0, 0, [])]
def ac_M_count : List AOp := [(0, 0, 0, 0, 0, []), (5, 2, 0, 0, 0, []), (0, 0, 0, 0, 0, []), (5, 3, 0, 0, 0, []), (0, 0, 0, 0, 0, []), (5, 4, 1, 0, 0, []), (59, 6, 0, 0, 0, []), (3, 4, 1, 0, 0, []), (4, 0, 0, 0, 0, []), (44, 58, 10, 2, 1079, []), (38, 27, 0, 0, 32, []), (3, 2, 0, 0, 0, []), (4, 0, 0, 0, 0, []), (44, 25, 10, 19, 1096, []), (3, 4, 1, 0, 0, []), (47, 0, 0, 0, 0, []), (3, 4, 1, 0, 0, []), (36, 22, 0, 0, 10, []), (0, 0, 0, 0, 1, []), (3, 4, 1, 0, 0, []), (16, 0, 0, 0, 0, []), (41, 23, 0, 0, 4, []), (0, 0, 0, 0, 0, []), (14, 0, 0, 0, 0, []), (5, 2, 0, 0, 0, []), (7, 4, 0, 0, 1, []), (41, 6, 0, 0, (-35), []), (59, 27, 0, 0, 0, []), (3, 1, 0, 0, 0, []), (42, 85, 54, 0, 146, [(0, 30), (1, 33), (2, 36), (3, 39), (4, 44), (5, 49), (6, 54), (7, 56), (8, 79), (9, 82)]), (4, 0, 0, 0, 0, []), (44, 50, 10, 0, 1077, []), (53, 0, 0, 0, 0, []), (4, 0, 0, 0, 0, []), (44, 58, 10, 2, 1079, []), (53, 0, 0, 0, 0, []), (4, 0, 0, 0, 0, []), (44, 154, 10, 4, 1081, []), (53, 0, 0, 0, 0, []), (4, 0, 0, 0, 0, []), (44, 25, 10, 19, 1096, []), (0, 1, 0, 0, 24, []), (47, 0, 0, 0, 0, []), (53, 0, 0, 0, 0, []), (4, 0, 0, 0, 0, []), (44, 25, 10, 19, 1096, []), (0, 1, 0, 0, 25, []), (47, 0, 0, 0, 0, []), (53, 0, 0, 0, 0, []), (4, 0, 0, 0, 0, []), (44, 25, 10, 19, 1096, []), (0, 1, 0, 0, 26, []), (47, 0, 0, 0, 0, []), (53, 0, 0, 0, 0, []), (3, 2, 0, 0, 0, []), (53, 0, 0, 0, 0, []), (0, 0, 0, 0, 0, []), (5, 4, 1, 0, 0, []), (59, 58, 0, 0, 0, []), (3, 4, 1, 0, 0, []), (4, 0, 0, 0, 0, []), (56, 206, 168, 0, 0, [(0, 1348), (0, 1350), (0, 60), (0, 85)]), (38, 77, 0, 0, 30, []), (4, 0, 0, 0, 0, []), (3, 4, 1, 0, 0, []), (56, 210, 169, 1, 0, [(0, 1352), (0, 1354), (0, 61), (0, 85)]), (3, 3, 0, 0, 0, []), (4, 0, 0, 0, 0, []), (56, 213, 170, 0, 0, [(0, 1356), (0, 1358), (0, 62), (0, 85)]), (29, 72, 0, 0, 7, []), (0, 0, 0, 0, 1, []), (41, 73, 0, 0, 4, []), (0, 0, 0, 0, 0, []), (8, 0, 0, 0, 0, []), (5, 3, 0, 0, 0, []), (7, 4, 0, 0, 1, []), (41, 58, 0, 0, (-33), []), (3, 3, 0, 0, 0, []), (53, 0, 0, 0, 0, []), (4, 0, 0, 0, 0, []), (44, 167, 10, 22, 1099, []), (53, 0, 0, 0, 0, []), (4, 0, 0, 0, 0, []), (44, 65, 10, 6, 1083, []), (53, 0, 0, 0, 0, []), (0, 1, 0, 0, (-3), []), (53, 0, 0, 0, 0, [])]
def ax_codesL : List (List AOp) := [ac_X_write, ac_Text_append, ac_X_erase, ac_X_fault, ac_Text_read, ac_Text_step, ac_Text_isLetter, ac_Text_isDigit, ac_Text_wordHere, ac_Text_spelling, ac_Text_standsHere, ac_JString_length, ac_JString_coder, ac_JString_charAt, ac_JString_isLatin1, ac_JStringLatin1_charAt, ac_JString_checkIndex, ac_JPreconditions_checkIndex, ac_Text_hasRoom, ac_Text_isOfPeople, ac_Text_isOfThings, ac_Text_numbersOf, ac_Text_readNumbers, ac_Text_numberHere, ac_Text_bound, ac_Text_grow, ac_X_inn, ac_Told_doLine, ac_Told_addOne, ac_Told_addThing, ac_Text_numberOf, ac_JString_indexOf, ac_JString_indexOf2, ac_JStringLatin1_indexOf, ac_JStringLatin1_canEncode, ac_JStringLatin1_indexOfChar, ac_Told_addNight, ac_Told_tellPower, ac_Told_hasThing, ac_Now_begin, ac_Came_begin, ac_X_one, ac_Told_hasOne, ac_Told_placesOf, ac_Told_nightsOf, ac_Told_sleeps, ac_X_as, ac_X_isUnder, ac_Now_ownWith, ac_X_thing, ac_Now_placeOf, ac_X_thingAs, ac_Now_works, ac_Told_isKeptBy, ac_X_place, ac_X_may, ac_Told_hasNight, ac_Told_allows, ac_Told_isOpen, ac_X_pass, ac_Now_change, ac_X_say, ac_Now_hear, ac_Told_isCharm, ac_X_keep, ac_Now_copy, ac_X_back, ac_X_rings, ac_Now_ringCount, ac_X_mend, ac_Mend_find, ac_Mend_placeOfOwn, ac_X_show, ac_Now_showable, ac_X_plan, ac_Plan_find, ac_Plan_charmSet, ac_JInteger_bitCount, ac_Plan_weighEnds, ac_Plan_hostPlaces, ac_Plan_weighNight, ac_Plan_weighChange, ac_Plan_exchanged, ac_Plan_chooseChange, ac_X_planned, ac_X_seen, ac_Seen_append, ac_X_forget, ac_X_fit, ac_Fits_weigh, ac_Fits_allowedIn, ac_Seen_agrees, ac_Fits_weighHeads, ac_Fits_weighTails, ac_Fits_weighLying, ac_JArrays_fill, ac_X_lies, ac_Fits_mayLie, ac_X_sure, ac_Fits_surePlaces, ac_X_odds, ac_Fits_withCharm, ac_X_commonDivisor, ac_X_next, ac_Fits_bestPair, ac_Fits_leftAtMost, ac_X_apart, ac_Apart_find, ac_Apart_gather, ac_Apart_noteAnswers, ac_Apart_choose, ac_Apart_isTooCoarse, ac_Apart_split, ac_X_came, ac_Came_find, ac_Came_list, ac_Came_startAtHome, ac_Came_goOn, ac_Came_spread, ac_Came_exchanged, ac_Came_shiftOf, ac_Came_indexOf, ac_Came_isFit, ac_X_count, ac_Now_atHome, ac_Told_arrangements, ac_M_write, ac_M_in, ac_M_erase, ac_M_fault, ac_M_isRead, ac_M_isLine, ac_M_nextToken, ac_M_isPersonLine, ac_M_fails, ac_M_isThingLine, ac_M_isNumber, ac_M_isNightLine, ac_M_inn, ac_M_doLine, ac_M_one, ac_M_isOne, ac_M_keeperOf, ac_M_nightsOf, ac_M_has, ac_M_as, ac_M_thing, ac_M_isPlace, ac_M_kindOf, ac_M_lookOf, ac_M_wordOf, ac_M_whereIs, ac_M_thingAs, ac_M_works, ac_M_isKeptBy, ac_M_place, ac_M_may, ac_M_mayBe, ac_M_isOpen, ac_M_pass, ac_M_say, ac_M_keep, ac_M_back, ac_M_rings, ac_M_mend, ac_M_show, ac_M_plan, ac_M_layPlan, ac_M_rowMany, ac_M_lay, ac_M_isLawful, ac_M_by, ac_M_exchange, ac_M_rowOf, ac_M_layNow, ac_M_planned, ac_M_seen, ac_M_forget, ac_M_fit, ac_M_layFitting, ac_M_isAsSeen, ac_M_lies, ac_M_liesIn, ac_M_sure, ac_M_odds, ac_M_next, ac_M_apart, ac_M_layAnswers, ac_M_leastOf, ac_M_parts, ac_M_came, ac_M_layCame, ac_M_count]
def ap_X_write : List Nat := [0, 1, 4, 5, 8, 11, 13, 14, 15, 18, 19, 22, 25, 26, 29, 32, 35, 37]
def ap_Text_append : List Nat := [0, 1, 4, 7, 10, 11, 12, 13, 16, 17, 20, 21, 22, 23, 24, 27, 28, 29, 32, 33]
def ap_X_erase : List Nat := [0, 1, 4, 7, 8, 9, 12, 13, 16, 17]
def ap_X_fault : List Nat := [0, 1, 4, 5, 8, 11, 12, 15, 18, 19, 22, 25, 28]
def ap_Text_read : List Nat := [0, 1, 2, 5, 6, 7, 10, 11, 12, 15, 16, 17, 20, 21, 22, 25, 26, 28, 28, 30, 32, 35, 36, 39, 40, 43, 45, 47, 48, 51, 52, 54, 57, 60, 61, 64, 65, 66, 69, 71, 73, 74, 75, 77, 79, 82, 85, 88, 89, 92, 93, 94, 96, 99, 100, 102, 103, 104, 107, 108, 111, 112, 115, 116, 119, 122, 123, 124, 125, 128, 129, 132, 133, 135, 138, 139, 142, 143, 146, 149, 150, 153]
def ap_Text_step : List Nat := [0, 1, 2, 5, 8, 8, 9, 12, 13, 16, 19, 20, 23, 24, 27, 28, 30, 33, 34, 35, 38, 39, 40, 43, 46, 46, 47, 48, 51, 54, 55, 58, 59, 62, 65, 66, 67, 70, 71, 74, 75, 78, 81, 81, 82, 85, 86, 89, 92, 93, 96, 97, 100, 101, 104, 107, 108, 109, 112, 113, 114, 117, 120, 121, 124, 125, 128, 129, 132, 135, 135, 136, 139, 140, 143, 146, 147, 150, 151, 154, 155, 158, 161, 162, 163, 166, 167, 168, 171, 174, 175, 176, 179, 180, 181, 184]
def ap_Text_isLetter : List Nat := [0, 1, 3, 6, 7, 9, 12, 13, 16, 17]
def ap_Text_isDigit : List Nat := [0, 1, 3, 6, 7, 9, 12, 13, 16, 17]
def ap_Text_wordHere : List Nat := [0, 1, 2, 2, 3, 5, 8, 9, 10, 13, 16, 19, 20, 21, 24, 27, 28]
def ap_Text_spelling : List Nat := [0, 1, 56, 58, 59, 61, 62, 64, 65, 67, 68, 70, 71, 73, 74, 76, 77, 79, 80, 82, 83, 85, 86, 88]
def ap_Text_standsHere : List Nat := [0, 1, 4, 5, 8, 9, 10, 13, 16, 17, 18, 19, 20, 20, 21, 22, 25, 28, 29, 32, 33, 34, 35, 38, 41, 42, 45, 46, 49, 50, 51, 52, 53, 54, 57, 60, 61, 62, 65, 68, 69]
def ap_JString_length : List Nat := [0, 1, 4, 5, 6, 9, 10]
def ap_JString_coder : List Nat := [0, 3, 6, 7, 10, 13, 14]
def ap_JString_charAt : List Nat := [0, 1, 4, 7, 8, 11, 12, 15, 16, 17, 20, 21, 24]
def ap_JString_isLatin1 : List Nat := [0, 3, 6, 7, 10, 13, 14, 17, 18]
def ap_JStringLatin1_charAt : List Nat := [0, 1, 2, 3, 6, 7, 8, 9, 12, 13, 14]
def ap_JString_checkIndex : List Nat := [0, 1, 2, 5, 8, 9]
def ap_JPreconditions_checkIndex : List Nat := [0, 1, 4, 5, 6, 9, 10, 11, 12, 15, 16, 17]
def ap_Text_hasRoom : List Nat := [0, 1, 4, 7, 8, 11, 12, 15, 16, 19, 20, 21, 22, 25, 28, 29, 32, 34, 37, 38, 41, 42, 43, 44, 46, 49, 50, 53, 55, 58, 59, 62, 63]
def ap_Text_isOfPeople : List Nat := [0, 1, 2, 5, 6, 7, 10, 11, 14, 15]
def ap_Text_isOfThings : List Nat := [0, 1, 2, 5, 6, 8, 11, 12, 15, 16]
def ap_Text_numbersOf : List Nat := [0, 1, 40, 42, 43, 45, 46, 48, 49, 51, 52, 54, 55, 57, 58, 60]
def ap_Text_readNumbers : List Nat := [0, 1, 2, 2, 3, 4, 7, 10, 11, 12, 15, 16, 19, 20, 23, 25, 27, 28, 31, 33, 34, 35, 36, 39, 42, 45, 46, 47, 48, 51, 52, 53, 54, 55, 56, 58, 59, 62, 65, 66]
def ap_Text_numberHere : List Nat := [0, 1, 4, 5, 8, 9, 10, 11, 12, 15, 16, 17, 20, 21, 24, 25, 28, 29, 32, 35, 36, 37, 38, 39, 40, 43, 44, 44, 45, 46, 49, 52, 53, 55, 56, 57, 60, 61, 62, 63, 65, 66, 67, 70, 73, 74]
def ap_Text_bound : List Nat := [0, 1, 68, 69, 70, 71, 74, 75, 76, 77, 79, 80, 81, 82, 85, 86, 87, 88, 91]
def ap_Text_grow : List Nat := [0, 1, 4, 5, 6, 9, 10, 11, 14, 15, 16, 19, 22, 23, 26, 29, 30, 31, 34, 35, 36, 39, 42, 43, 46, 49, 50, 51, 54, 55, 56, 59, 62, 63, 65, 68, 69, 70, 73, 74, 75, 78]
def ap_X_inn : List Nat := [0, 1, 4, 5, 8, 11, 12, 15, 18, 19, 22, 25, 28, 29, 32, 34, 35, 36, 37, 37, 38, 39, 42, 45, 48, 49, 52, 53, 56, 57, 60, 63, 66, 66, 67, 70, 71, 74, 75, 78, 81, 82, 85, 86, 89, 90, 91, 94, 95, 98, 101, 102, 105, 108]
def ap_Told_doLine : List Nat := [0, 1, 4, 5, 6, 7, 8, 11, 12, 13, 16, 17, 18, 21, 22, 23, 26, 29, 30, 33, 36, 37, 38, 39, 40, 43, 46, 47, 50, 53, 54, 55, 56, 57, 58, 59, 62, 65, 66, 68, 71, 72, 73, 74, 76, 79, 82, 85, 86, 87, 88, 90, 93, 94, 95, 97, 100, 103]
def ap_Told_addOne : List Nat := [0, 1, 4, 5, 8, 9, 12, 13, 16, 17, 18, 19, 20, 23, 24, 25, 28]
def ap_Told_addThing : List Nat := [0, 1, 4, 6, 9, 10, 13, 14, 17, 18, 19, 20, 23, 24, 27, 28, 29, 31, 34, 35, 36, 39, 40, 43, 44, 45, 47, 50, 51, 52, 55, 56, 59, 60, 61, 63, 66, 67, 68, 71, 72, 75, 76, 77, 79, 82, 83, 84, 85, 88, 89, 90, 93]
def ap_Text_numberOf : List Nat := [0, 1, 4, 5, 6, 9, 10, 13, 14, 15, 18, 19, 20, 23, 24, 27, 28, 31, 32, 33, 34, 35, 36, 37]
def ap_JString_indexOf : List Nat := [0, 1, 2, 3, 6]
def ap_JString_indexOf2 : List Nat := [0, 1, 4, 7, 8, 11, 12, 13, 14, 17, 20, 23, 24, 27, 28, 29, 30, 33, 36]
def ap_JStringLatin1_indexOf : List Nat := [0, 1, 4, 7, 8, 9, 10, 11, 14, 15, 16, 17, 18, 21, 22, 23, 24, 27, 28, 29, 30, 31, 32, 33, 36]
def ap_JStringLatin1_canEncode : List Nat := [0, 1, 4, 5, 8, 11, 12, 15, 16]
def ap_JStringLatin1_indexOfChar : List Nat := [0, 1, 2, 4, 5, 7, 7, 9, 10, 13, 14, 16, 17, 19, 22, 24, 25, 28, 31, 32]
def ap_Told_addNight : List Nat := [0, 1, 4, 6, 9, 10, 13, 14, 17, 18, 19, 20, 21, 24, 25, 26, 29]
def ap_Told_tellPower : List Nat := [0, 1, 2, 5, 8, 9, 12, 13, 14, 15]
def ap_Told_hasThing : List Nat := [0, 1, 4, 5, 6, 9, 12, 13, 16, 17]
def ap_Now_begin : List Nat := [0, 1, 2, 5, 6, 7, 10, 11, 12, 15, 16, 17, 17, 18, 20, 23, 24, 27, 28, 29, 30, 31, 34, 35, 36, 37, 38, 41, 42, 43, 46, 49, 50, 51, 52, 53, 56, 57, 58, 59, 62, 65]
def ap_Came_begin : List Nat := [0, 1, 2, 5]
def ap_X_one : List Nat := [0, 1, 4, 5, 8, 11, 13, 14, 15, 44, 45, 48, 51, 52, 53, 54, 55, 58, 59, 62, 63, 64, 67, 70, 71, 72, 73, 74, 75, 76, 79, 80, 83, 84, 86]
def ap_Told_hasOne : List Nat := [0, 1, 4, 5, 6, 9, 12, 13, 16, 17]
def ap_Told_placesOf : List Nat := [0, 1, 2, 3, 4, 4, 5, 6, 9, 12, 13, 16, 17, 18, 19, 22, 23, 24, 25, 26, 27, 28, 31, 34, 35]
def ap_Told_nightsOf : List Nat := [0, 1, 2, 3, 4, 4, 5, 6, 9, 12, 13, 14, 15, 18, 21, 22, 23, 24, 25, 26, 27, 30, 33, 34]
def ap_Told_sleeps : List Nat := [0, 1, 4, 5, 6, 7, 10, 11, 14, 15, 16, 17, 18, 19, 20, 21, 24, 25, 28, 29]
def ap_X_as : List Nat := [0, 1, 4, 5, 8, 11, 13, 14, 15, 18, 19, 22, 23, 26, 28, 29, 32, 33, 36, 39, 40, 41, 42, 43, 44, 47, 50, 52, 53, 54, 57, 58, 61]
def ap_X_isUnder : List Nat := [0, 1, 2, 3, 5, 5, 7, 8, 9, 12, 13, 16, 17, 18, 19, 22, 23, 24, 27, 28, 29, 30, 31, 32, 33, 36, 39, 40]
def ap_Now_ownWith : List Nat := [0, 1, 2, 3, 4, 4, 5, 6, 9, 12, 15, 16, 19, 22, 23, 24, 25, 28, 29, 32, 35, 36, 39, 40, 41, 42, 43, 46, 49, 52, 55, 56]
def ap_X_thing : List Nat := [0, 1, 4, 5, 8, 11, 13, 14, 15, 52, 53, 56, 59, 60, 61, 62, 63, 66, 69, 70, 71, 72, 73, 76, 79, 80, 81, 82, 83, 86, 89, 90, 91, 92, 93, 96, 97, 100, 101, 102, 105, 108, 109, 110, 111, 113]
def ap_Now_placeOf : List Nat := [0, 1, 2, 2, 3, 4, 7, 10, 13, 14, 17, 18, 19, 20, 23, 24, 25, 28, 31, 32]
def ap_X_thingAs : List Nat := [0, 1, 4, 5, 8, 11, 13, 14, 15, 18, 19, 22, 23, 26, 28, 29, 32, 35, 36, 39, 42, 43, 44, 45, 46, 49, 52, 54, 55, 56, 59, 60, 61, 64, 65, 68, 69, 72, 75, 76, 77, 80, 83, 84, 87, 88]
def ap_Now_works : List Nat := [0, 1, 4, 7, 8, 9, 10, 13, 14, 15, 16, 19, 22, 23, 24, 52, 53, 54, 55, 58, 59, 60, 63, 64, 67, 68, 69, 70, 73, 76, 77, 78, 79, 82, 85, 86, 87, 90, 91, 94, 95, 96, 99, 102, 103, 106, 107, 108, 109]
def ap_Told_isKeptBy : List Nat := [0, 1, 4, 5, 8, 9, 10, 11, 12, 15, 16, 19, 20]
def ap_X_place : List Nat := [0, 1, 4, 5, 8, 11, 13, 14, 15, 40, 41, 44, 47, 48, 49, 50, 51, 54, 57, 58, 59, 60, 61, 64, 67, 68, 69, 70, 72]
def ap_X_may : List Nat := [0, 1, 4, 5, 8, 11, 12, 15, 16, 19, 22, 23, 26, 27, 30, 33, 35, 36, 37, 38, 41, 43, 44, 45, 48, 49, 50, 51, 54, 57, 58, 61, 62]
def ap_Told_hasNight : List Nat := [0, 1, 4, 5, 6, 9, 12, 13, 16, 17]
def ap_Told_allows : List Nat := [0, 1, 4, 5, 6, 7, 10, 11, 12, 15, 16, 17, 18, 21, 24, 25, 26, 27, 30, 33, 34, 37, 38]
def ap_Told_isOpen : List Nat := [0, 1, 2, 5, 6, 7, 8, 11, 14, 15, 16, 17, 20, 23, 24, 27, 28]
def ap_X_pass : List Nat := [0, 1, 2, 5, 6, 9, 10, 13, 16, 17, 18, 21, 22, 25, 26, 29, 32, 34, 35, 36, 37, 40, 41, 42, 45, 46, 49, 50, 51, 51, 52, 55, 56, 57, 60, 61, 62, 65, 66, 67, 70, 72, 73, 73, 74, 77, 80, 81, 84, 87, 90, 92, 93, 93, 94, 97, 98, 101, 102, 105, 108, 109, 110, 113, 116, 118, 119, 120, 123, 124, 125, 128, 128, 129, 132, 133, 136, 137, 138, 141, 142, 145, 148]
def ap_Now_change : List Nat := [0, 1, 4, 5, 6, 7, 8, 11, 12, 13, 16, 17, 18, 19, 20, 23, 24, 25, 26, 27, 30, 31, 32, 33, 34, 35, 36, 37, 40, 41, 42, 43, 44, 45, 46, 47, 48, 51, 52, 53, 56]
def ap_X_say : List Nat := [0, 1, 4, 5, 8, 11, 13, 14, 15, 18, 19, 20, 23, 25, 26, 27, 30, 31, 32, 35, 38, 39, 42, 43]
def ap_Now_hear : List Nat := [0, 1, 4, 5, 6, 7, 8, 9, 10, 11, 14, 17, 18, 21, 22, 23, 24, 25, 26, 27, 28, 31, 34, 35, 36, 37, 40, 41, 44, 45, 46, 47, 48, 49, 50, 51, 52, 53, 56, 57, 58, 61, 64, 65, 68, 69, 72, 75, 76, 79, 82, 83, 84, 85, 88, 89, 90, 93, 94, 95, 98, 101, 102, 103, 104, 105, 108, 109]
def ap_Told_isCharm : List Nat := [0, 1, 4, 5, 6, 9, 10, 13, 14]
def ap_X_keep : List Nat := [0, 1, 4, 5, 6, 9, 11, 12, 13, 16, 17, 18, 19, 22, 25, 26, 27, 30, 31, 32, 33, 34, 37, 38, 41, 44]
def ap_Now_copy : List Nat := [0, 1, 2, 5, 8, 9, 10, 13, 16, 17, 18, 21, 24, 25, 28, 29, 30, 33, 34, 36, 39, 40, 43, 44, 45, 48, 49, 51, 54, 55, 58, 59, 60, 63, 64, 66, 69, 70, 73, 74, 75, 78, 79, 81, 84]
def ap_X_back : List Nat := [0, 1, 4, 5, 6, 9, 11, 12, 13, 16, 17, 18, 19, 20, 23, 25, 26, 27, 30, 31, 34, 35, 36, 39, 40, 43, 46]
def ap_X_rings : List Nat := [0, 1, 4, 7]
def ap_Now_ringCount : List Nat := [0, 1, 2, 3, 4, 5, 6, 6, 7, 8, 11, 14, 17, 18, 19, 20, 21, 22, 25, 28, 29, 31, 32, 34, 34, 36, 37, 40, 43, 46, 47, 49, 50, 51, 52, 55, 56, 57, 59, 60, 61, 62, 63, 66, 68, 69, 71, 74, 77, 77, 80, 83, 84]
def ap_X_mend : List Nat := [0, 1, 2, 5, 6, 9, 10, 11, 14, 16, 17, 18, 21, 24, 25, 26, 27, 30, 31, 32, 33, 34, 37, 38, 39, 40, 43, 44, 47, 50, 51, 52, 55, 56, 59, 62, 63, 64]
def ap_Mend_find : List Nat := [0, 1, 4, 7, 8, 9, 12, 13, 15, 18, 19, 20, 20, 21, 22, 25, 28, 31, 32, 35, 36, 37, 38, 41, 42, 45, 46, 47, 50, 53, 54, 55, 58, 61, 61, 62, 63, 64, 65, 65, 66, 67, 70, 73, 76, 77, 80, 81, 82, 83, 86, 87, 88, 91, 92, 93, 96, 97, 98, 99, 100, 103, 104, 105, 106, 109, 110, 113, 114, 115, 118, 119, 120, 121, 122, 125, 126, 127, 128, 131, 134, 135]
def ap_Mend_placeOfOwn : List Nat := [0, 1, 2, 2, 3, 4, 7, 10, 13, 14, 17, 18, 19, 20, 23, 24, 25, 28, 31, 32]
def ap_X_show : List Nat := [0, 1, 4, 5, 8, 11, 13, 14, 15, 18, 19, 22]
def ap_Now_showable : List Nat := [0, 1, 2, 3, 4, 4, 5, 6, 9, 12, 15, 16, 19, 22, 23, 24, 25, 28, 29, 30, 33, 34, 35, 36, 37, 40, 43, 44, 45, 48, 51, 54, 57, 60, 61]
def ap_X_plan : List Nat := [0, 1, 4, 5, 6, 9, 11, 12, 13, 16, 19, 20, 23, 24, 27, 30, 33, 34, 37, 40]
def ap_Plan_find : List Nat := [0, 1, 4, 5, 6, 7, 10, 13, 14, 17, 20, 21, 22, 23, 23, 24, 25, 28, 31, 34, 35, 36, 37, 40, 43, 46, 49, 49, 50, 51, 54, 55, 58, 61, 62, 62, 63, 64, 67, 70, 73, 74, 75, 76, 79, 80, 83, 86, 86, 87, 88, 89, 92, 93, 96, 99]
def ap_Plan_charmSet : List Nat := [0, 1, 2, 3, 4, 4, 5, 6, 9, 12, 15, 16, 19, 20, 23, 26, 27, 28, 31, 34, 35, 36, 37, 38, 39, 40, 43, 46, 47]
def ap_JInteger_bitCount : List Nat := [0, 1, 2, 3, 4, 7, 8, 9, 10, 11, 14, 15, 16, 17, 18, 21, 22, 23, 24, 25, 26, 27, 28, 29, 32, 33, 34, 35, 36, 38, 39, 40, 41, 42, 43, 45, 46, 47, 48, 49, 51, 52]
def ap_Plan_weighEnds : List Nat := [0, 1, 4, 5, 6, 7, 7, 8, 10, 13, 14, 17, 18, 21, 22, 25, 26, 29, 32, 33, 34, 36, 37, 38, 39, 42, 43, 44, 47, 50]
def ap_Plan_hostPlaces : List Nat := [0, 1, 2, 3, 4, 4, 5, 6, 9, 12, 15, 16, 19, 20, 21, 24, 27, 28, 29, 30, 31, 32, 33, 36, 39, 40]
def ap_Plan_weighNight : List Nat := [0, 1, 2, 2, 3, 5, 8, 9, 12, 13, 16, 17, 20, 21, 22, 23, 24, 27, 28, 29, 30, 31, 32, 33, 34, 37, 40, 40, 41, 42, 42, 43, 44, 47, 50, 53, 54, 55, 56, 58, 58, 60, 61, 64, 67, 70, 71, 74, 75, 76, 78, 81, 84, 85, 86, 87, 89, 90, 93, 96, 99, 99, 102, 105]
def ap_Plan_weighChange : List Nat := [0, 1, 3, 3, 5, 7, 10, 12, 15, 17, 20, 21, 24, 25, 26, 27, 28, 30, 31, 32, 35, 36, 37, 38, 40, 41, 44, 45, 46, 48, 49, 52, 53, 54, 56, 57, 59, 62, 63, 66, 69]
def ap_Plan_exchanged : List Nat := [0, 1, 2, 3, 4, 5, 6, 7, 8, 9, 10, 11, 12, 13, 14, 15, 16, 17, 18, 19]
def ap_Plan_chooseChange : List Nat := [0, 1, 4, 5, 6, 7, 8, 11, 12, 13, 14, 15, 18, 19, 20, 21, 22, 23, 24, 25, 28, 29, 30, 31, 32, 35, 36, 37, 38, 39, 39, 40, 41, 44, 47, 50, 51, 52, 53, 55, 55, 57, 58, 61, 64, 67, 68, 69, 71, 74, 76, 77, 80, 81, 82, 84, 87, 90, 91, 94, 95, 96, 97, 98, 100, 101, 102, 103, 104, 107, 108, 109, 110, 111, 114, 115, 118, 119, 120, 121, 122, 125, 126, 128, 129, 130, 131, 134, 135, 136, 139, 141, 142, 145, 148, 148, 151, 154, 155]
def ap_X_planned : List Nat := [0, 1, 4, 5, 8, 11, 12, 13, 16, 19, 22, 24, 25, 26, 29, 30, 31, 34, 36, 37, 38, 41, 44, 45, 48, 49, 52, 55, 56, 57, 60, 61, 64, 67, 68, 69]
def ap_X_seen : List Nat := [0, 1, 4, 5, 8, 11, 13, 14, 15, 18, 19, 20, 23, 24, 27, 28, 29, 32, 34, 35, 36, 39, 40, 41, 42, 43, 46, 47, 50, 51, 54, 57, 58, 61, 64, 67, 69]
def ap_Seen_append : List Nat := [0, 1, 4, 6, 9, 10, 11, 12, 15, 16, 19, 20, 21, 22, 25, 26, 29, 30, 31, 32, 35, 36, 39, 40, 41, 42, 43, 46, 47, 48, 51, 52]
def ap_X_forget : List Nat := [0, 1, 4, 7, 8, 9, 12, 13, 16, 17]
def ap_X_fit : List Nat := [0, 1, 4, 7, 8, 11, 14]
def ap_Fits_weigh : List Nat := [0, 1, 2, 2, 3, 4, 7, 10, 13, 14, 17, 18, 19, 20, 23, 24, 27, 30, 30, 31, 32, 35, 38, 39, 40, 41, 42, 43, 44, 47, 48, 49, 52, 53, 54, 57, 58, 59, 62, 63, 64, 67]
def ap_Fits_allowedIn : List Nat := [0, 1, 2, 3, 4, 4, 5, 6, 9, 12, 15, 16, 19, 22, 23, 24, 25, 28, 31, 32, 33, 36, 37, 40, 41, 44, 45, 46, 49, 52, 53, 54, 55, 56, 57, 58, 61, 64, 65]
def ap_Seen_agrees : List Nat := [0, 1, 3, 3, 5, 6, 9, 12, 13, 16, 18, 19, 20, 23, 24, 25, 26, 27, 30, 32, 33, 36, 37, 40, 42, 43, 46, 47, 48, 51, 54, 55]
def ap_Fits_weighHeads : List Nat := [0, 1, 4, 5, 6, 7, 8, 9, 9, 10, 11, 14, 15, 16, 19, 20, 23, 24, 25, 26, 27, 28, 29, 31, 32, 34, 34, 36, 37, 40, 43, 46, 47, 49, 50, 51, 52, 53, 56, 58, 59, 62, 63, 64, 66, 67, 68, 69, 70, 72, 75, 78, 78, 79, 82, 83, 85, 86, 89, 92]
def ap_Fits_weighTails : List Nat := [0, 1, 4, 5, 6, 7, 8, 9, 10, 11, 11, 12, 15, 16, 19, 20, 23, 24, 25, 26, 27, 28, 29, 30, 32, 33, 35, 35, 37, 38, 41, 44, 47, 48, 50, 51, 52, 53, 54, 57, 59, 60, 63, 64, 65, 67, 68, 69, 70, 71, 73, 76, 79, 79, 80, 83, 84, 86, 87, 90, 93]
def ap_Fits_weighLying : List Nat := [0, 1, 4, 5, 8, 9, 10, 10, 11, 12, 15, 16, 19, 20, 21, 24, 25, 26, 27, 28, 29, 30, 32, 33, 35, 35, 37, 38, 41, 44, 47, 49, 51, 52, 53, 54, 55, 58, 59, 62, 63, 65, 66, 68, 69, 70, 71, 72, 75, 76, 77, 78, 81, 82, 83, 85, 86, 87, 88, 89, 90, 91, 94, 97, 97, 100, 103]
def ap_JArrays_fill : List Nat := [0, 1, 2, 3, 4, 5, 5, 6, 7, 10, 11, 12, 13, 14, 17, 20]
def ap_X_lies : List Nat := [0, 1, 4, 5, 8, 11, 13, 14, 15, 18, 21, 22, 25, 26, 29]
def ap_Fits_mayLie : List Nat := [0, 1, 2, 3, 4, 4, 5, 6, 9, 12, 15, 16, 19, 20, 22, 23, 24, 25, 26, 29, 30, 31, 32, 33, 34, 35, 38, 41, 42]
def ap_X_sure : List Nat := [0, 1, 4, 7, 8, 11, 14]
def ap_Fits_surePlaces : List Nat := [0, 1, 2, 3, 4, 4, 5, 6, 9, 12, 15, 16, 17, 20, 23, 24, 27, 28, 29, 30, 31, 32, 33, 36, 39, 40]
def ap_X_odds : List Nat := [0, 1, 4, 5, 8, 11, 13, 14, 15, 18, 19, 20, 23, 25, 26, 27, 30, 33, 34, 37, 40, 43, 45, 46, 47, 50, 51, 54, 55, 56, 57, 60, 63, 66, 68, 69, 72, 73, 76, 77, 80, 83, 85, 86]
def ap_Fits_withCharm : List Nat := [0, 1, 2, 3, 4, 4, 5, 6, 9, 12, 15, 16, 19, 20, 23, 26, 27, 28, 31, 32, 34, 35, 36, 37, 38, 39, 40, 43, 46, 47]
def ap_X_commonDivisor : List Nat := [0, 1, 2, 3, 4, 5, 7, 7, 9, 11, 14, 15, 18, 19, 20, 21, 23, 24, 25, 27, 28, 31, 34, 34, 35, 36, 39]
def ap_X_next : List Nat := [0, 1, 4, 5, 6, 9, 11, 12, 13, 16, 19, 20, 23, 26, 29, 30, 33, 36, 39, 40, 41, 42, 45, 48, 49, 50, 76, 77, 78, 79, 80, 81, 82, 83, 84, 85, 88, 89, 90, 91, 92, 93, 94, 97]
def ap_Fits_bestPair : List Nat := [0, 1, 2, 3, 4, 5, 8, 9, 10, 11, 11, 12, 13, 16, 19, 20, 21, 24, 25, 26, 27, 28, 29, 30, 31, 34, 36, 38, 39, 42, 43, 44, 46, 47, 50, 53, 54]
def ap_Fits_leftAtMost : List Nat := [0, 1, 2, 3, 5, 5, 7, 8, 11, 14, 17, 18, 21, 23, 24, 25, 28, 31, 32, 33, 36, 37, 39, 40, 42, 43, 44, 45, 46, 49, 52, 52, 53, 54, 57, 58, 59, 62]
def ap_X_apart : List Nat := [0, 1, 2, 5, 7, 8, 9, 12, 15, 16, 17, 18, 21, 22, 23, 24, 25, 28, 29, 32, 35, 36, 37, 40, 41]
def ap_Apart_find : List Nat := [0, 1, 4, 7, 8, 11, 14, 16, 19, 20, 21, 22, 25, 26, 29, 30, 31, 34, 35, 36, 37, 40, 41, 44, 45, 46, 47, 50, 51, 52, 53, 54, 55, 56, 56, 57, 58, 61, 62, 63, 64, 65, 68, 71, 72, 73, 76, 79, 80]
def ap_Apart_gather : List Nat := [0, 1, 4, 7, 8, 9, 12, 13, 16, 18, 21, 22, 23, 24, 27, 30, 33, 34, 37, 38, 39, 42, 43, 44, 47, 48, 49, 52, 55, 56, 57, 58, 59, 60, 61, 62, 63, 65, 65, 67, 68, 71, 74, 77, 78, 80, 81, 82, 83, 84, 87, 88, 91, 92, 94, 95, 96, 97, 98, 99, 100, 101, 103, 104, 105, 108, 111, 114]
def ap_Apart_noteAnswers : List Nat := [0, 1, 2, 2, 3, 4, 7, 10, 13, 14, 15, 15, 16, 17, 20, 21, 24, 25, 28, 29, 30, 31, 32, 35, 38, 39, 42, 43, 44, 45, 46, 47, 48, 49, 50, 51, 54, 55, 56, 57, 60, 63, 63, 66, 69]
def ap_Apart_choose : List Nat := [0, 1, 2, 3, 4, 5, 6, 7, 10, 13, 14, 15, 16, 17, 20, 21, 22, 25, 26, 27, 28, 30, 30, 32, 33, 36, 39, 40, 41, 44, 45, 48, 49, 51, 52, 53, 54, 55, 58, 60, 61, 64, 65, 66, 67, 68, 70, 71, 72, 73, 76, 79, 80, 81, 84, 87, 88]
def ap_Apart_isTooCoarse : List Nat := [0, 1, 2, 3, 4, 4, 5, 6, 7, 8, 11, 12, 15, 16, 17, 20, 21, 24, 25, 26, 29, 32, 33]
def ap_Apart_split : List Nat := [0, 1, 2, 3, 4, 4, 5, 6, 7, 8, 11, 12, 15, 16, 17, 18, 19, 22, 23, 24, 25, 26, 27, 28, 29, 30, 33, 34, 35, 36, 37, 38, 39, 42, 43, 44, 45, 46, 47, 50, 53]
def ap_X_came : List Nat := [0, 1, 4, 5, 6, 9, 11, 12, 13, 16, 19, 20, 23, 26, 29, 30, 31, 32, 35, 36, 39, 42, 45, 46, 49, 52]
def ap_Came_find : List Nat := [0, 1, 4, 5, 8, 9, 10, 13, 14, 15, 16, 17, 20, 21, 24, 25, 28, 29, 32, 33, 36, 39, 42, 43, 46, 46, 47, 50, 51, 54, 57, 60, 61, 64, 65, 66, 69, 70, 71, 74, 77, 77, 78, 81, 84, 85, 87, 90, 91, 92, 95, 96, 97, 97, 98, 99, 102, 105, 106, 109, 110, 111, 113, 116, 117, 118, 121, 122, 123, 126, 129, 130, 131, 134, 135, 136, 139, 140, 141, 144, 145, 148, 149, 150, 153, 156, 159, 162]
def ap_Came_list : List Nat := [0, 1, 2, 5, 8, 11, 12, 15, 18, 21, 22, 25, 26, 29, 30, 31, 32, 33, 36, 37, 38, 41, 42, 43, 45, 45, 47, 48, 51, 54, 57, 58, 61, 64, 66, 67, 68, 71, 74, 75, 76, 79, 80, 82, 83, 84, 85, 88, 89, 90, 91, 92, 93, 94, 96, 97, 98, 99, 100, 101, 103, 104, 107, 110, 113]
def ap_Came_startAtHome : List Nat := [0, 1, 4, 6, 9, 10, 13, 14, 15, 16, 17, 18, 21]
def ap_Came_goOn : List Nat := [0, 1, 4, 5, 5, 6, 9, 10, 11, 11, 12, 13, 16, 19, 20, 23, 24, 25, 26, 29, 30, 31, 34, 35, 36, 37, 38, 39, 42, 45, 48, 48, 51, 54]
def ap_Came_spread : List Nat := [0, 1, 2, 2, 3, 4, 7, 10, 13, 14, 15, 16, 18, 18, 20, 21, 24, 27, 30, 31, 34, 35, 38, 39, 41, 44, 47, 48, 49, 50, 51, 53, 56, 59, 61, 62, 65, 67, 68, 71, 73, 74, 75, 78, 79, 82, 85, 85, 88, 91]
def ap_Came_exchanged : List Nat := [0, 1, 2, 3, 6, 7, 8, 9, 10, 13, 14, 15, 17, 18, 20, 21, 23, 24, 25, 28, 29, 31, 32, 33, 36, 37, 38, 39]
def ap_Came_shiftOf : List Nat := [0, 1, 2, 5, 8, 9, 10, 11, 12, 13]
def ap_Came_indexOf : List Nat := [0, 1, 2, 3, 6, 7, 8, 9, 10, 12, 12, 14, 16, 19, 20, 21, 24, 25, 26, 27, 28, 29, 31, 32, 35, 37, 38, 39, 42, 44, 45, 46, 47, 50, 52, 53, 56, 59, 60]
def ap_Came_isFit : List Nat := [0, 1, 2, 2, 3, 4, 7, 10, 13, 14, 15, 16, 19, 20, 22, 23, 24, 25, 28, 31, 32, 33, 34, 35, 36, 37, 40, 41, 42, 45, 48, 49]
def ap_X_count : List Nat := [0, 1, 56, 57, 60, 63, 64, 65, 68, 71, 72, 73, 76, 79, 80, 81, 84, 87, 88, 89, 92, 95, 96, 97, 100, 103, 104, 105, 108, 111, 112, 113, 116, 119, 120, 121, 124, 127, 128, 129, 132, 135, 136, 138]
def ap_Now_atHome : List Nat := [0, 1, 2, 3, 4, 4, 5, 6, 9, 12, 15, 16, 19, 20, 21, 22, 25, 26, 27, 28, 29, 30, 31, 34, 37, 38]
def ap_Told_arrangements : List Nat := [0, 1, 2, 3, 4, 4, 5, 6, 9, 12, 13, 14, 15, 17, 17, 19, 20, 23, 24, 27, 29, 30, 31, 34, 35, 36, 39, 42, 45, 48, 48, 49, 50, 51, 52, 55, 58, 59]
def ap_M_write : List Nat := [0, 1, 2, 5, 8, 11, 13, 14, 15, 18, 21, 24, 26, 27, 28, 31, 32, 35, 36, 37, 38, 39, 42, 43, 44, 47, 48, 51]
def ap_M_in : List Nat := [0, 1, 2, 5, 6, 7, 10, 11, 14, 15]
def ap_M_erase : List Nat := [0, 1, 4, 5, 6, 7, 10, 11]
def ap_M_fault : List Nat := [0, 1, 4, 7, 8, 11, 12, 15]
def ap_M_isRead : List Nat := [0, 1, 2, 5, 6, 7, 10, 11, 12, 15, 18, 19, 20, 23, 26, 27, 28, 31, 34, 35, 36, 36, 37, 40, 41, 42, 43, 46, 47, 50, 53, 54, 55, 56, 57, 60, 61, 62, 65, 66, 69, 70, 73, 76, 77, 80, 81, 84, 86, 89, 90, 93, 94, 95, 98, 98, 99, 102, 105, 106, 109, 110, 113, 116, 117, 120, 121]
def ap_M_isLine : List Nat := [0, 1, 4, 5, 8, 11, 12, 15, 16, 19, 20, 23, 26, 27, 30, 31, 34, 35, 38, 41, 42, 45, 46, 49, 50, 53, 56, 57, 60, 61, 64, 65, 68, 71, 72, 75, 76, 79, 80, 83, 86, 87, 90, 91, 94, 95, 96, 96, 97, 100, 103, 104, 107, 109, 112, 113, 116, 119, 120, 123, 125, 128, 129, 132, 135, 136, 139, 141, 144, 145, 148, 151, 152, 155, 157, 160, 161, 164, 167, 168, 171, 173, 176, 177, 178, 178, 179, 182, 183, 184, 185, 188, 189, 192, 193, 194, 194, 195, 198, 199, 200, 260, 261, 264, 265, 266, 267, 270, 271, 272, 273, 276, 277, 278, 281, 282, 283, 286, 287, 288, 289, 290, 293, 294, 295, 296, 297, 298, 299, 302, 303, 304, 307, 310, 311, 312, 313, 314, 316, 319, 322, 323, 326, 327, 328, 329, 332]
def ap_M_nextToken : List Nat := [0, 0, 1, 4, 5, 8, 11, 12, 15, 16, 19, 20, 22, 25, 26, 27, 30, 31, 32, 35, 38, 38, 39, 40, 43, 46, 47, 48, 51, 52, 53, 56, 57, 60, 61, 64, 67, 68, 71, 74, 77, 78, 81, 82, 85, 86, 88, 90, 93, 96, 97, 98, 101, 101, 102, 105, 106, 109, 112, 113, 116, 117, 120, 121, 123, 125, 128, 131, 132, 133, 136, 137, 140, 141, 143, 146, 149, 150, 153, 154, 155, 158, 159, 162, 163, 164, 165, 168, 169, 172, 175, 178, 179, 180, 183, 184, 185, 188, 191, 191, 192, 193, 196, 197, 200, 201, 203, 206, 209, 212, 213, 216, 219, 222, 223, 226, 227, 230, 231, 233, 235, 238, 241, 241, 242, 245, 246, 249, 252, 253, 256, 257, 260, 261, 263, 265, 268, 271, 272, 273, 276, 277, 280, 282, 283, 286, 287, 288, 291, 292, 295, 296, 297, 299, 300, 303, 304, 307, 310, 311, 312, 315, 316, 317, 320, 321, 322, 325, 326, 327, 330, 333, 333, 334, 335, 338, 339, 342, 345, 348, 351, 354, 357, 358, 359, 362, 363, 366, 367, 369, 372, 375, 378, 381, 384, 385, 386, 389, 390, 391, 394]
def ap_M_isPersonLine : List Nat := [0, 1, 4, 5, 8, 9, 12, 13, 14, 15, 18, 19, 20, 23, 24]
def ap_M_fails : List Nat := [0, 1, 2, 5, 8, 9]
def ap_M_isThingLine : List Nat := [0, 1, 4, 6, 9, 10, 13, 14, 15, 16, 19, 20, 21, 24, 25, 28, 29, 30, 31, 32, 33, 34, 37, 38, 39, 40, 41, 42, 43, 46, 47, 48, 49, 50, 51, 52, 53, 54, 55, 56, 59, 62, 63, 64, 65, 66, 67, 70, 71, 72, 75, 78, 79, 80, 81, 84, 85, 86, 87, 88, 89, 92, 95, 96, 97, 100, 101, 102, 103, 104, 106, 109, 112, 113, 116, 117]
def ap_M_isNumber : List Nat := [0, 1, 4, 5, 8, 11, 12, 15, 16, 19, 20, 23, 24, 27, 28, 29, 32, 33, 34, 37, 38, 39]
def ap_M_isNightLine : List Nat := [0, 1, 4, 6, 9, 10, 13, 14, 15, 16, 19, 20, 21, 24, 25, 26, 27, 28, 29, 30, 33, 34, 35, 36, 39]
def ap_M_inn : List Nat := [0, 1, 4, 7, 9, 10, 11, 12, 12, 13, 14, 17, 20, 21, 22, 23, 24, 27, 30, 33, 33, 34, 35, 38, 39, 40, 40, 41, 43, 46, 47, 50, 51, 52, 53, 56, 59, 59, 60, 61, 61, 62, 63, 66, 69, 70, 73, 74, 75, 76, 77, 80, 82, 83, 84, 85, 88, 89, 90, 91, 92, 93, 94, 95, 98, 101, 101, 102, 103, 106, 107, 110, 111, 112, 113, 114, 117, 118, 119, 120, 121, 124]
def ap_M_doLine : List Nat := [0, 1, 4, 5, 6, 7, 8, 9, 12, 13, 16, 17, 20, 21, 22, 23, 24, 27, 28, 29, 32, 35, 36, 38, 41, 42, 45, 46, 47, 50, 51, 52, 53, 54, 55, 56, 57, 57, 58, 59, 62, 63, 66, 67, 68, 71, 72, 73, 74, 75, 78, 79, 80, 81, 82, 83, 86, 89, 89, 90, 91, 94, 95, 96, 99, 102, 103, 105, 108, 109, 110, 113, 114, 115, 118, 119, 120, 123, 126, 127, 129, 132, 133, 136, 137, 140, 141, 144, 145, 146, 147, 148, 149, 150, 151, 154, 155, 156, 159, 162, 163, 166, 167, 168, 171, 172, 173, 174, 175, 176, 177, 178, 179, 182, 183, 184, 185, 186, 187]
def ap_M_one : List Nat := [0, 1, 2, 5, 8, 10, 11, 12, 13, 14, 16, 16, 18, 19, 22, 25, 26, 27, 29, 32, 33, 36, 37, 39, 40, 43, 44, 45, 46, 49, 52, 52, 53, 84, 85, 88, 89, 90, 91, 92, 93, 94, 97, 99, 100, 101, 102, 103, 104, 105, 106, 107, 110, 111, 113]
def ap_M_isOne : List Nat := [0, 1, 2, 3, 6, 7, 8, 11]
def ap_M_keeperOf : List Nat := [0, 1, 4, 5, 6, 7, 8, 9, 10]
def ap_M_nightsOf : List Nat := [0, 1, 2, 3, 4, 4, 5, 6, 9, 12, 13, 14, 17, 18, 19, 20, 23, 24, 27, 28, 29, 30, 33, 36, 37, 38, 39, 42, 43, 44, 45, 48, 51, 52]
def ap_M_has : List Nat := [0, 1, 2, 3, 4, 5, 6, 9, 10, 13, 14]
def ap_M_as : List Nat := [0, 1, 2, 5, 8, 10, 11, 12, 13, 14, 17, 20, 22, 23, 24, 27, 28, 29, 30, 31, 34, 35, 36, 39, 40, 41, 44, 47, 48, 49, 50, 51, 54, 55, 58, 59, 61, 62, 64, 65, 67, 67, 69, 70, 73, 76, 78, 79, 81, 84, 85, 88, 89, 90, 93, 95, 96, 99, 100, 103, 104, 107, 108, 109, 111, 114, 117, 117, 119, 122, 124, 127, 129]
def ap_M_thing : List Nat := [0, 1, 2, 5, 8, 10, 11, 12, 52, 53, 54, 57, 58, 59, 60, 63, 64, 65, 66, 69, 70, 71, 74, 76, 77, 78, 79, 80, 81, 82, 85, 86, 87, 90, 92, 93, 94, 95, 96, 98]
def ap_M_isPlace : List Nat := [0, 1, 2, 3, 6, 7, 8, 11]
def ap_M_kindOf : List Nat := [0, 1, 4, 5, 6, 7, 8]
def ap_M_lookOf : List Nat := [0, 1, 4, 5, 6, 7, 8, 9, 10]
def ap_M_wordOf : List Nat := [0, 1, 4, 5, 6, 7, 8, 9, 10]
def ap_M_whereIs : List Nat := [0, 1, 2, 2, 3, 4, 7, 10, 11, 14, 15, 16, 17, 20, 21, 22, 25, 28, 29]
def ap_M_thingAs : List Nat := [0, 1, 2, 5, 8, 10, 11, 12, 13, 14, 17, 20, 22, 23, 24, 25, 28, 29, 30, 33, 34, 35, 38, 39, 42, 45, 46, 47, 50, 51, 54, 57, 58, 59, 62, 63, 64, 67, 68, 69, 72, 75, 76, 77, 80, 81, 82, 85, 88, 89, 90, 93, 94, 97, 98, 100, 100, 102, 105, 107, 110, 111, 112, 113, 114, 117, 118, 119, 122, 125, 128, 129, 132, 133]
def ap_M_works : List Nat := [0, 1, 2, 3, 6, 9, 10, 11, 12, 13, 16, 44, 45, 46, 47, 48, 49, 52, 54, 55, 56, 57, 60, 61, 64, 65, 66, 67, 68, 71, 72, 73, 76, 79, 80, 81, 82, 85, 88, 89, 92, 93]
def ap_M_isKeptBy : List Nat := [0, 1, 4, 5, 6, 9, 10, 11, 14, 15, 18, 19]
def ap_M_place : List Nat := [0, 1, 2, 5, 8, 10, 11, 12, 15, 16, 17, 20, 23, 24, 25, 28, 29, 32, 33, 34, 37, 38, 39, 42, 43, 46, 48, 49, 50, 51, 54, 56]
def ap_M_may : List Nat := [0, 1, 2, 3, 6, 7, 8, 11, 14, 15, 16, 19, 22, 23, 24, 27, 30, 32, 33, 34, 35, 38, 40, 43, 44, 45, 46, 47, 50, 53, 54, 57, 58]
def ap_M_mayBe : List Nat := [0, 1, 2, 5, 6, 7, 10, 11, 12, 15, 18, 19, 20, 21, 24, 27, 28, 29, 30, 33, 36, 37, 40, 41]
def ap_M_isOpen : List Nat := [0, 1, 2, 3, 6, 9, 10, 13, 14, 15, 16, 17, 20, 23, 26, 27, 28, 29, 32, 35, 36, 39, 40]
def ap_M_pass : List Nat := [0, 1, 2, 5, 6, 7, 10, 13, 14, 15, 18, 19, 20, 23, 26, 28, 29, 30, 31, 34, 35, 36, 39, 40, 43, 44, 45, 45, 46, 49, 50, 51, 54, 55, 56, 59, 60, 61, 64, 66, 67, 67, 68, 71, 73, 74, 75, 78, 81, 82, 85, 86, 87, 90, 92, 93, 94, 95, 98, 101, 103, 104, 104, 105, 108, 110, 111, 112, 113, 114, 115, 116, 119, 120, 123, 124, 125, 127, 128, 131, 132, 133, 136, 137, 138, 139, 140, 143, 144, 146, 147, 148, 151, 153, 154, 155, 156, 157, 158, 159, 162, 164, 165, 166, 167, 168, 169, 170, 171, 172, 175, 177, 178, 179, 180, 181, 182, 183, 184, 184, 185, 188, 190, 191]
def ap_M_say : List Nat := [0, 1, 2, 5, 8, 10, 11, 12, 13, 14, 17, 20, 22, 23, 24, 27, 28, 29, 30, 31, 32, 33, 34, 37, 39, 41, 44, 45, 48, 50, 51, 52, 53, 54, 55, 56, 57, 58, 61, 63, 64, 65, 66, 67, 68, 69, 72, 73, 76, 77, 80, 81, 82, 83, 86, 87, 88, 89, 92, 95, 96, 97, 100, 103, 104, 105, 108, 109, 112, 113, 116, 118, 119, 122, 124, 125, 126, 127, 128, 131, 132, 133, 134, 134, 136, 139, 140, 143, 144]
def ap_M_keep : List Nat := [0, 1, 2, 3, 6, 9, 11, 12, 13, 14, 14, 15, 17, 20, 21, 24, 26, 27, 28, 29, 30, 31, 34, 35, 36, 37, 40, 43, 43, 44, 47, 48, 49, 50, 51, 54, 56, 57]
def ap_M_back : List Nat := [0, 1, 2, 3, 6, 9, 11, 12, 13, 16, 17, 18, 21, 23, 24, 25, 26, 26, 27, 29, 32, 33, 36, 37, 38, 41, 43, 44, 45, 46, 47, 48, 49, 52, 55, 55, 56, 59, 61, 62]
def ap_M_rings : List Nat := [0, 1, 2, 3, 4, 5, 6, 6, 7, 8, 11, 14, 15, 16, 17, 20, 23, 24, 27, 28, 29, 30, 31, 33, 33, 34, 36, 39, 42, 43, 44, 46, 47, 48, 49, 50, 53, 55, 56, 58, 61, 61, 64, 67, 68]
def ap_M_mend : List Nat := [0, 1, 2, 5, 6, 7, 8, 11, 14, 16, 17, 18, 19, 19, 20, 21, 24, 27, 28, 31, 32, 33, 36, 37, 38, 39, 40, 41, 42, 45, 48, 49, 52, 53, 54, 55, 58, 59, 60, 63, 66, 66, 67, 68, 69, 71, 71, 73, 74, 77, 80, 81, 84, 86, 87, 89, 92, 94, 95, 96, 98, 98, 99, 102, 104, 105, 107, 110, 113, 116, 116, 117, 118, 121, 122, 125, 127, 130, 132, 133, 134, 137, 139, 140, 143, 145, 146, 147, 148, 151, 153, 155, 156, 159, 162, 165, 165, 166, 167, 170, 171, 174, 175]
def ap_M_show : List Nat := [0, 1, 2, 5, 8, 10, 11, 12, 13, 14, 15, 15, 16, 17, 20, 23, 24, 25, 26, 29, 30, 33, 34, 35, 38, 39, 40, 41, 42, 43, 46, 49, 52, 53, 56, 57, 58, 59, 62, 65, 66]
def ap_M_plan : List Nat := [0, 1, 2, 3, 6, 9, 11, 12, 13, 16, 17, 20, 21, 24, 27, 28, 31, 33, 34, 35, 36, 39, 40, 41, 42, 43, 45, 46, 48, 49, 50, 51, 54, 55, 58, 60, 61, 62, 63, 64]
def ap_M_layPlan : List Nat := [0, 1, 4, 5, 5, 6, 7, 10, 12, 13, 16, 17, 18, 18, 19, 20, 23, 26, 27, 28, 31, 32, 33, 34, 37, 40, 43, 44, 47, 48, 49, 52, 55, 56, 58, 58, 60, 61, 64, 67, 68, 69, 71, 72, 75, 78, 79, 80, 83, 85, 86, 89, 92, 94, 97, 98, 99, 100, 103, 106, 106, 109, 110, 113, 116, 117, 118, 119, 120, 121, 122, 123, 124, 125, 127, 127, 129, 130, 133, 136, 138, 139, 140, 142, 142, 144, 145, 148, 151, 152, 153, 155, 157, 160, 163, 164, 165, 167, 169, 172, 175, 178, 180, 182, 183, 186, 188, 191, 192, 193, 196, 199, 199, 202, 205, 205, 206, 209, 212, 213, 214, 215, 216, 217, 218, 221, 224, 224, 227, 230]
def ap_M_rowMany : List Nat := [0, 1, 2, 3, 4, 4, 5, 6, 9, 12, 13, 14, 15, 16, 19, 22, 23]
def ap_M_lay : List Nat := [0, 1, 2, 3, 4, 5, 8, 10, 11, 13, 13, 15, 16, 19, 22, 24, 25, 28, 30, 31, 32, 34, 35, 37, 38, 40, 41, 43, 44, 45, 46, 48, 48, 49, 51, 54, 57, 59, 62, 64, 65, 67, 70, 73, 74, 77, 78, 79, 81, 84, 87, 87, 88, 91, 93, 95, 96, 97, 98, 100, 101, 102, 103, 106, 109]
def ap_M_isLawful : List Nat := [0, 1, 2, 3, 4, 4, 5, 6, 9, 12, 13, 16, 17, 18, 21, 22, 23, 26, 27, 28, 31, 34, 35, 38, 39, 40, 43, 46, 47]
def ap_M_by : List Nat := [0, 1, 2, 3, 6, 7, 10, 13, 14, 15, 16, 17, 18, 21, 22, 23, 24, 25, 27, 28, 29, 30, 33, 35]
def ap_M_exchange : List Nat := [0, 1, 4, 5, 6, 7, 8, 11, 12, 13, 16, 17, 18, 19, 20, 23, 24, 25, 26]
def ap_M_rowOf : List Nat := [0, 1, 2, 3, 4, 5, 6, 6, 7, 8, 11, 14, 15, 17, 18, 20, 20, 22, 23, 26, 27, 28, 31, 33, 34, 36, 39, 42, 43, 46, 47, 48, 50, 53, 56, 56, 57, 58, 61, 62, 63, 64, 66, 67, 68, 69, 70, 71, 74, 75, 76, 77, 78, 79, 82, 85, 86]
def ap_M_layNow : List Nat := [0, 1, 2, 2, 3, 4, 7, 10, 11, 14, 15, 16, 19, 20, 21, 22, 25, 28]
def ap_M_planned : List Nat := [0, 1, 2, 5, 7, 8, 9, 12, 13, 14, 17, 20, 22, 23, 24, 25, 26, 29, 32, 34, 35, 36, 39, 40, 43, 44, 45, 46, 48, 49, 52, 54, 55, 57, 57, 59, 60, 63, 64, 67, 70, 72, 73, 74, 77, 78, 79, 81, 82, 83, 84, 86, 87, 90, 93, 95, 96, 97, 98, 99, 102, 103, 104, 106, 109, 110, 113, 114, 116, 117, 119, 119, 121, 122, 125, 128, 130, 133, 135, 136, 137, 139, 139, 141, 142, 145, 148, 150, 153, 154, 156, 158, 160, 163, 166, 167, 169, 171, 173, 176, 178, 181, 183, 184, 186, 188, 189, 191, 194, 197, 197, 200, 203, 203, 204, 205, 208, 209, 210, 212, 215, 218, 221, 221, 222, 225, 226, 229, 231]
def ap_M_seen : List Nat := [0, 1, 2, 5, 8, 10, 11, 12, 13, 14, 17, 20, 21, 22, 23, 26, 29, 31, 32, 33, 36, 38, 41, 43, 44, 45, 48, 49, 50, 53, 54, 55, 56, 57, 60, 61, 62, 65, 66, 67, 68, 69, 70, 71, 74, 75, 76, 79, 80, 81, 82, 83, 84, 85, 86, 89, 90, 91, 94, 95, 98]
def ap_M_forget : List Nat := [0, 1, 4, 5, 6, 7, 10, 11]
def ap_M_fit : List Nat := [0, 1, 4, 5, 8]
def ap_M_layFitting : List Nat := [0, 1, 2, 5, 6, 7, 7, 8, 9, 12, 15, 16, 17, 20, 21, 24, 27, 28, 31, 34, 35, 38, 39, 42, 43, 44, 45, 46, 49, 50, 51, 54, 57, 60]
def ap_M_isAsSeen : List Nat := [0, 1, 2, 3, 4, 4, 5, 6, 9, 12, 13, 16, 17, 18, 19, 20, 21, 22, 25, 26, 27, 30, 31, 32, 33, 34, 37, 38, 39, 40, 41, 42, 43, 46, 47, 50, 51, 52, 53, 54, 55, 56, 57, 60, 61, 64, 65, 68, 69, 72, 73, 74, 77, 80, 81]
def ap_M_lies : List Nat := [0, 1, 2, 5, 8, 10, 11, 12, 15, 16, 17, 20]
def ap_M_liesIn : List Nat := [0, 1, 2, 3, 4, 4, 5, 6, 9, 12, 13, 14, 17, 18, 19, 22, 23, 24, 25, 28, 29, 30, 31, 32, 33, 36, 39, 40]
def ap_M_sure : List Nat := [0, 1, 4, 5, 6, 7, 8, 8, 9, 10, 13, 16, 17, 18, 21, 22, 23, 24, 27, 28, 29, 30, 31, 32, 35, 36, 37, 38, 41, 42, 43, 44, 47, 50, 51]
def ap_M_odds : List Nat := [0, 1, 2, 5, 8, 10, 11, 12, 13, 14, 17, 20, 22, 23, 24, 27, 28, 31, 34, 36, 37, 38, 39, 40, 42, 42, 44, 45, 48, 51, 52, 53, 56, 58, 59, 62, 63, 64, 65, 68, 69, 70, 73, 76, 77, 80, 81, 82, 83, 86, 89, 89, 90, 92, 93, 96, 98, 98, 100, 103, 105, 107, 108, 110, 112, 114, 116, 118, 121, 121, 122, 125, 126, 129, 130, 133, 135, 136]
def ap_M_next : List Nat := [0, 1, 2, 3, 6, 9, 11, 12, 13, 16, 17, 18, 19, 20, 21, 23, 23, 25, 26, 27, 30, 31, 34, 35, 38, 41, 42, 44, 45, 47, 47, 49, 50, 53, 56, 57, 58, 61, 63, 64, 67, 69, 70, 71, 74, 76, 77, 78, 79, 81, 82, 83, 85, 86, 87, 90, 93, 94, 97, 98, 99, 101, 104, 107, 107, 109, 110, 113, 115, 116, 119, 121, 124, 125, 128, 130, 131, 133, 134, 135, 138, 140, 141, 144, 145, 148, 149, 151, 153, 156, 158, 161, 162, 163, 165, 168, 170, 173, 174, 175, 178, 181, 181, 182, 183, 186, 187, 188, 191, 192, 195, 196, 199, 200, 201, 202, 205, 206, 207, 208]
def ap_M_apart : List Nat := [0, 1, 2, 5, 7, 8, 9, 12, 13, 14, 15, 16, 17, 19, 19, 20, 21, 24, 25, 26, 29, 30, 33, 35, 38, 39, 42, 43, 44, 47, 48, 51, 53, 54, 55, 57, 60, 60, 61, 62, 65, 66, 67, 68, 69, 72, 73, 74, 75, 76, 77, 79, 80, 82, 82, 84, 85, 86, 89, 90, 93, 94, 96, 99, 102, 104, 107, 109, 110, 113, 116, 119, 120]
def ap_M_layAnswers : List Nat := [0, 1, 4, 5, 6, 6, 7, 8, 11, 14, 15, 16, 19, 20, 21, 24, 25, 28, 29, 30, 31, 32, 33, 33, 34, 35, 36, 39, 40, 43, 44, 47, 48, 49, 52, 53, 54, 55, 56, 59, 60, 61, 62, 63, 64, 65, 66, 67, 68, 69, 72, 75, 76, 77, 78, 81, 82, 83, 84, 87, 90, 90, 93, 96]
def ap_M_leastOf : List Nat := [0, 1, 2, 5, 6, 7, 8, 11, 12, 15, 16, 17, 18, 20, 20, 22, 23, 26, 27, 28, 31, 33, 34, 35, 38, 39, 41, 41, 43, 44, 45, 48, 49, 52, 53, 56, 57, 58, 61, 63, 64, 65, 68, 69, 71, 71, 73, 74, 75, 78, 79, 82, 83, 86, 87, 88, 91, 93, 94, 95, 98, 99, 101, 101, 103, 104, 105, 108, 109, 112, 113, 116, 117, 120, 121, 123, 124, 127, 128, 129, 130, 133, 134, 136, 137, 140, 141, 142, 143, 144, 147, 148, 150, 151, 154, 155, 156, 157, 158, 161, 162, 164, 165, 168, 169, 170, 172, 173, 175, 178, 181, 183, 184, 187, 190, 190, 193, 196, 196, 199, 202, 202, 205, 208, 209]
def ap_M_parts : List Nat := [0, 1, 2, 2, 3, 4, 7, 10, 11, 12, 12, 13, 14, 17, 18, 21, 22, 23, 24, 27, 28, 29, 30, 31, 32, 35, 36, 37, 40, 43, 43, 46, 49, 50]
def ap_M_came : List Nat := [0, 1, 2, 3, 6, 9, 11, 12, 13, 16, 17, 20, 22, 23, 24, 25, 26, 28, 28, 30, 31, 34, 37, 38, 41, 42, 45, 47, 48, 49, 51, 53, 54, 57, 59, 62, 63, 64, 65, 67, 69, 72, 73, 76, 77, 78, 79, 82, 85, 85, 86, 89, 90, 93, 94, 97, 98, 101, 102]
def ap_M_layCame : List Nat := [0, 1, 2, 2, 3, 4, 7, 10, 11, 14, 15, 16, 19, 20, 23, 25, 26, 29, 32, 32, 33, 34, 34, 35, 36, 39, 41, 42, 45, 46, 47, 47, 48, 49, 52, 55, 56, 59, 62, 63, 64, 65, 68, 69, 70, 71, 74, 77, 77, 78, 79, 79, 80, 81, 84, 87, 88, 89, 89, 90, 91, 94, 95, 98, 99, 102, 103, 106, 107, 108, 110, 113, 114, 115, 118, 119, 121, 122, 123, 126, 127, 129, 131, 133, 136, 137, 138, 140, 142, 145, 148, 149, 150, 153, 154, 156, 158, 161, 164, 165, 168, 169, 171, 172, 175, 177, 178, 181, 182, 183, 184, 185, 186, 189, 191, 192, 195, 196, 199, 200, 201, 202, 203, 206, 207, 210, 212, 213, 214, 217, 220, 220, 223, 226, 226, 227, 228, 228, 229, 230, 233, 236, 237, 240, 241, 242, 245, 248, 249, 250, 251, 252, 255, 258, 258, 261, 264]
def ap_M_count : List Nat := [0, 1, 2, 3, 4, 5, 7, 7, 9, 10, 13, 16, 17, 18, 21, 23, 24, 26, 29, 30, 32, 33, 36, 37, 38, 39, 42, 45, 45, 46, 100, 101, 104, 105, 106, 109, 110, 111, 114, 115, 116, 119, 121, 122, 123, 124, 127, 129, 130, 131, 132, 135, 137, 138, 139, 140, 141, 142, 144, 144, 146, 147, 150, 153, 154, 156, 159, 160, 161, 164, 167, 168, 171, 172, 173, 174, 177, 180, 181, 182, 183, 186, 187, 188, 191, 192, 194]
def ax_pcsL : List (List Nat) := [ap_X_write, ap_Text_append, ap_X_erase, ap_X_fault, ap_Text_read, ap_Text_step, ap_Text_isLetter, ap_Text_isDigit, ap_Text_wordHere, ap_Text_spelling, ap_Text_standsHere, ap_JString_length, ap_JString_coder, ap_JString_charAt, ap_JString_isLatin1, ap_JStringLatin1_charAt, ap_JString_checkIndex, ap_JPreconditions_checkIndex, ap_Text_hasRoom, ap_Text_isOfPeople, ap_Text_isOfThings, ap_Text_numbersOf, ap_Text_readNumbers, ap_Text_numberHere, ap_Text_bound, ap_Text_grow, ap_X_inn, ap_Told_doLine, ap_Told_addOne, ap_Told_addThing, ap_Text_numberOf, ap_JString_indexOf, ap_JString_indexOf2, ap_JStringLatin1_indexOf, ap_JStringLatin1_canEncode, ap_JStringLatin1_indexOfChar, ap_Told_addNight, ap_Told_tellPower, ap_Told_hasThing, ap_Now_begin, ap_Came_begin, ap_X_one, ap_Told_hasOne, ap_Told_placesOf, ap_Told_nightsOf, ap_Told_sleeps, ap_X_as, ap_X_isUnder, ap_Now_ownWith, ap_X_thing, ap_Now_placeOf, ap_X_thingAs, ap_Now_works, ap_Told_isKeptBy, ap_X_place, ap_X_may, ap_Told_hasNight, ap_Told_allows, ap_Told_isOpen, ap_X_pass, ap_Now_change, ap_X_say, ap_Now_hear, ap_Told_isCharm, ap_X_keep, ap_Now_copy, ap_X_back, ap_X_rings, ap_Now_ringCount, ap_X_mend, ap_Mend_find, ap_Mend_placeOfOwn, ap_X_show, ap_Now_showable, ap_X_plan, ap_Plan_find, ap_Plan_charmSet, ap_JInteger_bitCount, ap_Plan_weighEnds, ap_Plan_hostPlaces, ap_Plan_weighNight, ap_Plan_weighChange, ap_Plan_exchanged, ap_Plan_chooseChange, ap_X_planned, ap_X_seen, ap_Seen_append, ap_X_forget, ap_X_fit, ap_Fits_weigh, ap_Fits_allowedIn, ap_Seen_agrees, ap_Fits_weighHeads, ap_Fits_weighTails, ap_Fits_weighLying, ap_JArrays_fill, ap_X_lies, ap_Fits_mayLie, ap_X_sure, ap_Fits_surePlaces, ap_X_odds, ap_Fits_withCharm, ap_X_commonDivisor, ap_X_next, ap_Fits_bestPair, ap_Fits_leftAtMost, ap_X_apart, ap_Apart_find, ap_Apart_gather, ap_Apart_noteAnswers, ap_Apart_choose, ap_Apart_isTooCoarse, ap_Apart_split, ap_X_came, ap_Came_find, ap_Came_list, ap_Came_startAtHome, ap_Came_goOn, ap_Came_spread, ap_Came_exchanged, ap_Came_shiftOf, ap_Came_indexOf, ap_Came_isFit, ap_X_count, ap_Now_atHome, ap_Told_arrangements, ap_M_write, ap_M_in, ap_M_erase, ap_M_fault, ap_M_isRead, ap_M_isLine, ap_M_nextToken, ap_M_isPersonLine, ap_M_fails, ap_M_isThingLine, ap_M_isNumber, ap_M_isNightLine, ap_M_inn, ap_M_doLine, ap_M_one, ap_M_isOne, ap_M_keeperOf, ap_M_nightsOf, ap_M_has, ap_M_as, ap_M_thing, ap_M_isPlace, ap_M_kindOf, ap_M_lookOf, ap_M_wordOf, ap_M_whereIs, ap_M_thingAs, ap_M_works, ap_M_isKeptBy, ap_M_place, ap_M_may, ap_M_mayBe, ap_M_isOpen, ap_M_pass, ap_M_say, ap_M_keep, ap_M_back, ap_M_rings, ap_M_mend, ap_M_show, ap_M_plan, ap_M_layPlan, ap_M_rowMany, ap_M_lay, ap_M_isLawful, ap_M_by, ap_M_exchange, ap_M_rowOf, ap_M_layNow, ap_M_planned, ap_M_seen, ap_M_forget, ap_M_fit, ap_M_layFitting, ap_M_isAsSeen, ap_M_lies, ap_M_liesIn, ap_M_sure, ap_M_odds, ap_M_next, ap_M_apart, ap_M_layAnswers, ap_M_leastOf, ap_M_parts, ap_M_came, ap_M_layCame, ap_M_count]
def ax_yL : List MethodName := [⟨"InnChanged", "write", "(I)I"⟩,
  ⟨"InnChanged$Text", "append", "(I)Z"⟩,
  ⟨"InnChanged", "erase", "()I"⟩,
  ⟨"InnChanged", "fault", "()I"⟩,
  ⟨"InnChanged$Text", "read", "(III)I"⟩,
  ⟨"InnChanged$Text", "step", "()V"⟩,
  ⟨"InnChanged$Text", "isLetter", "(I)Z"⟩,
  ⟨"InnChanged$Text", "isDigit", "(I)Z"⟩,
  ⟨"InnChanged$Text", "wordHere", "()I"⟩,
  ⟨"InnChanged$Text", "spelling", "(I)Ljava/lang/String;"⟩,
  ⟨"InnChanged$Text", "standsHere", "(Ljava/lang/String;)Z"⟩,
  ⟨"java/lang/String", "length", "()I"⟩,
  ⟨"java/lang/String", "coder", "()B"⟩,
  ⟨"java/lang/String", "charAt", "(I)C"⟩,
  ⟨"java/lang/String", "isLatin1", "()Z"⟩,
  ⟨"java/lang/StringLatin1", "charAt", "([BI)C"⟩,
  ⟨"java/lang/String", "checkIndex", "(II)V"⟩,
  ⟨"jdk/internal/util/Preconditions", "checkIndex", "(IILjava/util/function/BiFunction;)I"⟩,
  ⟨"InnChanged$Text", "hasRoom", "(I)Z"⟩,
  ⟨"InnChanged$Text", "isOfPeople", "(I)Z"⟩,
  ⟨"InnChanged$Text", "isOfThings", "(I)Z"⟩,
  ⟨"InnChanged$Text", "numbersOf", "(I)Ljava/lang/String;"⟩,
  ⟨"InnChanged$Text", "readNumbers", "(ILjava/lang/String;)Z"⟩,
  ⟨"InnChanged$Text", "numberHere", "()I"⟩,
  ⟨"InnChanged$Text", "bound", "(C)I"⟩,
  ⟨"InnChanged$Text", "grow", "(I)V"⟩,
  ⟨"InnChanged", "inn", "()I"⟩,
  ⟨"InnChanged$Told", "doLine", "(LInnChanged$Text;I)V"⟩,
  ⟨"InnChanged$Told", "addOne", "(I)V"⟩,
  ⟨"InnChanged$Told", "addThing", "(ILInnChanged$Text;I)V"⟩,
  ⟨"InnChanged$Text", "numberOf", "(IC)I"⟩,
  ⟨"java/lang/String", "indexOf", "(I)I"⟩,
  ⟨"java/lang/String", "indexOf", "(II)I"⟩,
  ⟨"java/lang/StringLatin1", "indexOf", "([BIII)I"⟩,
  ⟨"java/lang/StringLatin1", "canEncode", "(I)Z"⟩,
  ⟨"java/lang/StringLatin1", "indexOfChar", "([BIII)I"⟩,
  ⟨"InnChanged$Told", "addNight", "(I)V"⟩,
  ⟨"InnChanged$Told", "tellPower", "(II)V"⟩,
  ⟨"InnChanged$Told", "hasThing", "(I)Z"⟩,
  ⟨"InnChanged$Now", "begin", "()V"⟩,
  ⟨"InnChanged$Came", "begin", "()V"⟩,
  ⟨"InnChanged", "one", "(II)I"⟩,
  ⟨"InnChanged$Told", "hasOne", "(I)Z"⟩,
  ⟨"InnChanged$Told", "placesOf", "(I)I"⟩,
  ⟨"InnChanged$Told", "nightsOf", "(I)I"⟩,
  ⟨"InnChanged$Told", "sleeps", "(II)Z"⟩,
  ⟨"InnChanged", "as", "(II)I"⟩,
  ⟨"InnChanged", "isUnder", "([III)Z"⟩,
  ⟨"InnChanged$Now", "ownWith", "(I)I"⟩,
  ⟨"InnChanged", "thing", "(II)I"⟩,
  ⟨"InnChanged$Now", "placeOf", "(I)I"⟩,
  ⟨"InnChanged", "thingAs", "(II)I"⟩,
  ⟨"InnChanged$Now", "works", "(III)Z"⟩,
  ⟨"InnChanged$Told", "isKeptBy", "(II)Z"⟩,
  ⟨"InnChanged", "place", "(II)I"⟩,
  ⟨"InnChanged", "may", "(III)I"⟩,
  ⟨"InnChanged$Told", "hasNight", "(I)Z"⟩,
  ⟨"InnChanged$Told", "allows", "(III)Z"⟩,
  ⟨"InnChanged$Told", "isOpen", "(II)Z"⟩,
  ⟨"InnChanged", "pass", "(II)I"⟩,
  ⟨"InnChanged$Now", "change", "(II)V"⟩,
  ⟨"InnChanged", "say", "(II)I"⟩,
  ⟨"InnChanged$Now", "hear", "(II)Z"⟩,
  ⟨"InnChanged$Told", "isCharm", "(I)Z"⟩,
  ⟨"InnChanged", "keep", "(I)I"⟩,
  ⟨"InnChanged$Now", "copy", "(LInnChanged$Now;)V"⟩,
  ⟨"InnChanged", "back", "(I)I"⟩,
  ⟨"InnChanged", "rings", "()I"⟩,
  ⟨"InnChanged$Now", "ringCount", "()I"⟩,
  ⟨"InnChanged", "mend", "(II)I"⟩,
  ⟨"InnChanged$Mend", "find", "()I"⟩,
  ⟨"InnChanged$Mend", "placeOfOwn", "(I)I"⟩,
  ⟨"InnChanged", "show", "(I)I"⟩,
  ⟨"InnChanged$Now", "showable", "(I)I"⟩,
  ⟨"InnChanged", "plan", "(I)I"⟩,
  ⟨"InnChanged$Plan", "find", "()V"⟩,
  ⟨"InnChanged$Plan", "charmSet", "()I"⟩,
  ⟨"java/lang/Integer", "bitCount", "(I)I"⟩,
  ⟨"InnChanged$Plan", "weighEnds", "(I)V"⟩,
  ⟨"InnChanged$Plan", "hostPlaces", "()I"⟩,
  ⟨"InnChanged$Plan", "weighNight", "(II)V"⟩,
  ⟨"InnChanged$Plan", "weighChange", "(IIII)V"⟩,
  ⟨"InnChanged$Plan", "exchanged", "(III)I"⟩,
  ⟨"InnChanged$Plan", "chooseChange", "(II)I"⟩,
  ⟨"InnChanged", "planned", "(II)I"⟩,
  ⟨"InnChanged", "seen", "(III)I"⟩,
  ⟨"InnChanged$Seen", "append", "(IIZ)Z"⟩,
  ⟨"InnChanged", "forget", "()I"⟩,
  ⟨"InnChanged", "fit", "()I"⟩,
  ⟨"InnChanged$Fits", "weigh", "()V"⟩,
  ⟨"InnChanged$Fits", "allowedIn", "(I)I"⟩,
  ⟨"InnChanged$Seen", "agrees", "(LInnChanged$Now;II)Z"⟩,
  ⟨"InnChanged$Fits", "weighHeads", "(I)V"⟩,
  ⟨"InnChanged$Fits", "weighTails", "(I)V"⟩,
  ⟨"InnChanged$Fits", "weighLying", "(I)V"⟩,
  ⟨"java/util/Arrays", "fill", "([II)V"⟩,
  ⟨"InnChanged", "lies", "(I)I"⟩,
  ⟨"InnChanged$Fits", "mayLie", "(I)I"⟩,
  ⟨"InnChanged", "sure", "()I"⟩,
  ⟨"InnChanged$Fits", "surePlaces", "()I"⟩,
  ⟨"InnChanged", "odds", "(II)I"⟩,
  ⟨"InnChanged$Fits", "withCharm", "(I)I"⟩,
  ⟨"InnChanged", "commonDivisor", "(II)I"⟩,
  ⟨"InnChanged", "next", "(I)I"⟩,
  ⟨"InnChanged$Fits", "bestPair", "()I"⟩,
  ⟨"InnChanged$Fits", "leftAtMost", "(II)I"⟩,
  ⟨"InnChanged", "apart", "(I)I"⟩,
  ⟨"InnChanged$Apart", "find", "()I"⟩,
  ⟨"InnChanged$Apart", "gather", "(II)V"⟩,
  ⟨"InnChanged$Apart", "noteAnswers", "()V"⟩,
  ⟨"InnChanged$Apart", "choose", "(III)Z"⟩,
  ⟨"InnChanged$Apart", "isTooCoarse", "(II)Z"⟩,
  ⟨"InnChanged$Apart", "split", "(II)V"⟩,
  ⟨"InnChanged", "came", "(I)I"⟩,
  ⟨"InnChanged$Came", "find", "()V"⟩,
  ⟨"InnChanged$Came", "list", "(III)V"⟩,
  ⟨"InnChanged$Came", "startAtHome", "()V"⟩,
  ⟨"InnChanged$Came", "goOn", "()V"⟩,
  ⟨"InnChanged$Came", "spread", "(II)V"⟩,
  ⟨"InnChanged$Came", "exchanged", "(III)I"⟩,
  ⟨"InnChanged$Came", "shiftOf", "(I)I"⟩,
  ⟨"InnChanged$Came", "indexOf", "(I)I"⟩,
  ⟨"InnChanged$Came", "isFit", "(I)Z"⟩,
  ⟨"InnChanged", "count", "(I)I"⟩,
  ⟨"InnChanged$Now", "atHome", "()I"⟩,
  ⟨"InnChanged$Told", "arrangements", "()I"⟩,
  ⟨"InnChangedModel", "write", "(I)I"⟩,
  ⟨"InnChangedModel", "in", "(III)Z"⟩,
  ⟨"InnChangedModel", "erase", "()I"⟩,
  ⟨"InnChangedModel", "fault", "()I"⟩,
  ⟨"InnChangedModel", "isRead", "()Z"⟩,
  ⟨"InnChangedModel", "isLine", "(I)Z"⟩,
  ⟨"InnChangedModel", "nextToken", "()V"⟩,
  ⟨"InnChangedModel", "isPersonLine", "()Z"⟩,
  ⟨"InnChangedModel", "fails", "()Z"⟩,
  ⟨"InnChangedModel", "isThingLine", "(I)Z"⟩,
  ⟨"InnChangedModel", "isNumber", "(II)Z"⟩,
  ⟨"InnChangedModel", "isNightLine", "(I)Z"⟩,
  ⟨"InnChangedModel", "inn", "()I"⟩,
  ⟨"InnChangedModel", "doLine", "(I)V"⟩,
  ⟨"InnChangedModel", "one", "(II)I"⟩,
  ⟨"InnChangedModel", "isOne", "(I)Z"⟩,
  ⟨"InnChangedModel", "keeperOf", "(I)I"⟩,
  ⟨"InnChangedModel", "nightsOf", "(I)I"⟩,
  ⟨"InnChangedModel", "has", "(II)Z"⟩,
  ⟨"InnChangedModel", "as", "(II)I"⟩,
  ⟨"InnChangedModel", "thing", "(II)I"⟩,
  ⟨"InnChangedModel", "isPlace", "(I)Z"⟩,
  ⟨"InnChangedModel", "kindOf", "(I)I"⟩,
  ⟨"InnChangedModel", "lookOf", "(I)I"⟩,
  ⟨"InnChangedModel", "wordOf", "(I)I"⟩,
  ⟨"InnChangedModel", "whereIs", "(I)I"⟩,
  ⟨"InnChangedModel", "thingAs", "(II)I"⟩,
  ⟨"InnChangedModel", "works", "(III)Z"⟩,
  ⟨"InnChangedModel", "isKeptBy", "(II)Z"⟩,
  ⟨"InnChangedModel", "place", "(II)I"⟩,
  ⟨"InnChangedModel", "may", "(III)I"⟩,
  ⟨"InnChangedModel", "mayBe", "(III)Z"⟩,
  ⟨"InnChangedModel", "isOpen", "(II)Z"⟩,
  ⟨"InnChangedModel", "pass", "(II)I"⟩,
  ⟨"InnChangedModel", "say", "(II)I"⟩,
  ⟨"InnChangedModel", "keep", "(I)I"⟩,
  ⟨"InnChangedModel", "back", "(I)I"⟩,
  ⟨"InnChangedModel", "rings", "()I"⟩,
  ⟨"InnChangedModel", "mend", "(II)I"⟩,
  ⟨"InnChangedModel", "show", "(I)I"⟩,
  ⟨"InnChangedModel", "plan", "(I)I"⟩,
  ⟨"InnChangedModel", "layPlan", "()V"⟩,
  ⟨"InnChangedModel", "rowMany", "()I"⟩,
  ⟨"InnChangedModel", "lay", "(I)V"⟩,
  ⟨"InnChangedModel", "isLawful", "()Z"⟩,
  ⟨"InnChangedModel", "by", "(III)I"⟩,
  ⟨"InnChangedModel", "exchange", "(II)V"⟩,
  ⟨"InnChangedModel", "rowOf", "()I"⟩,
  ⟨"InnChangedModel", "layNow", "()V"⟩,
  ⟨"InnChangedModel", "planned", "(II)I"⟩,
  ⟨"InnChangedModel", "seen", "(III)I"⟩,
  ⟨"InnChangedModel", "forget", "()I"⟩,
  ⟨"InnChangedModel", "fit", "()I"⟩,
  ⟨"InnChangedModel", "layFitting", "()V"⟩,
  ⟨"InnChangedModel", "isAsSeen", "()Z"⟩,
  ⟨"InnChangedModel", "lies", "(I)I"⟩,
  ⟨"InnChangedModel", "liesIn", "(I)I"⟩,
  ⟨"InnChangedModel", "sure", "()I"⟩,
  ⟨"InnChangedModel", "odds", "(II)I"⟩,
  ⟨"InnChangedModel", "next", "(I)I"⟩,
  ⟨"InnChangedModel", "apart", "(I)I"⟩,
  ⟨"InnChangedModel", "layAnswers", "()V"⟩,
  ⟨"InnChangedModel", "leastOf", "(I)I"⟩,
  ⟨"InnChangedModel", "parts", "(I)Z"⟩,
  ⟨"InnChangedModel", "came", "(I)I"⟩,
  ⟨"InnChangedModel", "layCame", "()V"⟩,
  ⟨"InnChangedModel", "count", "(I)I"⟩]
def ax_bsL : List ByteArray := [prog_1_method_2_code, prog_9_method_2_code, prog_1_method_3_code, prog_1_method_4_code, prog_9_method_3_code, prog_9_method_4_code, prog_9_method_5_code, prog_9_method_6_code, prog_9_method_7_code, prog_9_method_9_code, prog_9_method_8_code, prog_16_method_54_code, prog_16_method_152_code, prog_16_method_56_code, prog_16_method_154_code, prog_17_method_2_code, prog_16_method_155_code, prog_21_method_11_code, prog_9_method_14_code, prog_9_method_16_code, prog_9_method_17_code, prog_9_method_10_code, prog_9_method_12_code, prog_9_method_13_code, prog_9_method_11_code, prog_9_method_15_code, prog_1_method_5_code, prog_10_method_2_code, prog_10_method_3_code, prog_10_method_4_code, prog_9_method_18_code, prog_16_method_79_code, prog_16_method_80_code, prog_17_method_22_code, prog_17_method_4_code, prog_17_method_23_code, prog_10_method_5_code, prog_10_method_6_code, prog_10_method_8_code, prog_6_method_2_code, prog_3_method_2_code, prog_1_method_6_code, prog_10_method_7_code, prog_10_method_10_code, prog_10_method_11_code, prog_10_method_12_code, prog_1_method_7_code, prog_1_method_31_code, prog_6_method_8_code, prog_1_method_8_code, prog_6_method_4_code, prog_1_method_9_code, prog_6_method_6_code, prog_10_method_13_code, prog_1_method_10_code, prog_1_method_11_code, prog_10_method_9_code, prog_10_method_14_code, prog_10_method_15_code, prog_1_method_12_code, prog_6_method_5_code, prog_1_method_13_code, prog_6_method_7_code, prog_10_method_16_code, prog_1_method_14_code, prog_6_method_3_code, prog_1_method_15_code, prog_1_method_16_code, prog_6_method_10_code, prog_1_method_17_code, prog_5_method_2_code, prog_5_method_3_code, prog_1_method_18_code, prog_6_method_11_code, prog_1_method_19_code, prog_7_method_2_code, prog_7_method_3_code, prog_14_method_49_code, prog_7_method_5_code, prog_7_method_4_code, prog_7_method_6_code, prog_7_method_7_code, prog_7_method_8_code, prog_7_method_9_code, prog_1_method_20_code, prog_1_method_21_code, prog_8_method_2_code, prog_1_method_22_code, prog_1_method_23_code, prog_4_method_2_code, prog_4_method_3_code, prog_8_method_3_code, prog_4_method_4_code, prog_4_method_5_code, prog_4_method_6_code, prog_20_method_103_code, prog_1_method_24_code, prog_4_method_7_code, prog_1_method_25_code, prog_4_method_8_code, prog_1_method_26_code, prog_4_method_9_code, prog_1_method_32_code, prog_1_method_27_code, prog_4_method_11_code, prog_4_method_10_code, prog_1_method_28_code, prog_2_method_2_code, prog_2_method_3_code, prog_2_method_4_code, prog_2_method_5_code, prog_2_method_6_code, prog_2_method_7_code, prog_1_method_29_code, prog_3_method_3_code, prog_3_method_4_code, prog_3_method_5_code, prog_3_method_6_code, prog_3_method_7_code, prog_3_method_9_code, prog_3_method_8_code, prog_3_method_10_code, prog_3_method_11_code, prog_1_method_30_code, prog_6_method_9_code, prog_10_method_17_code, prog_12_method_11_code, prog_12_method_2_code, prog_12_method_12_code, prog_12_method_21_code, prog_12_method_20_code, prog_12_method_19_code, prog_12_method_13_code, prog_12_method_16_code, prog_12_method_14_code, prog_12_method_17_code, prog_12_method_15_code, prog_12_method_18_code, prog_12_method_23_code, prog_12_method_22_code, prog_12_method_26_code, prog_12_method_4_code, prog_12_method_8_code, prog_12_method_25_code, prog_12_method_3_code, prog_12_method_27_code, prog_12_method_29_code, prog_12_method_5_code, prog_12_method_6_code, prog_12_method_7_code, prog_12_method_9_code, prog_12_method_24_code, prog_12_method_30_code, prog_12_method_28_code, prog_12_method_10_code, prog_12_method_31_code, prog_12_method_34_code, prog_12_method_33_code, prog_12_method_32_code, prog_12_method_35_code, prog_12_method_36_code, prog_12_method_37_code, prog_12_method_38_code, prog_12_method_39_code, prog_12_method_40_code, prog_12_method_41_code, prog_12_method_50_code, prog_12_method_47_code, prog_12_method_42_code, prog_12_method_43_code, prog_12_method_46_code, prog_12_method_48_code, prog_12_method_45_code, prog_12_method_44_code, prog_12_method_49_code, prog_12_method_51_code, prog_12_method_52_code, prog_12_method_53_code, prog_12_method_56_code, prog_12_method_55_code, prog_12_method_54_code, prog_12_method_58_code, prog_12_method_57_code, prog_12_method_59_code, prog_12_method_60_code, prog_12_method_61_code, prog_12_method_65_code, prog_12_method_63_code, prog_12_method_64_code, prog_12_method_62_code, prog_12_method_67_code, prog_12_method_66_code, prog_12_method_68_code]
def ax_mlL : List Nat := [2, 2, 2, 1, 6, 1, 1, 1, 2, 1, 3, 1, 1, 2, 1, 2, 2, 3, 2, 1, 1, 1, 5, 4, 2, 2, 2, 4, 2, 4, 4, 2, 3, 4, 1, 6, 2, 3, 2, 2, 1, 3, 2, 4, 4, 3, 3, 5, 4, 3, 3, 3, 4, 3, 3, 4, 2, 4, 3, 4, 4, 3, 4, 2, 2, 2, 2, 1, 6, 4, 4, 3, 2, 4, 2, 3, 3, 1, 4, 3, 5, 7, 4, 6, 3, 4, 4, 2, 1, 2, 4, 5, 6, 6, 6, 4, 2, 4, 1, 3, 5, 4, 6, 3, 5, 5, 3, 2, 5, 3, 5, 4, 4, 2, 2, 5, 1, 3, 6, 5, 2, 6, 4, 2, 3, 5, 2, 3, 2, 1, 2, 4, 1, 1, 1, 3, 3, 2, 2, 4, 5, 2, 2, 4, 2, 7, 3, 2, 2, 2, 2, 3, 5, 4, 3, 3, 4, 4, 3, 5, 5, 3, 3, 5, 6, 4, 4, 7, 3, 8, 3, 5, 4, 6, 2, 10, 4, 2, 1, 2, 4, 2, 4, 4, 7, 8, 7, 3, 9, 4, 6, 7, 5]
def ax_rtL : List (Option FieldType) := [(some .int), (some .boolean), (some .int), (some .int), (some .int), none, (some .boolean), (some .boolean), (some .int), (some (.object "java/lang/String")), (some .boolean), (some .int), (some .byte), (some .char), (some .boolean), (some .char), none, (some .int), (some .boolean), (some .boolean), (some .boolean), (some (.object "java/lang/String")), (some .boolean), (some .int), (some .int), none, (some .int), none, none, none, (some .int), (some .int), (some .int), (some .int), (some .boolean), (some .int), none, none, (some .boolean), none, none, (some .int), (some .boolean), (some .int), (some .int), (some .boolean), (some .int), (some .boolean), (some .int), (some .int), (some .int), (some .int), (some .boolean), (some .boolean), (some .int), (some .int), (some .boolean), (some .boolean), (some .boolean), (some .int), none, (some .int), (some .boolean), (some .boolean), (some .int), none, (some .int), (some .int), (some .int), (some .int), (some .int), (some .int), (some .int), (some .int), (some .int), none, (some .int), (some .int), none, (some .int), none, none, (some .int), (some .int), (some .int), (some .int), (some .boolean), (some .int), (some .int), none, (some .int), (some .boolean), none, none, none, none, (some .int), (some .int), (some .int), (some .int), (some .int), (some .int), (some .int), (some .int), (some .int), (some .int), (some .int), (some .int), none, none, (some .boolean), (some .boolean), none, (some .int), none, none, none, none, none, (some .int), (some .int), (some .int), (some .boolean), (some .int), (some .int), (some .int), (some .int), (some .boolean), (some .int), (some .int), (some .boolean), (some .boolean), none, (some .boolean), (some .boolean), (some .boolean), (some .boolean), (some .boolean), (some .int), none, (some .int), (some .boolean), (some .int), (some .int), (some .boolean), (some .int), (some .int), (some .boolean), (some .int), (some .int), (some .int), (some .int), (some .int), (some .boolean), (some .boolean), (some .int), (some .int), (some .boolean), (some .boolean), (some .int), (some .int), (some .int), (some .int), (some .int), (some .int), (some .int), (some .int), none, (some .int), none, (some .boolean), (some .int), none, (some .int), none, (some .int), (some .int), (some .int), (some .int), none, (some .boolean), (some .int), (some .int), (some .int), (some .int), (some .int), (some .int), none, (some .int), (some .boolean), (some .int), none, (some .int)]
def ax_rkL : List Nat := [1, 2, 1, 1, 1, 0, 2, 2, 1, 3, 2, 1, 5, 4, 2, 4, 0, 1, 2, 2, 2, 3, 2, 1, 1, 0, 1, 0, 0, 0, 1, 1, 1, 1, 2, 1, 0, 0, 2, 0, 0, 1, 2, 1, 1, 2, 1, 2, 1, 1, 1, 1, 2, 2, 1, 1, 2, 2, 2, 1, 0, 1, 2, 2, 1, 0, 1, 1, 1, 1, 1, 1, 1, 1, 1, 0, 1, 1, 0, 1, 0, 0, 1, 1, 1, 1, 2, 1, 1, 0, 1, 2, 0, 0, 0, 0, 1, 1, 1, 1, 1, 1, 1, 1, 1, 1, 1, 1, 0, 0, 2, 2, 0, 1, 0, 0, 0, 0, 0, 1, 1, 1, 2, 1, 1, 1, 1, 2, 1, 1, 2, 2, 0, 2, 2, 2, 2, 2, 1, 0, 1, 2, 1, 1, 2, 1, 1, 2, 1, 1, 1, 1, 1, 2, 2, 1, 1, 2, 2, 1, 1, 1, 1, 1, 1, 1, 1, 0, 1, 0, 2, 1, 0, 1, 0, 1, 1, 1, 1, 0, 2, 1, 1, 1, 1, 1, 1, 0, 1, 2, 1, 0, 1]
def ax_cwL : List Nat := [465, 469, 473, 477, 481, 485, 488, 491, 495, 498, 513, 517, 521, 527, 531, 534, 537, 542, 565, 568, 571, 574, 584, 588, 592, 596, 601, 605, 610, 615, 619, 623, 627, 631, 634, 643, 682, 686, 690, 694, 698, 702, 706, 710, 714, 718, 722, 727, 731, 735, 740, 744, 752, 756, 760, 764, 768, 772, 776, 781, 785, 789, 793, 798, 802, 806, 813, 817, 821, 825, 829, 835, 839, 843, 847, 851, 855, 859, 866, 870, 875, 880, 883, 888, 892, 896, 900, 904, 908, 912, 916, 920, 925, 930, 934, 937, 941, 945, 949, 953, 958, 962, 966, 971, 975, 979, 986, 990, 996, 1000, 1005, 1009, 1014, 1018, 1022, 1026, 1030, 1035, 1039, 1044, 1048, 1052, 1058, 1062, 1066, 1070, 1168, 1171, 1175, 1179, 1183, 1187, 1191, 1212, 1216, 1220, 1224, 1228, 1232, 1236, 1240, 1244, 1248, 1252, 1255, 1259, 1263, 1267, 1271, 1275, 1279, 1283, 1287, 1291, 1295, 1299, 1303, 1307, 1311, 1315, 1319, 1323, 1327, 1331, 1335, 1339, 1343, 1347, 1351, 1355, 1359, 1363, 1367, 1371, 1375, 1379, 1383, 1387, 1391, 1395, 1399, 1403, 1407, 1411, 1415, 1419, 1423, 1427, 1431, 1435, 1439, 1443, 1447]
def ax_codes (k : Nat) : List AOp := ax_codesL.getD k []
def ax_pc (k i : Nat) : Nat := (ax_pcsL.getD k []).getD i 0
def ax_y (k : Nat) : MethodName := ax_yL.getD k ⟨"", "", ""⟩
def ax_bs (k : Nat) : ByteArray := ax_bsL.getD k ByteArray.empty
def ax_ml (k : Nat) : Nat := ax_mlL.getD k 0
def ax_rt (k : Nat) : Option FieldType := ax_rtL.getD k none
def ax_rk (k : Nat) : Nat := ax_rkL.getD k 0
def ax_cd (r : Nat) : Nat × Nat × List Nat := ax_cdL.getD r (9, 0, [])
def ax_sd (k : Nat) : Nat × Nat := if k < ax_KX then (0, ax_NX) else (ax_NX, ax_NMc)
def ax_wsA : List Cond := lw_tbl.filter goodWord
def ax_ws (k : Nat) : List Cond := Cond.code (ax_y k) (ax_bs k) (ax_ml k) (ax_rt k) :: ax_wsA
def ax_dq (k i : Nat) (I : Instr) (n : Nat) : Bool := decide (decode (ax_bs k) (ax_pc k i) = .ok (I, n)) && Nat.beq (ax_pc k (i + 1)) (ax_pc k i + n)
def ax_d1 (k i : Nat) (I : Instr) (n : Nat) : Bool := decide (decode (ax_bs k) (ax_pc k i) = .ok (I, n))
def ax_in (i : Nat) (w : Cond) : Bool := decide (lw_tbl[i]? = some w) && goodWord w
def ax_tg (k i a : Nat) (z : Int) : Bool := decide ((ax_pc k i : Int) + z = (ax_pc k a : Int))
def ax_f4 (a : Nat) : Fin 4 := Fin.ofNat 4 a
def ax_pl (t : List (Int × Nat)) (j : Nat) : Nat := (t.getD j (0, 0)).2
/-- an abstract instruction is the one that stands in the class file, and the tables have what it links -/
def ax_ok (k i : Nat) (op : AOp) : Bool :=
  match op with
  | (o, a, b, c, z, t) =>
  match o with
  | 0 => match a with
    | 0 => ax_dq k i (.iconst z) 1 && decide (-1 ≤ z) && decide (z ≤ 5)
    | 1 => ax_dq k i (.bipush z) 2 && decide (-128 ≤ z) && decide (z < 128)
    | 2 => ax_dq k i (.sipush z) 3 && decide (-32768 ≤ z) && decide (z < 32768)
    | 3 => ax_dq k i (.ldc b) 2 && ax_in c (.constant (ax_y k).cls b (Int32.ofInt z)) && decide (-2147483648 ≤ z) && decide (z < 2147483648)
    | _ => ax_dq k i (.ldc_w b) 3 && ax_in c (.constant (ax_y k).cls b (Int32.ofInt z)) && decide (-2147483648 ≤ z) && decide (z < 2147483648)
  | 1 => ax_dq k i (.ldc a) 2 && Nat.ble 100 b && Nat.blt b 117 && decide ((ax_y k).cls = "InnChanged$Text") && Nat.beq (ax_strI.getD (b - 100) 0) a
  | 2 => match a with
    | 0 => ax_dq k i (.lconst 0) 1 && decide (z = 0)
    | _ => ax_dq k i (.ldc2_w b) 3 && ax_in c (.constantLong (ax_y k).cls b (Int64.ofInt z)) && decide (-9223372036854775808 ≤ z) && decide (z < 9223372036854775808)
  | 3 => match b with
    | 0 => ax_dq k i (.iload_n (ax_f4 a)) 1 && Nat.blt a 4
    | _ => ax_dq k i (.iload a) 2
  | 4 => match b with
    | 0 => ax_dq k i (.aload_n (ax_f4 a)) 1 && Nat.blt a 4
    | _ => ax_dq k i (.aload a) 2
  | 5 => match b with
    | 0 => ax_dq k i (.istore_n (ax_f4 a)) 1 && Nat.blt a 4
    | _ => ax_dq k i (.istore a) 2
  | 6 => match b with
    | 0 => ax_dq k i (.astore_n (ax_f4 a)) 1 && Nat.blt a 4
    | _ => ax_dq k i (.astore a) 2
  | 7 => ax_dq k i (.iinc a z) 3
  | 8 => ax_dq k i .iadd 1
  | 9 => ax_dq k i .isub 1
  | 10 => ax_dq k i .imul 1
  | 11 => ax_dq k i .idiv 1
  | 12 => ax_dq k i .irem 1
  | 13 => ax_dq k i .iand 1
  | 14 => ax_dq k i .ior 1
  | 15 => ax_dq k i .ixor 1
  | 16 => ax_dq k i .ishl 1
  | 17 => ax_dq k i .ishr 1
  | 18 => ax_dq k i .iushr 1
  | 19 => ax_dq k i .i2l 1
  | 20 => ax_dq k i .i2b 1
  | 21 => ax_dq k i .i2c 1
  | 22 => ax_dq k i .ladd 1
  | 23 => ax_dq k i .lsub 1
  | 24 => ax_dq k i .lmul 1
  | 25 => ax_dq k i .lcmp 1
  | 26 => ax_dq k i .dup 1
  | 27 => ax_dq k i .dup2 1
  | 28 => ax_dq k i .pop 1
  | 29 => ax_dq k i (.ifCond .eq z) 3 && ax_tg k i a z
  | 30 => ax_dq k i (.ifCond .ne z) 3 && ax_tg k i a z
  | 31 => ax_dq k i (.ifCond .lt z) 3 && ax_tg k i a z
  | 32 => ax_dq k i (.ifCond .ge z) 3 && ax_tg k i a z
  | 33 => ax_dq k i (.ifCond .gt z) 3 && ax_tg k i a z
  | 34 => ax_dq k i (.ifCond .le z) 3 && ax_tg k i a z
  | 35 => ax_dq k i (.if_icmp .eq z) 3 && ax_tg k i a z
  | 36 => ax_dq k i (.if_icmp .ne z) 3 && ax_tg k i a z
  | 37 => ax_dq k i (.if_icmp .lt z) 3 && ax_tg k i a z
  | 38 => ax_dq k i (.if_icmp .ge z) 3 && ax_tg k i a z
  | 39 => ax_dq k i (.if_icmp .gt z) 3 && ax_tg k i a z
  | 40 => ax_dq k i (.if_icmp .le z) 3 && ax_tg k i a z
  | 41 => ax_d1 k i (.goto z) 3 && ax_tg k i a z
  | 42 => match t with
    | [] => false
    | (lo, _) :: _ => ax_d1 k i (.tableswitch z lo (lo + (t.length : Int) - 1) (t.map (fun p => (ax_pc k p.2 : Int) - (ax_pc k i : Int))).toArray) b && ax_tg k i a z && (List.range t.length).all (fun j => decide ((t.getD j (0, 0)).1 = lo + (j : Int)))
  | 43 => ax_d1 k i (.lookupswitch z (t.map (fun p => (p.1, (ax_pc k p.2 : Int) - (ax_pc k i : Int)))).toArray) b && ax_tg k i a z && (t.zip (t.drop 1)).all (fun p => decide (p.1.1 < p.2.1))
  | 44 => ax_dq k i (.getfield a) 3 && (match b with
    | 50 => match c with
      | 0 => ax_in z.toNat (.fieldLink (ax_y k).cls a "java/lang/String" "value" "[B")
      | 1 => ax_in z.toNat (.fieldLink (ax_y k).cls a "java/lang/String" "coder" "B")
      | _ => false
    | _ => match ax_cl[b]? with
      | none => false
      | some q => Nat.blt c q.2.2 && ax_in z.toNat (.fieldLink (ax_y k).cls a (q.2.1 c).1 (q.2.1 c).2.1 (q.2.1 c).2.2.1))
  | 45 => ax_dq k i (.putfield a) 3 && (match ax_cl[b]? with
      | none => false
      | some q => Nat.blt c q.2.2 && ax_in z.toNat (.fieldLink (ax_y k).cls a (q.2.1 c).1 (q.2.1 c).2.1 (q.2.1 c).2.2.1) && !(q.2.1 c).2.2.2 && (decide ((q.2.1 c).2.2.1 = "I") || decide ((q.2.1 c).2.2.1 = "J")))
  | 46 => ax_dq k i (.getstatic a) 3 && (match b with
    | 0 => ax_in c (.fieldLink (ax_y k).cls a "java/lang/String" "COMPACT_STRINGS" "Z")
    | 1 => ax_in c (.fieldLink (ax_y k).cls a "jdk/internal/util/Preconditions" "SIOOBE_FORMATTER" "Ljava/util/function/BiFunction;")
    | _ => ax_in c (.fieldLink (ax_y k).cls a "InnChanged" (ax_staN.getD (b - 2) "") "[I") && Nat.blt b 5)
  | 47 => ax_dq k i .iaload 1
  | 48 => ax_dq k i .iastore 1
  | 49 => ax_dq k i .baload 1
  | 50 => ax_dq k i .bastore 1
  | 51 => ax_dq k i .aaload 1
  | 52 => ax_dq k i .arraylength 1
  | 53 => ax_d1 k i .ireturn 1
  | 54 => ax_d1 k i .return_ 1
  | 55 => ax_d1 k i .areturn 1
  | 56 => ax_dq k i (.invokevirtual a) 3 && ax_in (ax_pl t 0) (.methodLink (ax_y k).cls a (ax_y b)) && ax_in (ax_pl t 1) (.instanceMethod (ax_y b)) && ax_in (ax_pl t 2) (.selects (ax_y b).cls (ax_y b) (ax_y b)) && ax_in (ax_pl t 3) (.initialized (ax_y b).cls) && decide ((parseMethodDescriptor (ax_y b).desc).map (fun d => d.parameters.length) = some c) && Nat.blt b ax_K && decide (ax_sd b = ax_sd k)
  | 57 => ax_dq k i (.invokestatic a) 3 && ax_in (ax_pl t 0) (.methodLink (ax_y k).cls a (ax_y b)) && ax_in (ax_pl t 1) (.static (ax_y b)) && ax_in (ax_pl t 2) (.initialized (ax_y b).cls) && decide ((parseMethodDescriptor (ax_y b).desc).map (fun d => d.parameters.length) = some c) && Nat.blt b ax_K && decide (ax_sd b = ax_sd k)
  | 58 => ax_dq k i (.invokestatic a) 3 && ax_in (ax_pl t 0) (.methodLink (ax_y k).cls a arraycopyName) && ax_in (ax_pl t 1) (.native arraycopyName) && ax_in (ax_pl t 2) (.static arraycopyName) && ax_in (ax_pl t 3) (.initialized "java/lang/System")
  | 61 => ax_dq k i (.invokestatic a) 3 && ax_in (ax_pl t 0) (.methodLink (ax_y k).cls a Lib.Math.max.name) && ax_in (ax_pl t 1) (.static Lib.Math.max.name) && ax_in (ax_pl t 2) (.initialized "java/lang/Math") && ax_in (ax_pl t 3) (.code Lib.Math.max.name Lib.Math.max.code 2 (some .int))
  | 62 => ax_dq k i (.invokestatic a) 3 && ax_in (ax_pl t 0) (.methodLink (ax_y k).cls a Lib.Math.min.name) && ax_in (ax_pl t 1) (.static Lib.Math.min.name) && ax_in (ax_pl t 2) (.initialized "java/lang/Math") && ax_in (ax_pl t 3) (.code Lib.Math.min.name Lib.Math.min.code 2 (some .int))
  | 59 => Nat.beq (ax_pc k (i + 1)) (ax_pc k i) && Nat.beq a i
  | _ => true
/-- a method: its instructions, its name, its words -/
def ax_okM (k : Nat) : Bool := (List.range (ax_codes k).length).all (fun i => match (ax_codes k)[i]? with
  | some op => ax_ok k i op
  | none => true) && Nat.beq (ax_pc k 0) 0 && Nat.ble (ax_ml k) 20 && plainName (ax_y k).cls && decide ((ax_y k).cls ≠ "java/lang/invoke/MethodHandle") && decide ((ax_y k).cls ≠ "java/lang/invoke/VarHandle")
end
section
set_option maxRecDepth 100000 in
set_option maxHeartbeats 4000000 in
theorem ax_c0 : ((List.range 8).map (· + 0)).all ax_okM = true := by decide +kernel
set_option maxRecDepth 100000 in
set_option maxHeartbeats 4000000 in
theorem ax_c8 : ((List.range 8).map (· + 8)).all ax_okM = true := by decide +kernel
set_option maxRecDepth 100000 in
set_option maxHeartbeats 4000000 in
theorem ax_c16 : ((List.range 8).map (· + 16)).all ax_okM = true := by decide +kernel
set_option maxRecDepth 100000 in
set_option maxHeartbeats 4000000 in
theorem ax_c24 : ((List.range 8).map (· + 24)).all ax_okM = true := by decide +kernel
set_option maxRecDepth 100000 in
set_option maxHeartbeats 4000000 in
theorem ax_c32 : ((List.range 8).map (· + 32)).all ax_okM = true := by decide +kernel
set_option maxRecDepth 100000 in
set_option maxHeartbeats 4000000 in
theorem ax_c40 : ((List.range 8).map (· + 40)).all ax_okM = true := by decide +kernel
set_option maxRecDepth 100000 in
set_option maxHeartbeats 4000000 in
theorem ax_c48 : ((List.range 8).map (· + 48)).all ax_okM = true := by decide +kernel
end
section
set_option maxRecDepth 100000 in
set_option maxHeartbeats 4000000 in
theorem ax_c56 : ((List.range 8).map (· + 56)).all ax_okM = true := by decide +kernel
set_option maxRecDepth 100000 in
set_option maxHeartbeats 4000000 in
theorem ax_c64 : ((List.range 8).map (· + 64)).all ax_okM = true := by decide +kernel
set_option maxRecDepth 100000 in
set_option maxHeartbeats 4000000 in
theorem ax_c72 : ((List.range 8).map (· + 72)).all ax_okM = true := by decide +kernel
set_option maxRecDepth 100000 in
set_option maxHeartbeats 4000000 in
theorem ax_c80 : ((List.range 8).map (· + 80)).all ax_okM = true := by decide +kernel
set_option maxRecDepth 100000 in
set_option maxHeartbeats 4000000 in
theorem ax_c88 : ((List.range 8).map (· + 88)).all ax_okM = true := by decide +kernel
set_option maxRecDepth 100000 in
set_option maxHeartbeats 4000000 in
theorem ax_c96 : ((List.range 8).map (· + 96)).all ax_okM = true := by decide +kernel
set_option maxRecDepth 100000 in
set_option maxHeartbeats 4000000 in
theorem ax_c104 : ((List.range 8).map (· + 104)).all ax_okM = true := by decide +kernel
end
section
set_option maxRecDepth 100000 in
set_option maxHeartbeats 4000000 in
theorem ax_c112 : ((List.range 8).map (· + 112)).all ax_okM = true := by decide +kernel
set_option maxRecDepth 100000 in
set_option maxHeartbeats 4000000 in
theorem ax_c120 : ((List.range 8).map (· + 120)).all ax_okM = true := by decide +kernel
set_option maxRecDepth 100000 in
set_option maxHeartbeats 4000000 in
theorem ax_c128 : ((List.range 8).map (· + 128)).all ax_okM = true := by decide +kernel
set_option maxRecDepth 100000 in
set_option maxHeartbeats 4000000 in
theorem ax_c136 : ((List.range 8).map (· + 136)).all ax_okM = true := by decide +kernel
set_option maxRecDepth 100000 in
set_option maxHeartbeats 4000000 in
theorem ax_c144 : ((List.range 8).map (· + 144)).all ax_okM = true := by decide +kernel
set_option maxRecDepth 100000 in
set_option maxHeartbeats 4000000 in
theorem ax_c152 : ((List.range 8).map (· + 152)).all ax_okM = true := by decide +kernel
set_option maxRecDepth 100000 in
set_option maxHeartbeats 4000000 in
theorem ax_c160 : ((List.range 8).map (· + 160)).all ax_okM = true := by decide +kernel
end
section
set_option maxRecDepth 100000 in
set_option maxHeartbeats 4000000 in
theorem ax_c168 : ((List.range 8).map (· + 168)).all ax_okM = true := by decide +kernel
set_option maxRecDepth 100000 in
set_option maxHeartbeats 4000000 in
theorem ax_c176 : ((List.range 8).map (· + 176)).all ax_okM = true := by decide +kernel
set_option maxRecDepth 100000 in
set_option maxHeartbeats 4000000 in
theorem ax_c184 : ((List.range 8).map (· + 184)).all ax_okM = true := by decide +kernel
set_option maxRecDepth 100000 in
set_option maxHeartbeats 4000000 in
theorem ax_c192 : ((List.range 1).map (· + 192)).all ax_okM = true := by decide +kernel
end
section
theorem ax_okAll (k : Nat) (h : k < 193) : ax_okM k = true := by
  rcases Nat.lt_or_ge k 8 with h8 | h8
  · exact List.all_eq_true.mp ax_c0 k (List.mem_map.mpr ⟨k - 0, List.mem_range.mpr (by omega), by omega⟩)
  rcases Nat.lt_or_ge k 16 with h16 | h16
  · exact List.all_eq_true.mp ax_c8 k (List.mem_map.mpr ⟨k - 8, List.mem_range.mpr (by omega), by omega⟩)
  rcases Nat.lt_or_ge k 24 with h24 | h24
  · exact List.all_eq_true.mp ax_c16 k (List.mem_map.mpr ⟨k - 16, List.mem_range.mpr (by omega), by omega⟩)
  rcases Nat.lt_or_ge k 32 with h32 | h32
  · exact List.all_eq_true.mp ax_c24 k (List.mem_map.mpr ⟨k - 24, List.mem_range.mpr (by omega), by omega⟩)
  rcases Nat.lt_or_ge k 40 with h40 | h40
  · exact List.all_eq_true.mp ax_c32 k (List.mem_map.mpr ⟨k - 32, List.mem_range.mpr (by omega), by omega⟩)
  rcases Nat.lt_or_ge k 48 with h48 | h48
  · exact List.all_eq_true.mp ax_c40 k (List.mem_map.mpr ⟨k - 40, List.mem_range.mpr (by omega), by omega⟩)
  rcases Nat.lt_or_ge k 56 with h56 | h56
  · exact List.all_eq_true.mp ax_c48 k (List.mem_map.mpr ⟨k - 48, List.mem_range.mpr (by omega), by omega⟩)
  rcases Nat.lt_or_ge k 64 with h64 | h64
  · exact List.all_eq_true.mp ax_c56 k (List.mem_map.mpr ⟨k - 56, List.mem_range.mpr (by omega), by omega⟩)
  rcases Nat.lt_or_ge k 72 with h72 | h72
  · exact List.all_eq_true.mp ax_c64 k (List.mem_map.mpr ⟨k - 64, List.mem_range.mpr (by omega), by omega⟩)
  rcases Nat.lt_or_ge k 80 with h80 | h80
  · exact List.all_eq_true.mp ax_c72 k (List.mem_map.mpr ⟨k - 72, List.mem_range.mpr (by omega), by omega⟩)
  rcases Nat.lt_or_ge k 88 with h88 | h88
  · exact List.all_eq_true.mp ax_c80 k (List.mem_map.mpr ⟨k - 80, List.mem_range.mpr (by omega), by omega⟩)
  rcases Nat.lt_or_ge k 96 with h96 | h96
  · exact List.all_eq_true.mp ax_c88 k (List.mem_map.mpr ⟨k - 88, List.mem_range.mpr (by omega), by omega⟩)
  rcases Nat.lt_or_ge k 104 with h104 | h104
  · exact List.all_eq_true.mp ax_c96 k (List.mem_map.mpr ⟨k - 96, List.mem_range.mpr (by omega), by omega⟩)
  rcases Nat.lt_or_ge k 112 with h112 | h112
  · exact List.all_eq_true.mp ax_c104 k (List.mem_map.mpr ⟨k - 104, List.mem_range.mpr (by omega), by omega⟩)
  rcases Nat.lt_or_ge k 120 with h120 | h120
  · exact List.all_eq_true.mp ax_c112 k (List.mem_map.mpr ⟨k - 112, List.mem_range.mpr (by omega), by omega⟩)
  rcases Nat.lt_or_ge k 128 with h128 | h128
  · exact List.all_eq_true.mp ax_c120 k (List.mem_map.mpr ⟨k - 120, List.mem_range.mpr (by omega), by omega⟩)
  rcases Nat.lt_or_ge k 136 with h136 | h136
  · exact List.all_eq_true.mp ax_c128 k (List.mem_map.mpr ⟨k - 128, List.mem_range.mpr (by omega), by omega⟩)
  rcases Nat.lt_or_ge k 144 with h144 | h144
  · exact List.all_eq_true.mp ax_c136 k (List.mem_map.mpr ⟨k - 136, List.mem_range.mpr (by omega), by omega⟩)
  rcases Nat.lt_or_ge k 152 with h152 | h152
  · exact List.all_eq_true.mp ax_c144 k (List.mem_map.mpr ⟨k - 144, List.mem_range.mpr (by omega), by omega⟩)
  rcases Nat.lt_or_ge k 160 with h160 | h160
  · exact List.all_eq_true.mp ax_c152 k (List.mem_map.mpr ⟨k - 152, List.mem_range.mpr (by omega), by omega⟩)
  rcases Nat.lt_or_ge k 168 with h168 | h168
  · exact List.all_eq_true.mp ax_c160 k (List.mem_map.mpr ⟨k - 160, List.mem_range.mpr (by omega), by omega⟩)
  rcases Nat.lt_or_ge k 176 with h176 | h176
  · exact List.all_eq_true.mp ax_c168 k (List.mem_map.mpr ⟨k - 168, List.mem_range.mpr (by omega), by omega⟩)
  rcases Nat.lt_or_ge k 184 with h184 | h184
  · exact List.all_eq_true.mp ax_c176 k (List.mem_map.mpr ⟨k - 176, List.mem_range.mpr (by omega), by omega⟩)
  rcases Nat.lt_or_ge k 192 with h192 | h192
  · exact List.all_eq_true.mp ax_c184 k (List.mem_map.mpr ⟨k - 184, List.mem_range.mpr (by omega), by omega⟩)
  rcases Nat.lt_or_ge k 193 with h193 | h193
  · exact List.all_eq_true.mp ax_c192 k (List.mem_map.mpr ⟨k - 192, List.mem_range.mpr (by omega), by omega⟩)
  exact absurd h (by omega)
set_option maxRecDepth 100000 in
theorem ax_w0 : ((List.range 16).map (fun k => lw_tbl[ax_cwL.getD (k + 0) 0]?)) = ((List.range 16).map (fun k => some (Cond.code (ax_y (k + 0)) (ax_bs (k + 0)) (ax_ml (k + 0)) (ax_rt (k + 0))))) := rfl
set_option maxRecDepth 100000 in
theorem ax_w16 : ((List.range 16).map (fun k => lw_tbl[ax_cwL.getD (k + 16) 0]?)) = ((List.range 16).map (fun k => some (Cond.code (ax_y (k + 16)) (ax_bs (k + 16)) (ax_ml (k + 16)) (ax_rt (k + 16))))) := rfl
set_option maxRecDepth 100000 in
theorem ax_w32 : ((List.range 16).map (fun k => lw_tbl[ax_cwL.getD (k + 32) 0]?)) = ((List.range 16).map (fun k => some (Cond.code (ax_y (k + 32)) (ax_bs (k + 32)) (ax_ml (k + 32)) (ax_rt (k + 32))))) := rfl
set_option maxRecDepth 100000 in
theorem ax_w48 : ((List.range 16).map (fun k => lw_tbl[ax_cwL.getD (k + 48) 0]?)) = ((List.range 16).map (fun k => some (Cond.code (ax_y (k + 48)) (ax_bs (k + 48)) (ax_ml (k + 48)) (ax_rt (k + 48))))) := rfl
set_option maxRecDepth 100000 in
theorem ax_w64 : ((List.range 16).map (fun k => lw_tbl[ax_cwL.getD (k + 64) 0]?)) = ((List.range 16).map (fun k => some (Cond.code (ax_y (k + 64)) (ax_bs (k + 64)) (ax_ml (k + 64)) (ax_rt (k + 64))))) := rfl
set_option maxRecDepth 100000 in
theorem ax_w80 : ((List.range 16).map (fun k => lw_tbl[ax_cwL.getD (k + 80) 0]?)) = ((List.range 16).map (fun k => some (Cond.code (ax_y (k + 80)) (ax_bs (k + 80)) (ax_ml (k + 80)) (ax_rt (k + 80))))) := rfl
set_option maxRecDepth 100000 in
theorem ax_w96 : ((List.range 16).map (fun k => lw_tbl[ax_cwL.getD (k + 96) 0]?)) = ((List.range 16).map (fun k => some (Cond.code (ax_y (k + 96)) (ax_bs (k + 96)) (ax_ml (k + 96)) (ax_rt (k + 96))))) := rfl
set_option maxRecDepth 100000 in
theorem ax_w112 : ((List.range 16).map (fun k => lw_tbl[ax_cwL.getD (k + 112) 0]?)) = ((List.range 16).map (fun k => some (Cond.code (ax_y (k + 112)) (ax_bs (k + 112)) (ax_ml (k + 112)) (ax_rt (k + 112))))) := rfl
set_option maxRecDepth 100000 in
theorem ax_w128 : ((List.range 16).map (fun k => lw_tbl[ax_cwL.getD (k + 128) 0]?)) = ((List.range 16).map (fun k => some (Cond.code (ax_y (k + 128)) (ax_bs (k + 128)) (ax_ml (k + 128)) (ax_rt (k + 128))))) := rfl
set_option maxRecDepth 100000 in
theorem ax_w144 : ((List.range 16).map (fun k => lw_tbl[ax_cwL.getD (k + 144) 0]?)) = ((List.range 16).map (fun k => some (Cond.code (ax_y (k + 144)) (ax_bs (k + 144)) (ax_ml (k + 144)) (ax_rt (k + 144))))) := rfl
set_option maxRecDepth 100000 in
theorem ax_w160 : ((List.range 16).map (fun k => lw_tbl[ax_cwL.getD (k + 160) 0]?)) = ((List.range 16).map (fun k => some (Cond.code (ax_y (k + 160)) (ax_bs (k + 160)) (ax_ml (k + 160)) (ax_rt (k + 160))))) := rfl
set_option maxRecDepth 100000 in
theorem ax_w176 : ((List.range 16).map (fun k => lw_tbl[ax_cwL.getD (k + 176) 0]?)) = ((List.range 16).map (fun k => some (Cond.code (ax_y (k + 176)) (ax_bs (k + 176)) (ax_ml (k + 176)) (ax_rt (k + 176))))) := rfl
set_option maxRecDepth 100000 in
theorem ax_w192 : ((List.range 1).map (fun k => lw_tbl[ax_cwL.getD (k + 192) 0]?)) = ((List.range 1).map (fun k => some (Cond.code (ax_y (k + 192)) (ax_bs (k + 192)) (ax_ml (k + 192)) (ax_rt (k + 192))))) := rfl
theorem ax_mapAt {α : Type} {n a k : Nat} {f g : Nat → α} (h : ((List.range n).map (fun k => f (k + a))) = ((List.range n).map (fun k => g (k + a)))) (h1 : a ≤ k) (h2 : k < a + n) : f k = g k := by
  have h3 := congrArg (fun l => l[k - a]?) h
  simp only [List.getElem?_map] at h3
  rw [List.getElem?_range (by omega)] at h3
  simp only [Option.map_some, Option.some.injEq] at h3
  rw [show k - a + a = k by omega] at h3
  exact h3
theorem ax_codeIn (k : Nat) (h : k < 193) : Cond.code (ax_y k) (ax_bs k) (ax_ml k) (ax_rt k) ∈ ax_wsA := by
  refine List.mem_filter.mpr ⟨List.mem_of_getElem? (i := ax_cwL.getD k 0) ?_, rfl⟩
  rcases Nat.lt_or_ge k 16 with h16 | h16
  · exact ax_mapAt (f := fun k => lw_tbl[ax_cwL.getD k 0]?) (g := fun k => some (Cond.code (ax_y k) (ax_bs k) (ax_ml k) (ax_rt k))) ax_w0 (by omega) (by omega)
  rcases Nat.lt_or_ge k 32 with h32 | h32
  · exact ax_mapAt (f := fun k => lw_tbl[ax_cwL.getD k 0]?) (g := fun k => some (Cond.code (ax_y k) (ax_bs k) (ax_ml k) (ax_rt k))) ax_w16 (by omega) (by omega)
  rcases Nat.lt_or_ge k 48 with h48 | h48
  · exact ax_mapAt (f := fun k => lw_tbl[ax_cwL.getD k 0]?) (g := fun k => some (Cond.code (ax_y k) (ax_bs k) (ax_ml k) (ax_rt k))) ax_w32 (by omega) (by omega)
  rcases Nat.lt_or_ge k 64 with h64 | h64
  · exact ax_mapAt (f := fun k => lw_tbl[ax_cwL.getD k 0]?) (g := fun k => some (Cond.code (ax_y k) (ax_bs k) (ax_ml k) (ax_rt k))) ax_w48 (by omega) (by omega)
  rcases Nat.lt_or_ge k 80 with h80 | h80
  · exact ax_mapAt (f := fun k => lw_tbl[ax_cwL.getD k 0]?) (g := fun k => some (Cond.code (ax_y k) (ax_bs k) (ax_ml k) (ax_rt k))) ax_w64 (by omega) (by omega)
  rcases Nat.lt_or_ge k 96 with h96 | h96
  · exact ax_mapAt (f := fun k => lw_tbl[ax_cwL.getD k 0]?) (g := fun k => some (Cond.code (ax_y k) (ax_bs k) (ax_ml k) (ax_rt k))) ax_w80 (by omega) (by omega)
  rcases Nat.lt_or_ge k 112 with h112 | h112
  · exact ax_mapAt (f := fun k => lw_tbl[ax_cwL.getD k 0]?) (g := fun k => some (Cond.code (ax_y k) (ax_bs k) (ax_ml k) (ax_rt k))) ax_w96 (by omega) (by omega)
  rcases Nat.lt_or_ge k 128 with h128 | h128
  · exact ax_mapAt (f := fun k => lw_tbl[ax_cwL.getD k 0]?) (g := fun k => some (Cond.code (ax_y k) (ax_bs k) (ax_ml k) (ax_rt k))) ax_w112 (by omega) (by omega)
  rcases Nat.lt_or_ge k 144 with h144 | h144
  · exact ax_mapAt (f := fun k => lw_tbl[ax_cwL.getD k 0]?) (g := fun k => some (Cond.code (ax_y k) (ax_bs k) (ax_ml k) (ax_rt k))) ax_w128 (by omega) (by omega)
  rcases Nat.lt_or_ge k 160 with h160 | h160
  · exact ax_mapAt (f := fun k => lw_tbl[ax_cwL.getD k 0]?) (g := fun k => some (Cond.code (ax_y k) (ax_bs k) (ax_ml k) (ax_rt k))) ax_w144 (by omega) (by omega)
  rcases Nat.lt_or_ge k 176 with h176 | h176
  · exact ax_mapAt (f := fun k => lw_tbl[ax_cwL.getD k 0]?) (g := fun k => some (Cond.code (ax_y k) (ax_bs k) (ax_ml k) (ax_rt k))) ax_w160 (by omega) (by omega)
  rcases Nat.lt_or_ge k 192 with h192 | h192
  · exact ax_mapAt (f := fun k => lw_tbl[ax_cwL.getD k 0]?) (g := fun k => some (Cond.code (ax_y k) (ax_bs k) (ax_ml k) (ax_rt k))) ax_w176 (by omega) (by omega)
  rcases Nat.lt_or_ge k 193 with h193 | h193
  · exact ax_mapAt (f := fun k => lw_tbl[ax_cwL.getD k 0]?) (g := fun k => some (Cond.code (ax_y k) (ax_bs k) (ax_ml k) (ax_rt k))) ax_w192 (by omega) (by omega)
  exact absurd h (by omega)
theorem ax_inM {i : Nat} {w : Cond} (h : ax_in i w = true) : w ∈ ax_wsA := by
  simp only [ax_in, Bool.and_eq_true, decide_eq_true_eq] at h
  exact List.mem_filter.mpr ⟨List.mem_of_getElem? h.1, h.2⟩
theorem ax_clW : ∀ (ci : Nat) (q : vw_C), ax_cl[ci]? = some q → ((List.range q.2.2).all (fun j => decide (u_lay q.1 q.2.1 j ∈ ax_wsA) && (parseFieldDescriptor (q.2.1 j).2.2.1).isSome && (List.range q.2.2).all (fun i => i == j || decide ((q.2.1 i).2.1 ≠ (q.2.1 j).2.1)))) = true := by
  intro ci q h
  have h2 := List.mem_of_getElem? h
  revert q
  have key : ∀ q ∈ ax_cl, ((List.range q.2.2).all (fun j => decide (u_lay q.1 q.2.1 j ∈ ax_wsA) && (parseFieldDescriptor (q.2.1 j).2.2.1).isSome && (List.range q.2.2).all (fun i => i == j || decide ((q.2.1 i).2.1 ≠ (q.2.1 j).2.1)))) = true := by
    intro q hq
    simp only [ax_cl, List.mem_cons, List.not_mem_nil, or_false] at hq
    rcases hq with rfl | rfl | rfl | rfl | rfl | rfl | rfl | rfl | rfl | rfl | rfl <;> decide +kernel
  exact fun q _ hm => key q hm
end
section
/-! THE ABSTRACT MACHINE: ints are Int in range, references are numbers of cells of a fixed graph, memory is a function -/
abbrev AV : Type := Int ⊕ (Nat ⊕ ((Nat × Int) ⊕ Int))
abbrev xI (x : Int) : AV := Sum.inl x
abbrev xR (r : Nat) : AV := Sum.inr (Sum.inl r)
abbrev xW (c : Nat) (i : Int) : AV := Sum.inr (Sum.inr (Sum.inl (c, i)))
abbrev xL (z : Int) : AV := Sum.inr (Sum.inr (Sum.inr z))
abbrev Mem : Type := Nat → Nat → Int
/-- wrap; written so that on a number that isn't known it stops at once -/
def iwG (B : Nat) (x : Int) : Int := match x with
  | .ofNat n => match Nat.blt n B with
    | true => .ofNat n
    | false => (Int.ofNat n + (B : Int)) % (2 * (B : Int)) - (B : Int)
  | .negSucc n => match Nat.blt n B with
    | true => .negSucc n
    | false => (Int.negSucc n + (B : Int)) % (2 * (B : Int)) - (B : Int)
theorem iwG_def (B : Nat) (x : Int) : iwG B x = (x + (B : Int)) % (2 * (B : Int)) - (B : Int) := by
  cases x with
  | ofNat n =>
    have e0 : Int.ofNat n = (n : Int) := rfl
    cases h : Nat.blt n B with
    | true =>
      have h1 : n < B := by simpa only [Nat.blt_eq] using h
      simp only [iwG, h]
      rw [Int.emod_eq_of_lt (by omega) (by omega)]
      omega
    | false => simp only [iwG, h]
  | negSucc n =>
    cases h : Nat.blt n B with
    | true =>
      have h1 : n < B := by simpa only [Nat.blt_eq] using h
      simp only [iwG, h]
      rw [Int.emod_eq_of_lt (by omega) (by omega)]
      omega
    | false => simp only [iwG, h]
def iw (x : Int) : Int := iwG 2147483648 x
theorem iw_def (x : Int) : iw x = (x + 2147483648) % 4294967296 - 2147483648 := by
  have h := iwG_def 2147483648 x
  have e : iw x = iwG 2147483648 x := by unfold iw; exact rfl
  omega
def lw (x : Int) : Int := iwG 9223372036854775808 x
theorem lw_def (x : Int) : lw x = (x + 9223372036854775808) % 18446744073709551616 - 9223372036854775808 := by
  have h := iwG_def 9223372036854775808 x
  have e : lw x = iwG 9223372036854775808 x := by unfold lw; exact rfl
  omega
def xset (μ : Mem) (c j : Nat) (v : Int) : Mem := fun a b => if a = c ∧ b = j then v else μ a b
def xcpy (μ : Mem) (rs rd sp dp n : Nat) : Mem := fun a b => if a = rd ∧ dp ≤ b ∧ b < dp + n then μ rs (sp + (b - dp)) else μ a b
def xand (x y : Int) : Int := (Int32.ofInt x &&& Int32.ofInt y).toInt
def xior (x y : Int) : Int := (Int32.ofInt x ||| Int32.ofInt y).toInt
def xxor (x y : Int) : Int := (Int32.ofInt x ^^^ Int32.ofInt y).toInt
def xshl (x y : Int) : Int := (Int32.ofInt x <<< (Int32.ofInt y &&& 31)).toInt
def xshr (x y : Int) : Int := (Int32.ofInt x >>> (Int32.ofInt y &&& 31)).toInt
def xushr (x y : Int) : Int := ((Int32.ofInt x).toUInt32 >>> ((Int32.ofInt y).toUInt32 &&& Int32.toUInt32 31)).toInt32.toInt
def xcmp (x y : Int) : Int := if x < y then -1 else if x = y then 0 else 1
def xi2b (x : Int) : Int := (Int32.ofInt x).toInt8.toInt32.toInt
def xi2c (x : Int) : Int := ((Int32.ofInt x).toUInt32 % 65536).toInt32.toInt
def xdiv (x y : Int) : Int := iw (Int.tdiv x y)
def xrem (x y : Int) : Int := Int.tmod x y
def wb (i : Int) (n : Nat) (P : Prop) : Prop := match i with
  | .ofNat m => match Nat.blt m n with
    | true => P
    | false => False
  | .negSucc _ => False
def wz (y : Int) (P : Prop) : Prop := match y with
  | .ofNat 0 => False
  | .ofNat (_ + 1) => P
  | .negSucc _ => P
theorem wb_eq {i : Int} {n : Nat} {P : Prop} (h0 : 0 ≤ i) (h1 : i < (n : Int)) : wb i n P = P := by
  obtain ⟨m, rfl⟩ := Int.eq_ofNat_of_zero_le h0
  have h2 : Nat.blt m n = true := by rw [Nat.blt_eq]; omega
  show (match Nat.blt m n with
    | true => P
    | false => False) = P
  rw [h2]
theorem wb_i {i : Int} {n : Nat} {P : Prop} (h0 : 0 ≤ i) (h1 : i < (n : Int)) (h : P) : wb i n P := by rw [wb_eq h0 h1]; exact h
theorem wb_e {i : Int} {n : Nat} {P : Prop} (h : wb i n P) : (0 ≤ i ∧ i < (n : Int)) ∧ P := by
  cases i with
  | negSucc m => exact h.elim
  | ofNat m =>
    cases h2 : Nat.blt m n with
    | true =>
      have h3 : m < n := by simpa only [Nat.blt_eq] using h2
      have c1 : (0 : Int) ≤ Int.ofNat m := Int.natCast_nonneg m
      have c2 : Int.ofNat m < (n : Int) := Int.ofNat_lt.mpr h3
      rw [wb_eq c1 c2] at h
      exact ⟨⟨c1, c2⟩, h⟩
    | false =>
      have h' : (match Nat.blt m n with
        | true => P
        | false => False) := h
      rw [h2] at h'
      exact h'.elim
theorem wz_eq {y : Int} {P : Prop} (h0 : y ≠ 0) : wz y P = P := by
  match y, h0 with
  | .ofNat 0, h0 => exact absurd rfl h0
  | .ofNat (_ + 1), _ => rfl
  | .negSucc _, _ => rfl
theorem wz_i {y : Int} {P : Prop} (h0 : y ≠ 0) (h : P) : wz y P := by rw [wz_eq h0]; exact h
theorem wz_e {y : Int} {P : Prop} (h : wz y P) : y ≠ 0 ∧ P := by
  match y, h with
  | .ofNat (n + 1), h => exact ⟨fun e => (by cases e), h⟩
  | .negSucc n, h => exact ⟨fun e => (by cases e), h⟩
theorem wi {c : Prop} [Decidable c] {A B : Prop} (h1 : c → A) (h2 : ¬ c → B) : if c then A else B := by
  by_cases h : c
  · rw [if_pos h]; exact h1 h
  · rw [if_neg h]; exact h2 h
/-! tables -/
def ax_inS (k r : Nat) : Bool := Nat.ble (ax_sd k).1 r && Nat.blt r ((ax_sd k).1 + (ax_sd k).2)
def ax_fld (k r ci j : Nat) : Option Nat := match ax_inS k r with
  | true => match ax_cd r with
    | (0, ci', ks) => match Nat.beq ci' ci with
      | true => ks[j]?
      | false => none
    | _ => none
  | false => none
def ax_arr (tg k r : Nat) : Option Nat := match ax_inS k r with
  | true => match ax_cd r with
    | (t, n, _) => match Nat.beq t tg with
      | true => some n
      | false => none
  | false => none
def ax_row (k c : Nat) : Option (Nat × Nat) := match ax_inS k c with
  | true => match ax_cd c with
    | (4, n, [m]) => some (n, m)
    | _ => none
  | false => none
def ax_ref (k c : Nat) : Option (List Nat) := match ax_inS k c with
  | true => match ax_cd c with
    | (3, _, ks) => some ks
    | _ => none
  | false => none
def ax_con (r : Nat) : Option (List Int) := match Nat.ble 140 r && Nat.blt r 143 with
  | true => ax_staV[r - 140]?
  | false => none
def ax_byt (r : Nat) : Option (List Int) := match Nat.ble 120 r && Nat.blt r 137 with
  | true => ax_strB[r - 120]?
  | false => none
def ax_str (r : Nat) : Bool := Nat.ble 100 r && Nat.blt r 117
def ax_sel (m : Int) (ks : List Nat) (i : Int) (f : Nat → Prop) : Prop := match ks with
  | [] => False
  | r :: ks' => if i = m then f r else ax_sel (m + 1) ks' i f
def ax_sw (t : List (Int × Nat)) (x : Int) (f : Nat → Prop) (d : Nat) : Prop := match t with
  | [] => f d
  | (key, g) :: t' => if x = key then f g else ax_sw t' x f d
/-- the class of a method, by its number (50: String) -/
def ax_mciL : List Nat := [9, 7, 9, 9, 7, 7, 7, 7, 7, 7, 7, 50, 50, 50, 50, 99, 50, 99, 7, 7, 7, 7, 7, 7, 7, 7, 9, 8, 8, 8, 7, 50, 50, 99, 99, 99, 8, 8, 8, 4, 1, 9, 8, 8, 8, 8, 9, 9, 4, 9, 4, 9, 4, 8, 9, 9, 8, 8, 8, 9, 4, 9, 4, 8, 9, 4, 9, 9, 4, 9, 3, 3, 9, 4, 9, 5, 5, 99, 5, 5, 5, 5, 5, 5, 9, 9, 6, 9, 9, 2, 2, 6, 2, 2, 2, 99, 9, 2, 9, 2, 9, 2, 9, 9, 2, 2, 9, 0, 0, 0, 0, 0, 0, 9, 1, 1, 1, 1, 1, 1, 1, 1, 1, 9, 4, 8, 10, 10, 10, 10, 10, 10, 10, 10, 10, 10, 10, 10, 10, 10, 10, 10, 10, 10, 10, 10, 10, 10, 10, 10, 10, 10, 10, 10, 10, 10, 10, 10, 10, 10, 10, 10, 10, 10, 10, 10, 10, 10, 10, 10, 10, 10, 10, 10, 10, 10, 10, 10, 10, 10, 10, 10, 10, 10, 10, 10, 10, 10, 10, 10, 10, 10, 10]
/-! what an abstract state is on the machine -/
def ax_rv (q : (Nat → Nat) × Value) : AV → Value
  | .inl x => .int (Int32.ofInt x)
  | .inr (.inl r) => if r = 150 then q.2 else .ref (q.1 r)
  | .inr (.inr (.inl w)) => .ref (q.1 (w.1 + 1 + w.2.toNat))
  | .inr (.inr (.inr z)) => .long (Int64.ofInt z)
def ax_r32 (x : Int) : Prop := -2147483648 ≤ x ∧ x < 2147483648
def ax_r64 (x : Int) : Prop := -9223372036854775808 ≤ x ∧ x < 9223372036854775808
def ax_okv : AV → Prop
  | .inl x => ax_r32 x
  | .inr (.inl _) => True
  | .inr (.inr (.inl w)) => ∃ n m : Nat, ax_cd w.1 = (4, n, [m]) ∧ 0 ≤ w.2 ∧ w.2 < (n : Int)
  | .inr (.inr (.inr z)) => ax_r64 z
def ax_lk (i j : Nat) : Bool := match ax_cd i with
  | (0, _, ks) => ks.getD j 0 == 1
  | _ => false
def ax_okm (μ : Mem) : Prop := ∀ i j : Nat, if ax_lk i j then ax_r64 (μ i j) else ax_r32 (μ i j)
def ax_fv (q : (Nat → Nat) × Value) (μ : Mem) (i j kd : Nat) : Value := match kd with
  | 0 => .int (Int32.ofInt (μ i j))
  | 1 => .long (Int64.ofInt (μ i j))
  | r + 2 => .ref (q.1 r)
def ax_cE (q : (Nat → Nat) × Value) (tc : Nat → ClassId) (μ : Mem) (i : Nat) : va_E := match ax_cd i with
  | (0, ci, ks) => .inr (ci, (List.range ks.length).map (fun j => ax_fv q μ i j (ks.getD j 0)))
  | (1, n, _) => .inl (tc 0, n, .inl (fun j => Int32.ofInt (μ i j)))
  | (2, n, _) => .inl (tc 1, n, .inl (fun j => Int32.ofInt (μ i j)))
  | (3, n, ks) => .inl (tc 2, n, .inr (.inr (.inr (.inr (fun j => (ks[j]?).map q.1)))))
  | (4, n, _) => .inl (tc 3, n, .inr (.inr (.inr (.inr (fun j => if j < n then some (q.1 (i + 1 + j)) else none)))))
  | _ => .inl (tc 0, 0, .inl (fun _ => 0))
def ax_wd (sd : Nat × Nat) (q : (Nat → Nat) × Value) (tc : Nat → ClassId) (μ : Mem) : va_W := (List.range sd.2).map (fun j => (q.1 (sd.1 + j), ax_cE q tc μ (sd.1 + j)))
abbrev ax_tys (tc : Nat → ClassId) : List (ClassId × FieldType) := [(tc 0, .int), (tc 1, .boolean), (tc 2, .object "InnChanged$Now"), (tc 3, .array .int)]
def ax_strB32 : List (List Int32) := ax_strB.map (fun l => l.map Int32.ofInt)
/-- the constants: Strings, static tables -/
def ax_KC (q : (Nat → Nat) × Value) (A : Nat → Prop) (U : State) (H : Heap) : Prop :=
  vk_S 17 ax_strN ax_strB32 (fun i => q.1 (100 + i)) (fun i => q.1 (120 + i)) A U H ∧
  (∀ i : Nat, i < 17 → vk_R "InnChanged$Text" (ax_strI.getD i 0) (ax_strT.getD i "") (q.1 (100 + i)) U) ∧
  va_Z "java/lang/String" "COMPACT_STRINGS" "Z" (.int 1) A U H ∧
  va_Z "jdk/internal/util/Preconditions" "SIOOBE_FORMATTER" "Ljava/util/function/BiFunction;" q.2 A U H ∧ (q.2 = .null ∨ ∃ t : Nat, q.2 = .ref t) ∧
  (∀ j : Nat, j < 3 → va_Z "InnChanged" (ax_staN.getD j "") "[I" (.ref (q.1 (140 + j))) A U H ∧ va_T .int (q.1 (140 + j)) (ax_staV.getD j []).length (fun n => .int (Int32.ofInt ((ax_staV.getD j []).getD n 0))) A U H)
abbrev ax_rm (d : Nat) : Room := { frames := d, cells := 0, slots := 0, locals := 40 * d }
def ax_rvo (rk : Nat) (q : (Nat → Nat) × Value) (r : AV) : Option Value := match rk with
  | 0 => none
  | _ => some (ax_rv q r)
def ax_QC (sd : Nat × Nat) (rk : Nat) (q : (Nat → Nat) × Value) (tc : Nat → ClassId) (D : va_G) (A : Nat → Prop) (Q : AV → Mem → Prop) : Array Value → State → Outcome → State → Prop := fun _ st oc t =>
  (∃ (r : AV) (μ' : Mem), oc = .returned (ax_rvo rk q r) ∧ ax_okv r ∧ ax_okm μ' ∧ Q r μ' ∧ va_P D ax_cl (ax_wd sd q tc μ') t.heap ∧ va_K D ax_cl (ax_tys tc) t ∧ va_D A (ax_wd sd q tc μ')) ∧ va_F A st t
/-- a method's contract: from these arguments and this memory it returns, with Q -/
def GM (d k : Nat) (av : List AV) (μ : Mem) (Q : AV → Mem → Prop) : Prop :=
  (∀ v ∈ av, ax_okv v) → ax_okm μ → ∀ (l : Launch) (D : va_G) (tc : Nat → ClassId) (q : (Nat → Nat) × Value) (sz : Nat),
    Met l (ax_y k) (ax_ws k) (ax_rm d) (va_Pc (av.map (ax_rv q)) (fun U => U.heap.size = sz ∧ va_P D ax_cl (ax_wd (ax_sd k) q tc μ) U.heap ∧ va_K D ax_cl (ax_tys tc) U ∧ va_D (fun _ => True) (ax_wd (ax_sd k) q tc μ) ∧ ax_KC q (va_A (ax_wd (ax_sd k) q tc μ) sz) U U.heap))
      (ax_QC (ax_sd k) (ax_rk k) q tc D (va_A (ax_wd (ax_sd k) q tc μ) sz) Q) 0 0 (va_A (ax_wd (ax_sd k) q tc μ) sz)
def ax_CT (k : Nat) (D : va_G) (tc : Nat → ClassId) (q : (Nat → Nat) × Value) (p : Program) (s : State) (m : MethodId) (args : Array Value) (meth : Method) (c : Code) (A : Nat → Prop) : Prop :=
  k < ax_K ∧ p.tables.exec = Jvm.exec ∧ c.code = ax_bs k ∧ meth.sig.returnType = ax_rt k ∧ c.maxLocals = ax_ml k ∧ s.vm.findClass (ax_y k).cls = some m.cls ∧ (∀ w ∈ ax_ws k, w.before args s = true) ∧ meth.locks = false ∧ va_K D ax_cl (ax_tys tc) s ∧ ax_KC q A s s.heap ∧ (∀ x : Nat, s.heap.size ≤ x → A x)
def ax_LH (q : (Nat → Nat) × Value) (ls : Array Slot) (nL : Nat) (L : List AV) : Prop := ls.size = nL ∧ L.length = nL ∧ lv_wf ls ∧ ∀ (i : Nat) (v : AV), L[i]? = some v → (∃ z : Int, v = xL z) ∨ ls[i]? = some (.val (ax_rv q v))
/-- the machine, at instruction i of method k, comes to its end with Q -/
def ax_SW (d k i : Nat) (L st : List AV) (μ : Mem) (Q : AV → Mem → Prop) : Prop :=
  ∀ (l : Launch) (D : va_G) (tc : Nat → ClassId) (q : (Nat → Nat) × Value) (p : Program) (e : Env) (s : State) (m : MethodId) (args : Array Value) (below : List Frame) (meth : Method) (c : Code) (A : Nat → Prop) (H : Heap) (locs : List Loc) (ls : Array Slot),
    ax_CT k D tc q p s m args meth c A → va_P D ax_cl (ax_wd (ax_sd k) q tc μ) H → va_D A (ax_wd (ax_sd k) q tc μ) → va_S A s.heap H locs → ax_LH q ls (ax_ml k) L → (∀ v ∈ L, ax_okv v) → (∀ v ∈ st, ax_okv v) → ax_okm μ →
    W p l e (ax_rm d) s m args below meth c H locs 0 0 (MQ below (ax_QC (ax_sd k) (ax_rk k) q tc D A Q) args s 0 0 A) (F0 m (ax_pc k i) ls (st.map (ax_rv q)))
/-- at a cut -/
def DW (d k a : Nat) (L : List AV) (μ : Mem) (Q : AV → Mem → Prop) : Prop := ax_SW d k (a + 1) L [] μ Q
/-- instructions that touch locals and the stack alone -/
def ax_pu (op : AOp) (L st : List AV) : Option (List AV × List AV) := match op with
  | (o, a, b, _, z, _) => match o with
    | 0 => some (L, xI z :: st)
    | 1 => some (L, xR b :: st)
    | 2 => some (L, xL z :: st)
    | 3 => match L[a]? with
      | some (.inl x) => some (L, xI x :: st)
      | _ => none
    | 4 => match L[a]? with
      | some (.inr (.inl r)) => match Nat.beq r 150 with
        | true => none
        | false => some (L, xR r :: st)
      | _ => none
    | 5 => match st with
      | .inl x :: st' => match Nat.blt a L.length with
        | true => some (L.set a (xI x), st')
        | false => none
      | _ => none
    | 6 => match st with
      | .inr (.inl r) :: st' => match Nat.blt a L.length && !(Nat.beq r 150) with
        | true => some (L.set a (xR r), st')
        | false => none
      | _ => none
    | 7 => match L[a]? with
      | some (.inl x) => some (L.set a (xI (iw (x + z))), st)
      | _ => none
    | 8 => match st with
      | .inl y :: .inl x :: st' => some (L, xI (iw (x + y)) :: st')
      | _ => none
    | 9 => match st with
      | .inl y :: .inl x :: st' => some (L, xI (iw (x - y)) :: st')
      | _ => none
    | 10 => match st with
      | .inl y :: .inl x :: st' => some (L, xI (iw (x * y)) :: st')
      | _ => none
    | 13 => match st with
      | .inl y :: .inl x :: st' => some (L, xI (xand x y) :: st')
      | _ => none
    | 14 => match st with
      | .inl y :: .inl x :: st' => some (L, xI (xior x y) :: st')
      | _ => none
    | 15 => match st with
      | .inl y :: .inl x :: st' => some (L, xI (xxor x y) :: st')
      | _ => none
    | 16 => match st with
      | .inl y :: .inl x :: st' => some (L, xI (xshl x y) :: st')
      | _ => none
    | 17 => match st with
      | .inl y :: .inl x :: st' => some (L, xI (xshr x y) :: st')
      | _ => none
    | 18 => match st with
      | .inl y :: .inl x :: st' => some (L, xI (xushr x y) :: st')
      | _ => none
    | 19 => match st with
      | .inl x :: st' => some (L, xL x :: st')
      | _ => none
    | 20 => match st with
      | .inl x :: st' => some (L, xI (xi2b x) :: st')
      | _ => none
    | 21 => match st with
      | .inl x :: st' => some (L, xI (xi2c x) :: st')
      | _ => none
    | 22 => match st with
      | .inr (.inr (.inr y)) :: .inr (.inr (.inr x)) :: st' => some (L, xL (lw (x + y)) :: st')
      | _ => none
    | 23 => match st with
      | .inr (.inr (.inr y)) :: .inr (.inr (.inr x)) :: st' => some (L, xL (lw (x - y)) :: st')
      | _ => none
    | 24 => match st with
      | .inr (.inr (.inr y)) :: .inr (.inr (.inr x)) :: st' => some (L, xL (lw (x * y)) :: st')
      | _ => none
    | 25 => match st with
      | .inr (.inr (.inr y)) :: .inr (.inr (.inr x)) :: st' => some (L, xI (xcmp x y) :: st')
      | _ => none
    | 26 => match st with
      | .inl x :: st' => some (L, xI x :: xI x :: st')
      | .inr (.inl r) :: st' => some (L, xR r :: xR r :: st')
      | _ => none
    | 27 => match st with
      | .inl x :: .inr (.inl r) :: st' => some (L, xI x :: xR r :: xI x :: xR r :: st')
      | _ => none
    | 28 => match st with
      | .inl _ :: st' => some (L, st')
      | _ => none
    | _ => none
/-- what a caller goes on with: an int, nothing, a reference -/
def gI (F : Int → Mem → Prop) : AV → Mem → Prop := fun v μ' => match v with
  | .inl x => F x μ'
  | _ => False
def gV (F : Mem → Prop) : AV → Mem → Prop := fun _ μ' => F μ'
def gR (F : Nat → Mem → Prop) : AV → Mem → Prop := fun v μ' => match v with
  | .inr (.inl r) => F r μ'
  | _ => False
def ax_nl (v : AV) : Bool := match v with
  | .inr (.inr (.inr _)) => false
  | _ => true
/-- the weakest precondition, as far as the next cut -/
def ax_wp : Nat → Nat → Nat → List AOp → List AOp → List AV → List AV → Mem → (AV → Mem → Prop) → Prop
  | 0, _, _, _, _, _, _, _, _ => False
  | n + 1, d, k, C, R, L, st, μ, Q => match R with
    | [] => False
    | (o, a, b, c, z, t) :: R' => match o with
      | 11 => match st with
        | .inl y :: .inl x :: st' => wz y (ax_wp n d k C R' L (xI (xdiv x y) :: st') μ Q)
        | _ => False
      | 12 => match st with
        | .inl y :: .inl x :: st' => wz y (ax_wp n d k C R' L (xI (xrem x y) :: st') μ Q)
        | _ => False
      | 29 => match st with
        | .inl x :: st' => if x = 0 then ax_wp n d k C (C.drop a) L st' μ Q else ax_wp n d k C R' L st' μ Q
        | _ => False
      | 30 => match st with
        | .inl x :: st' => if x = 0 then ax_wp n d k C R' L st' μ Q else ax_wp n d k C (C.drop a) L st' μ Q
        | _ => False
      | 31 => match st with
        | .inl x :: st' => if x < 0 then ax_wp n d k C (C.drop a) L st' μ Q else ax_wp n d k C R' L st' μ Q
        | _ => False
      | 32 => match st with
        | .inl x :: st' => if x < 0 then ax_wp n d k C R' L st' μ Q else ax_wp n d k C (C.drop a) L st' μ Q
        | _ => False
      | 33 => match st with
        | .inl x :: st' => if 0 < x then ax_wp n d k C (C.drop a) L st' μ Q else ax_wp n d k C R' L st' μ Q
        | _ => False
      | 34 => match st with
        | .inl x :: st' => if 0 < x then ax_wp n d k C R' L st' μ Q else ax_wp n d k C (C.drop a) L st' μ Q
        | _ => False
      | 35 => match st with
        | .inl y :: .inl x :: st' => if x = y then ax_wp n d k C (C.drop a) L st' μ Q else ax_wp n d k C R' L st' μ Q
        | _ => False
      | 36 => match st with
        | .inl y :: .inl x :: st' => if x = y then ax_wp n d k C R' L st' μ Q else ax_wp n d k C (C.drop a) L st' μ Q
        | _ => False
      | 37 => match st with
        | .inl y :: .inl x :: st' => if x < y then ax_wp n d k C (C.drop a) L st' μ Q else ax_wp n d k C R' L st' μ Q
        | _ => False
      | 38 => match st with
        | .inl y :: .inl x :: st' => if x < y then ax_wp n d k C R' L st' μ Q else ax_wp n d k C (C.drop a) L st' μ Q
        | _ => False
      | 39 => match st with
        | .inl y :: .inl x :: st' => if y < x then ax_wp n d k C (C.drop a) L st' μ Q else ax_wp n d k C R' L st' μ Q
        | _ => False
      | 40 => match st with
        | .inl y :: .inl x :: st' => if y < x then ax_wp n d k C R' L st' μ Q else ax_wp n d k C (C.drop a) L st' μ Q
        | _ => False
      | 41 => ax_wp n d k C (C.drop a) L st μ Q
      | 42 => match st with
        | .inl x :: st' => ax_sw t x (fun g => ax_wp n d k C (C.drop g) L st' μ Q) a
        | _ => False
      | 43 => match st with
        | .inl x :: st' => ax_sw t x (fun g => ax_wp n d k C (C.drop g) L st' μ Q) a
        | _ => False
      | 44 => match st with
        | .inr (.inl r) :: st' => match ax_fld k r b c with
          | some 0 => ax_wp n d k C R' L (xI (μ r c) :: st') μ Q
          | some 1 => ax_wp n d k C R' L (xL (μ r c) :: st') μ Q
          | some (g + 2) => ax_wp n d k C R' L (xR g :: st') μ Q
          | none => match ax_str r && Nat.beq b 50 with
            | true => match c with
              | 0 => ax_wp n d k C R' L (xR (r + 20) :: st') μ Q
              | 1 => ax_wp n d k C R' L (xI 0 :: st') μ Q
              | _ => False
            | false => False
        | _ => False
      | 45 => match st with
        | .inl x :: .inr (.inl r) :: st' => match ax_fld k r b c with
          | some 0 => ax_wp n d k C R' L st' (xset μ r c x) Q
          | _ => False
        | .inr (.inr (.inr x)) :: .inr (.inl r) :: st' => match ax_fld k r b c with
          | some 1 => ax_wp n d k C R' L st' (xset μ r c x) Q
          | _ => False
        | _ => False
      | 46 => match b with
        | 0 => ax_wp n d k C R' L (xI 1 :: st) μ Q
        | 1 => ax_wp n d k C R' L (xR 150 :: st) μ Q
        | g + 2 => ax_wp n d k C R' L (xR (140 + g) :: st) μ Q
      | 47 => match st with
        | .inl i :: .inr (.inl r) :: st' => match ax_arr 1 k r with
          | some len => wb i len (ax_wp n d k C R' L (xI (μ r i.toNat) :: st') μ Q)
          | none => match ax_con r with
            | some l => wb i l.length (ax_wp n d k C R' L (xI (l.getD i.toNat 0) :: st') μ Q)
            | none => False
        | .inl i :: .inr (.inr (.inl w)) :: st' => match ax_row k w.1 with
          | some nm => wb i nm.2 (ax_wp n d k C R' L (xI (μ (w.1 + 1 + w.2.toNat) i.toNat) :: st') μ Q)
          | none => False
        | _ => False
      | 48 => match st with
        | .inl x :: .inl i :: .inr (.inl r) :: st' => match ax_arr 1 k r with
          | some len => wb i len (ax_wp n d k C R' L st' (xset μ r i.toNat x) Q)
          | none => False
        | .inl x :: .inl i :: .inr (.inr (.inl w)) :: st' => match ax_row k w.1 with
          | some nm => wb i nm.2 (ax_wp n d k C R' L st' (xset μ (w.1 + 1 + w.2.toNat) i.toNat x) Q)
          | none => False
        | _ => False
      | 49 => match st with
        | .inl i :: .inr (.inl r) :: st' => match ax_arr 2 k r with
          | some len => wb i len (ax_wp n d k C R' L (xI (μ r i.toNat) :: st') μ Q)
          | none => match ax_byt r with
            | some l => wb i l.length (ax_wp n d k C R' L (xI (l.getD i.toNat 0) :: st') μ Q)
            | none => False
        | _ => False
      | 50 => match st with
        | .inl x :: .inl i :: .inr (.inl r) :: st' => match ax_arr 2 k r with
          | some len => wb i len (wb x 2 (ax_wp n d k C R' L st' (xset μ r i.toNat x) Q))
          | none => False
        | _ => False
      | 51 => match st with
        | .inl i :: .inr (.inl r) :: st' => match ax_ref k r with
          | some ks => ax_sel 0 ks i (fun g => ax_wp n d k C R' L (xR g :: st') μ Q)
          | none => match ax_row k r with
            | some nm => wb i nm.1 (ax_wp n d k C R' L (xW r i :: st') μ Q)
            | none => False
        | _ => False
      | 52 => match st with
        | .inr (.inl r) :: st' => match ax_arr 1 k r with
          | some len => ax_wp n d k C R' L (xI (len : Int) :: st') μ Q
          | none => match ax_con r with
            | some l => ax_wp n d k C R' L (xI (l.length : Int) :: st') μ Q
            | none => match ax_byt r with
              | some l => ax_wp n d k C R' L (xI (l.length : Int) :: st') μ Q
              | none => False
        | _ => False
      | 53 => match st with
        | [.inl x] => match ax_rk k with
          | 1 => Q (xI x) μ
          | 2 => wb x 2 (Q (xI x) μ)
          | 4 => wb x 65536 (Q (xI x) μ)
          | 5 => wb x 128 (Q (xI x) μ)
          | _ => False
        | _ => False
      | 54 => match st with
        | [] => match ax_rk k with
          | 0 => Q (xI 0) μ
          | _ => False
        | _ => False
      | 55 => match st with
        | [.inr (.inl r)] => match ax_rk k with
          | 3 => match Nat.beq r 150 with
            | true => False
            | false => Q (xR r) μ
          | _ => False
        | _ => False
      | 56 => match d with
        | 0 => False
        | d' + 1 => match st.drop c with
          | .inr (.inl r) :: st' => match (ax_inS k r && Nat.beq (ax_cd r).1 0 && Nat.beq (ax_cd r).2.1 (ax_mciL.getD b 99)) || (ax_str r && Nat.beq (ax_mciL.getD b 99) 50) with
            | true => match Nat.beq (st.take c).length c && Nat.ble st'.length 4 with
              | true => match z with
                | 0 => match ax_rk b with
                  | 0 => GM d' b (xR r :: (st.take c).reverse) μ (gV (fun μ' => ax_wp n (d' + 1) k C R' L st' μ' Q))
                  | 3 => GM d' b (xR r :: (st.take c).reverse) μ (gR (fun g μ' => ax_wp n (d' + 1) k C R' L (xR g :: st') μ' Q))
                  | _ => GM d' b (xR r :: (st.take c).reverse) μ (gI (fun y μ' => ax_wp n (d' + 1) k C R' L (xI y :: st') μ' Q))
                | _ => match (st.take c).all ax_nl with
                  | true => match ax_rk b with
                    | 0 => ax_wp n d' b (ax_codes b) (ax_codes b) ((xR r :: (st.take c).reverse) ++ List.replicate (ax_ml b - (c + 1)) (xL 0)) [] μ (gV (fun μ' => ax_wp n (d' + 1) k C R' L st' μ' Q))
                    | 3 => ax_wp n d' b (ax_codes b) (ax_codes b) ((xR r :: (st.take c).reverse) ++ List.replicate (ax_ml b - (c + 1)) (xL 0)) [] μ (gR (fun g μ' => ax_wp n (d' + 1) k C R' L (xR g :: st') μ' Q))
                    | _ => ax_wp n d' b (ax_codes b) (ax_codes b) ((xR r :: (st.take c).reverse) ++ List.replicate (ax_ml b - (c + 1)) (xL 0)) [] μ (gI (fun y μ' => ax_wp n (d' + 1) k C R' L (xI y :: st') μ' Q))
                  | false => False
              | false => False
            | false => False
          | _ => False
      | 57 => match d with
        | 0 => False
        | d' + 1 => match Nat.beq (st.take c).length c && Nat.ble (st.drop c).length 4 with
          | true => match z with
            | 0 => match ax_rk b with
              | 0 => GM d' b (st.take c).reverse μ (gV (fun μ' => ax_wp n (d' + 1) k C R' L (st.drop c) μ' Q))
              | 3 => GM d' b (st.take c).reverse μ (gR (fun g μ' => ax_wp n (d' + 1) k C R' L (xR g :: (st.drop c)) μ' Q))
              | _ => GM d' b (st.take c).reverse μ (gI (fun y μ' => ax_wp n (d' + 1) k C R' L (xI y :: (st.drop c)) μ' Q))
            | _ => match (st.take c).all ax_nl with
              | true => match ax_rk b with
                | 0 => ax_wp n d' b (ax_codes b) (ax_codes b) ((st.take c).reverse ++ List.replicate (ax_ml b - c) (xL 0)) [] μ (gV (fun μ' => ax_wp n (d' + 1) k C R' L (st.drop c) μ' Q))
                | 3 => ax_wp n d' b (ax_codes b) (ax_codes b) ((st.take c).reverse ++ List.replicate (ax_ml b - c) (xL 0)) [] μ (gR (fun g μ' => ax_wp n (d' + 1) k C R' L (xR g :: (st.drop c)) μ' Q))
                | _ => ax_wp n d' b (ax_codes b) (ax_codes b) ((st.take c).reverse ++ List.replicate (ax_ml b - c) (xL 0)) [] μ (gI (fun y μ' => ax_wp n (d' + 1) k C R' L (xI y :: (st.drop c)) μ' Q))
              | false => False
          | false => False
      | 58 => match d with
        | 0 => False
        | d' + 1 => match st with
          | [.inl nn, .inl dp, .inr (.inl rd), .inl sp, .inr (.inl rs)] => match ax_arr 1 k rs with
            | some l0 => match ax_arr 1 k rd with
              | some l1 => wb sp (l0 + 1) (wb dp (l1 + 1) (wb nn (l0 + 1) (wb (sp + nn) (l0 + 1) (wb (dp + nn) (l1 + 1) (ax_wp n (d' + 1) k C R' L [] (xcpy μ rs rd sp.toNat dp.toNat nn.toNat) Q)))))
              | none => False
            | none => False
          | _ => False
      | 59 => match st with
        | [] => DW d k a L μ Q
        | _ => False
      | 61 => match d with
        | 0 => False
        | d' + 1 => match st with
          | .inl y :: .inl x :: st' => match Nat.ble st'.length 4 with
            | true => ax_wp n (d' + 1) k C R' L (xI (max x y) :: st') μ Q
            | false => False
          | _ => False
      | 62 => match d with
        | 0 => False
        | d' + 1 => match st with
          | .inl y :: .inl x :: st' => match Nat.ble st'.length 4 with
            | true => ax_wp n (d' + 1) k C R' L (xI (min x y) :: st') μ Q
            | false => False
          | _ => False
      | _ => match ax_pu (o, a, b, c, z, t) L st with
        | some p => ax_wp n d k C R' p.1 p.2 μ Q
        | none => False
end
section
/-! numbers -/
theorem ax_iw (z : Int) : iw z = z.bmod 4294967296 := by
  rw [Int.bmod_def, iw_def]; split <;> omega
theorem ax_lw (z : Int) : lw z = z.bmod 18446744073709551616 := by
  rw [Int.bmod_def, lw_def]; split <;> omega
theorem ax_iwr (z : Int) : ax_r32 (iw z) := by unfold ax_r32; rw [iw_def]; omega
theorem ax_lwr (z : Int) : ax_r64 (lw z) := by unfold ax_r64; rw [lw_def]; omega
theorem ax_ti {x : Int} (h : ax_r32 x) : (Int32.ofInt x).toInt = x := Int32.toInt_ofInt_of_le (by have := h.1; omega) (by have := h.2; omega)
theorem ax_tl {x : Int} (h : ax_r64 x) : (Int64.ofInt x).toInt = x := Int64.toInt_ofInt_of_le (by have := h.1; omega) (by have := h.2; omega)
theorem ax_t32 (x : Int32) : ax_r32 x.toInt := ⟨by have := Int32.le_toInt x; omega, by have := Int32.toInt_lt x; omega⟩
theorem ax_add {x y : Int} (hx : ax_r32 x) (hy : ax_r32 y) : Int32.ofInt x + Int32.ofInt y = Int32.ofInt (iw (x + y)) := by
  apply Int32.toInt_inj.mp
  rw [Int32.toInt_add, ax_ti hx, ax_ti hy, ax_ti (ax_iwr _), ax_iw]
theorem ax_sub {x y : Int} (hx : ax_r32 x) (hy : ax_r32 y) : Int32.ofInt x - Int32.ofInt y = Int32.ofInt (iw (x - y)) := by
  apply Int32.toInt_inj.mp
  rw [Int32.toInt_sub, ax_ti hx, ax_ti hy, ax_ti (ax_iwr _), ax_iw]
theorem ax_mul {x y : Int} (hx : ax_r32 x) (hy : ax_r32 y) : Int32.ofInt x * Int32.ofInt y = Int32.ofInt (iw (x * y)) := by
  apply Int32.toInt_inj.mp
  rw [Int32.toInt_mul, ax_ti hx, ax_ti hy, ax_ti (ax_iwr _), ax_iw]
theorem ax_ladd {x y : Int} (hx : ax_r64 x) (hy : ax_r64 y) : Int64.ofInt x + Int64.ofInt y = Int64.ofInt (lw (x + y)) := by
  apply Int64.toInt_inj.mp
  rw [Int64.toInt_add, ax_tl hx, ax_tl hy, ax_tl (ax_lwr _), ax_lw]
theorem ax_lsub {x y : Int} (hx : ax_r64 x) (hy : ax_r64 y) : Int64.ofInt x - Int64.ofInt y = Int64.ofInt (lw (x - y)) := by
  apply Int64.toInt_inj.mp
  rw [Int64.toInt_sub, ax_tl hx, ax_tl hy, ax_tl (ax_lwr _), ax_lw]
theorem ax_lmul {x y : Int} (hx : ax_r64 x) (hy : ax_r64 y) : Int64.ofInt x * Int64.ofInt y = Int64.ofInt (lw (x * y)) := by
  apply Int64.toInt_inj.mp
  rw [Int64.toInt_mul, ax_tl hx, ax_tl hy, ax_tl (ax_lwr _), ax_lw]
theorem ax_divE {x y : Int} (hx : ax_r32 x) (hy : ax_r32 y) : Int32.ofInt x / Int32.ofInt y = Int32.ofInt (xdiv x y) := by
  apply Int32.toInt_inj.mp
  rw [Int32.toInt_div, ax_ti hx, ax_ti hy, xdiv, ax_ti (ax_iwr _), ax_iw]
theorem ax_ofw (z : Int) : Int32.ofInt (iw z) = Int32.ofInt z := by
  apply Int32.toInt_inj.mp
  rw [ax_ti (ax_iwr _), Int32.toInt_ofInt, ax_iw]
theorem ax_remr {x y : Int} (hx : ax_r32 x) (hy : ax_r32 y) (h : y ≠ 0) : ax_r32 (xrem x y) := by
  unfold xrem ax_r32 at *
  have h1 := Int.natAbs_tmod x y
  have h2 := Nat.mod_lt x.natAbs (show 0 < y.natAbs by omega)
  have h3 := Nat.mod_le x.natAbs y.natAbs
  omega
theorem ax_remE {x y : Int} (hx : ax_r32 x) (hy : ax_r32 y) (h : y ≠ 0) : Int32.ofInt x - Int32.ofInt x / Int32.ofInt y * Int32.ofInt y = Int32.ofInt (xrem x y) := by
  rw [ax_divE hx hy]
  have hd : ax_r32 (xdiv x y) := ax_iwr _
  rw [ax_mul hd hy, ax_sub hx (ax_iwr _), ax_ofw]
  apply Int32.toInt_inj.mp
  rw [Int32.toInt_ofInt, ax_ti (ax_remr hx hy h)]
  have e1 : iw (xdiv x y * y) = (x.tdiv y * y).bmod 4294967296 := by
    rw [ax_iw, xdiv, ax_iw, Int.bmod_mul_bmod]
  rw [e1]
  show (x - (x.tdiv y * y).bmod 4294967296).bmod 4294967296 = xrem x y
  rw [Int.sub_bmod_bmod, show x - x.tdiv y * y = xrem x y from by unfold xrem; rw [Int.tmod_def, Int.mul_comm]]
  rw [← ax_iw]
  have := ax_remr hx hy h
  unfold ax_r32 at *
  rw [iw_def]
  omega
theorem ax_eqI {x y : Int} (hx : ax_r32 x) (hy : ax_r32 y) : Int32.ofInt x = Int32.ofInt y ↔ x = y := by
  rw [← Int32.toInt_inj, ax_ti hx, ax_ti hy]
theorem ax_ltI {x y : Int} (hx : ax_r32 x) (hy : ax_r32 y) : Int32.ofInt x < Int32.ofInt y ↔ x < y := by
  rw [Int32.lt_iff_toInt_lt, ax_ti hx, ax_ti hy]
theorem ax_leI {x y : Int} (hx : ax_r32 x) (hy : ax_r32 y) : Int32.ofInt x ≤ Int32.ofInt y ↔ x ≤ y := by
  rw [Int32.le_iff_toInt_le, ax_ti hx, ax_ti hy]
theorem ax_r0 : ax_r32 0 := ⟨by decide, by decide⟩
theorem ax_i0 : (0 : Int32) = Int32.ofInt 0 := rfl
theorem ax_vin {i : Int} {n : Nat} (hi : ax_r32 i) (h0 : 0 ≤ i) (h1 : i < (n : Int)) : vp_in (Int32.ofInt i) n := by
  rw [vp_in_iff, ax_ti hi]
  exact ⟨h0, h1⟩
theorem ax_cl0 {i : Int} (hi : ax_r32 i) : (Int32.ofInt i).toNatClampNeg = i.toNat := by
  show (Int32.ofInt i).toInt.toNat = i.toNat
  rw [ax_ti hi]
/-! tables -/
theorem ax_bs_dq {k i n : Nat} {I : Instr} (h : ax_dq k i I n = true) : decode (ax_bs k) (ax_pc k i) = .ok (I, n) ∧ ax_pc k (i + 1) = ax_pc k i + n := by
  simp only [ax_dq, Bool.and_eq_true, decide_eq_true_eq] at h
  exact ⟨h.1, Nat.eq_of_beq_eq_true h.2⟩
theorem ax_bs_d1 {k i n : Nat} {I : Instr} (h : ax_d1 k i I n = true) : decode (ax_bs k) (ax_pc k i) = .ok (I, n) := by
  simpa only [ax_d1, decide_eq_true_eq] using h
theorem ax_bs_tg {k i a : Nat} {z : Int} (h : ax_tg k i a z = true) : (ax_pc k i : Int) + z = (ax_pc k a : Int) := by
  simpa only [ax_tg, decide_eq_true_eq] using h
theorem ax_okAt {k i : Nat} {op : AOp} (hk : k < ax_K) (h : (ax_codes k)[i]? = some op) : ax_ok k i op = true := by
  have h1 := ax_okAll k hk
  unfold ax_okM at h1
  simp only [Bool.and_eq_true] at h1
  have h2 := List.all_eq_true.mp h1.1.1.1.1.1 i (List.mem_range.mpr (List.getElem?_eq_some_iff.mp h).1)
  rw [h] at h2
  exact h2
theorem ax_okN {k : Nat} (hk : k < ax_K) : ax_pc k 0 = 0 ∧ ax_ml k ≤ 20 ∧ plainName (ax_y k).cls = true ∧ (ax_y k).cls ≠ "java/lang/invoke/MethodHandle" ∧ (ax_y k).cls ≠ "java/lang/invoke/VarHandle" := by
  have h1 := ax_okAll k hk
  unfold ax_okM at h1
  simp only [Bool.and_eq_true, decide_eq_true_eq] at h1
  exact ⟨Nat.eq_of_beq_eq_true h1.1.1.1.1.2, Nat.le_of_ble_eq_true h1.1.1.1.2, h1.1.1.2, h1.1.2, h1.2⟩
/-! locals -/
theorem ax_cat1 {q : (Nat → Nat) × Value} (hq : q.2 = .null ∨ ∃ t : Nat, q.2 = .ref t) : ∀ v : AV, (∀ z, v ≠ xL z) → (ax_rv q v).category = 1
  | .inl x, _ => rfl
  | .inr (.inl r), _ => by
    show (if r = 150 then q.2 else Value.ref (q.1 r)).category = 1
    by_cases h : r = 150
    · rw [if_pos h]
      rcases hq with e | ⟨t, e⟩ <;> rw [e] <;> rfl
    · rw [if_neg h]; rfl
  | .inr (.inr (.inl w)), _ => rfl
  | .inr (.inr (.inr z)), h => absurd rfl (h z)
def ax_lp (q : (Nat → Nat) × Value) (L : List AV) : List (Nat × Value) := (List.range L.length).filterMap (fun i => match (L[i]? : Option AV) with
  | some (Sum.inr (Sum.inr (Sum.inr _))) => none
  | some v => some (i, ax_rv q v)
  | none => none)
theorem ax_lp_has {q : (Nat → Nat) × Value} {ls : Array Slot} {nL : Nat} {L : List AV} (h : ax_LH q ls nL L) : lv_has ls nL (ax_lp q L) := by
  obtain ⟨h1, h2, h3, h4⟩ := h
  refine ⟨h1, h3, fun x hx => ?_⟩
  obtain ⟨i, -, hi⟩ := List.mem_filterMap.mp hx
  cases hv : L[i]? with
  | none => rw [hv] at hi; simp at hi
  | some v =>
    rw [hv] at hi
    have key : ∀ w : AV, L[i]? = some w → (∀ z, w ≠ xL z) → (i, ax_rv q w) = x → ls[x.1]? = some (.val x.2) := by
      intro w hw hz he
      rcases h4 i w hw with ⟨z, e⟩ | e
      · exact absurd e (hz z)
      · rw [← he]; exact e
    match v, hv, hi with
    | .inl y, hv, hi => exact key _ hv (fun z e => by cases e) (Option.some.inj hi)
    | .inr (.inl r), hv, hi => exact key _ hv (fun z e => by cases e) (Option.some.inj hi)
    | .inr (.inr (.inl w)), hv, hi => exact key _ hv (fun z e => by cases e) (Option.some.inj hi)
theorem ax_lp_set {q : (Nat → Nat) × Value} (hq : q.2 = .null ∨ ∃ t : Nat, q.2 = .ref t) {ls ls' : Array Slot} {nL a : Nat} {L : List AV} {v : AV} (h : ax_LH q ls nL L) (ha : a < L.length)
    (h' : lv_has ls' nL ((a, ax_rv q v) :: (ax_lp q L).filter (fun x => !(x.1 == a) && !(x.1 + 1 == a && x.2.category == 2)))) : ax_LH q ls' nL (L.set a v) := by
  obtain ⟨h1, h2, h3, h4⟩ := h
  refine ⟨h'.1, by rw [List.length_set]; exact h2, h'.2.1, fun i w hw => ?_⟩
  by_cases e : i = a
  · subst e
    rw [List.getElem?_set_self ha] at hw
    cases hw
    exact Or.inr (h'.2.2 (i, ax_rv q v) List.mem_cons_self)
  · rw [List.getElem?_set_ne (fun z => e z.symm)] at hw
    by_cases hz : ∃ z, w = xL z
    · exact Or.inl hz
    · refine Or.inr (h'.2.2 (i, ax_rv q w) (List.mem_cons_of_mem _ (List.mem_filter.mpr ⟨?_, ?_⟩)))
      · refine List.mem_filterMap.mpr ⟨i, List.mem_range.mpr (List.getElem?_eq_some_iff.mp hw).1, ?_⟩
        rw [hw]
        match w, hz with
        | .inl y, _ => rfl
        | .inr (.inl r), _ => rfl
        | .inr (.inr (.inl w)), _ => rfl
        | .inr (.inr (.inr z)), hz => exact absurd ⟨z, rfl⟩ hz
      · have hc := ax_cat1 hq w (fun z e => hz ⟨z, e⟩)
        show (!(i == a) && !(i + 1 == a && (ax_rv q w).category == 2)) = true
        rw [hc]
        simp [e]
theorem ax_set_ok {L : List AV} {a : Nat} {v : AV} (h : ∀ w ∈ L, ax_okv w) (hv : ax_okv v) : ∀ w ∈ L.set a v, ax_okv w := by
  intro w hw
  rcases List.mem_or_eq_of_mem_set hw with h1 | h1
  · exact h w h1
  · rw [h1]; exact hv
/-! the world -/
theorem ax_wd_get {sd : Nat × Nat} {q : (Nat → Nat) × Value} {tc : Nat → ClassId} {μ : Mem} {i : Nat} (h1 : sd.1 ≤ i) (h2 : i < sd.1 + sd.2) : (ax_wd sd q tc μ)[i - sd.1]? = some (q.1 i, ax_cE q tc μ i) := by
  unfold ax_wd
  rw [List.getElem?_map, List.getElem?_range (by omega)]
  show some (q.1 (sd.1 + (i - sd.1)), ax_cE q tc μ (sd.1 + (i - sd.1))) = _
  rw [show sd.1 + (i - sd.1) = i by omega]
theorem ax_cE_congr {q : (Nat → Nat) × Value} {tc : Nat → ClassId} {μ μ' : Mem} {i : Nat} (h : ∀ j, μ' i j = μ i j) : ax_cE q tc μ' i = ax_cE q tc μ i := by
  have h' : μ' i = μ i := funext h
  unfold ax_cE
  split <;> simp only [ax_fv, h']
theorem ax_wd_set {sd : Nat × Nat} {q : (Nat → Nat) × Value} {tc : Nat → ClassId} {μ μ' : Mem} {i : Nat} {e : va_E} (h1 : sd.1 ≤ i) (h2 : i < sd.1 + sd.2) (he : e = ax_cE q tc μ' i) (ho : ∀ i', i' ≠ i → ∀ j, μ' i' j = μ i' j) : (ax_wd sd q tc μ).set (i - sd.1) (q.1 i, e) = ax_wd sd q tc μ' := by
  apply List.ext_getElem?
  intro j
  by_cases hj : j = i - sd.1
  · subst hj
    rw [List.getElem?_set_self (by unfold ax_wd; rw [List.length_map, List.length_range]; omega), ax_wd_get h1 h2, he]
  · rw [List.getElem?_set_ne (fun z => hj z.symm)]
    unfold ax_wd
    rw [List.getElem?_map, List.getElem?_map]
    by_cases hl : j < sd.2
    · rw [List.getElem?_range hl]
      show some (q.1 (sd.1 + j), ax_cE q tc μ (sd.1 + j)) = some (q.1 (sd.1 + j), ax_cE q tc μ' (sd.1 + j))
      rw [ax_cE_congr (ho (sd.1 + j) (by omega))]
    · rw [List.getElem?_eq_none (by rw [List.length_range]; omega)]
      rfl
theorem ax_inS_e {k r : Nat} (h : ax_inS k r = true) : (ax_sd k).1 ≤ r ∧ r < (ax_sd k).1 + (ax_sd k).2 := by
  simp only [ax_inS, Bool.and_eq_true] at h
  exact ⟨Nat.le_of_ble_eq_true h.1, by have := h.2; simp only [Nat.blt_eq] at this; exact this⟩
theorem ax_fld_e {k r ci j kd : Nat} (h : ax_fld k r ci j = some kd) : ax_inS k r = true ∧ ∃ ks : List Nat, ax_cd r = (0, ci, ks) ∧ ks[j]? = some kd := by
  unfold ax_fld at h
  split at h
  · next hs =>
    split at h
    · next ci' ks hc =>
      split at h
      · next hb =>
        have := Nat.eq_of_beq_eq_true hb
        subst this
        exact ⟨hs, ks, hc, h⟩
      · cases h
    · cases h
  · cases h
theorem ax_arr_e {tg k r n : Nat} (h : ax_arr tg k r = some n) : ax_inS k r = true ∧ ∃ ks : List Nat, ax_cd r = (tg, n, ks) := by
  unfold ax_arr at h
  split at h
  · next hs =>
    split at h
    · next t n' ks hc =>
      split at h
      · next hb =>
        have := Nat.eq_of_beq_eq_true hb
        subst this
        cases h
        exact ⟨hs, ks, hc⟩
      · cases h
  · cases h
theorem ax_row_e {k c : Nat} {nm : Nat × Nat} (h : ax_row k c = some nm) : ax_inS k c = true ∧ ax_cd c = (4, nm.1, [nm.2]) := by
  unfold ax_row at h
  split at h
  · next hs =>
    split at h
    · next n m hc =>
      cases h
      exact ⟨hs, hc⟩
    · cases h
  · cases h
theorem ax_ref_e {k c : Nat} {ks : List Nat} (h : ax_ref k c = some ks) : ax_inS k c = true ∧ ∃ n : Nat, ax_cd c = (3, n, ks) := by
  unfold ax_ref at h
  split at h
  · next hs =>
    split at h
    · next n ks' hc =>
      cases h
      exact ⟨hs, n, hc⟩
    · cases h
  · cases h
theorem ax_rows4 : ∀ c n m : Nat, ax_cd c = (4, n, [m]) → c = 41 ∧ n = 7 ∧ m = 64 := by
  have key : (List.range 75).all (fun c => match ax_cd c with
    | (4, n, [m]) => Nat.beq c 41 && Nat.beq n 7 && Nat.beq m 64
    | _ => true) = true := by decide +kernel
  intro c n m h
  have hc : c < 75 := by
    rcases Nat.lt_or_ge c 75 with q | q
    · exact q
    · have : ax_cd c = (9, 0, []) := by
        unfold ax_cd
        rw [List.getD_eq_getElem?_getD, List.getElem?_eq_none (by have : ax_cdL.length = 75 := by decide +kernel
                                                                  omega)]
        rfl
      rw [this] at h
      cases h
  have h2 := List.all_eq_true.mp key c (List.mem_range.mpr hc)
  rw [h] at h2
  simp only [Bool.and_eq_true] at h2
  exact ⟨Nat.eq_of_beq_eq_true h2.1.1, Nat.eq_of_beq_eq_true h2.1.2, Nat.eq_of_beq_eq_true h2.2⟩
theorem ax_cd4 : ∀ i : Nat, i < 7 → ax_cd (41 + 1 + i) = (1, 64, []) := by decide +kernel
theorem ax_mci_ok : ∀ b : Nat, b < ax_K → (ax_mciL.getD b 99 = 50 → (ax_y b).cls = "java/lang/String") ∧ ∀ q : vw_C, ax_cl[ax_mciL.getD b 99]? = some q → q.1 = (ax_y b).cls := by
  have key : (List.range ax_K).all (fun b => (!(Nat.beq (ax_mciL.getD b 99) 50) || decide ((ax_y b).cls = "java/lang/String")) && (match ax_cl[ax_mciL.getD b 99]? with
    | some q => decide (q.1 = (ax_y b).cls)
    | none => true)) = true := by decide +kernel
  intro b hb
  have h := List.all_eq_true.mp key b (List.mem_range.mpr hb)
  simp only [Bool.and_eq_true, Bool.or_eq_true, Bool.not_eq_true', decide_eq_true_eq] at h
  refine ⟨fun e => ?_, fun q hq => ?_⟩
  · rcases h.1 with h1 | h1
    · rw [e] at h1; cases h1
    · exact h1
  · have h2 := h.2
    rw [hq] at h2
    simpa using h2
theorem ax_cd_cl : ∀ r ci : Nat, ∀ ks : List Nat, ax_cd r = (0, ci, ks) → ∃ q : vw_C, ax_cl[ci]? = some q ∧ ks.length = q.2.2 := by
  have key : (List.range 75).all (fun c => match ax_cd c with
    | (0, ci, ks) => match ax_cl[ci]? with
      | some q => Nat.beq ks.length q.2.2
      | none => false
    | _ => true) = true := by decide +kernel
  intro c ci ks h
  have hc : c < 75 := by
    rcases Nat.lt_or_ge c 75 with q | q
    · exact q
    · have : ax_cd c = (9, 0, []) := by
        unfold ax_cd
        rw [List.getD_eq_getElem?_getD, List.getElem?_eq_none (by have : ax_cdL.length = 75 := by decide +kernel
                                                                  omega)]
        rfl
      rw [this] at h
      cases h
  have h2 := List.all_eq_true.mp key c (List.mem_range.mpr hc)
  rw [h] at h2
  cases hq : ax_cl[ci]? with
  | none => simp only [hq] at h2; cases h2
  | some q => simp only [hq] at h2; exact ⟨q, rfl, Nat.eq_of_beq_eq_true h2⟩
theorem ax_cl_ok {ci : Nat} {q : vw_C} (h : ax_cl[ci]? = some q) : (∀ w ∈ u_ws q.1 q.2.1 q.2.2, w ∈ ax_wsA) ∧ (∀ k, k < q.2.2 → parseFieldDescriptor (q.2.1 k).2.2.1 = some ((parseFieldDescriptor (q.2.1 k).2.2.1).getD .int)) ∧ (∀ a, a < q.2.2 → ∀ b, b < q.2.2 → a ≠ b → (q.2.1 a).2.1 ≠ (q.2.1 b).2.1) := by
  have h1 := ax_clW ci q h
  have h2 : ∀ j, j < q.2.2 → _ := fun j hj => List.all_eq_true.mp h1 j (List.mem_range.mpr hj)
  simp only [Bool.and_eq_true, decide_eq_true_eq] at h2
  refine ⟨fun w hw => ?_, fun k hk => ?_, fun a ha b hb hab => ?_⟩
  · obtain ⟨j, hj, rfl⟩ := List.mem_map.mp hw
    exact (h2 j (List.mem_range.mp hj)).1.1
  · have := (h2 k hk).1.2
    cases e : parseFieldDescriptor (q.2.1 k).2.2.1 with
    | none => rw [e] at this; cases this
    | some t => rfl
  · have := List.all_eq_true.mp (h2 b hb).2 a (List.mem_range.mpr ha)
    simp only [Bool.or_eq_true, beq_iff_eq, decide_eq_true_eq] at this
    rcases this with e | e
    · exact absurd e hab
    · exact e
theorem ax_wsm {k : Nat} {args : Array Value} {s : State} (h : ∀ w ∈ ax_ws k, w.before args s = true) : ∀ w ∈ ax_wsA, w.before args s = true := fun w hw => h w (List.mem_cons_of_mem _ hw)
theorem ax_xset_ok {μ : Mem} {r j : Nat} {v : Int} (h : ax_okm μ) (hv : if ax_lk r j then ax_r64 v else ax_r32 v) : ax_okm (xset μ r j v) := by
  intro a b
  unfold xset
  by_cases e : a = r ∧ b = j
  · rw [if_pos e, e.1, e.2]; exact hv
  · rw [if_neg e]; exact h a b
theorem ax_lk_arr {tg r n : Nat} {ks : List Nat} (h : ax_cd r = (tg, n, ks)) (ht : tg ≠ 0) (j : Nat) : ax_lk r j = false := by
  unfold ax_lk
  rw [h]
  split
  · next hh => cases hh; exact absurd rfl ht
  · rfl
theorem ax_lk_fld {r ci j kd : Nat} {ks : List Nat} (h : ax_cd r = (0, ci, ks)) (hk : ks[j]? = some kd) : ax_lk r j = (kd == 1) := by
  unfold ax_lk
  rw [h]
  show (ks.getD j 0 == 1) = _
  rw [List.getD_eq_getElem?_getD, hk]
  rfl
end
section
theorem ax_rvR {q : (Nat → Nat) × Value} {r : Nat} (h : r ≠ 150) : ax_rv q (xR r) = .ref (q.1 r) := by
  show (if r = 150 then q.2 else Value.ref (q.1 r)) = _
  rw [if_neg h]
theorem ax_c2 {P : AV → Prop} {a : AV} {l : List AV} (h : ∀ v ∈ a :: l, P v) : P a ∧ ∀ v ∈ l, P v := List.forall_mem_cons.mp h
theorem ax_cc {P : AV → Prop} {a : AV} {l : List AV} (h1 : P a) (h2 : ∀ v ∈ l, P v) : ∀ v ∈ a :: l, P v := List.forall_mem_cons.mpr ⟨h1, h2⟩
theorem ax_i8 {z : Int} (h1 : -128 ≤ z) (h2 : z < 128) : (Int8.ofInt z).toInt32 = Int32.ofInt z := by
  apply Int32.toInt_inj.mp
  rw [ax_ti ⟨by omega, by omega⟩, Int8.toInt_toInt32]
  exact Int8.toInt_ofInt_of_le (by omega) (by omega)
theorem ax_i16 {z : Int} (h1 : -32768 ≤ z) (h2 : z < 32768) : (Int16.ofInt z).toInt32 = Int32.ofInt z := by
  apply Int32.toInt_inj.mp
  rw [ax_ti ⟨by omega, by omega⟩, Int16.toInt_toInt32]
  exact Int16.toInt_ofInt_of_le (by omega) (by omega)
theorem ax_f4v {a : Nat} (h : a < 4) : ((ax_f4 a : Fin 4) : Nat) = a := by
  show a % 4 = a
  omega
theorem ax_blt {a b : Nat} (h : Nat.blt a b = true) : a < b := by simpa only [Nat.blt_eq] using h
theorem ax_s0 {d k i : Nat} {L st : List AV} {μ : Mem} {Q : AV → Mem → Prop} {a b c : Nat} {z : Int} {t : List (Int × Nat)} (hop : ax_ok k i (0, a, b, c, z, t) = true) (h : ax_SW d k (i + 1) L (xI z :: st) μ Q) : ax_SW d k i L st μ Q := by
  intro l D tc q p e s m args below meth cd A H locs ls C hP hD hS hl hL hst hμ
  have C0 := C
  obtain ⟨hk, hx, hb, hr, hml, hown, hts, hlk, hK, hKC, hA⟩ := C
  match a, hop with
  | 0, hop =>
    simp only [ax_ok, Bool.and_eq_true, decide_eq_true_eq] at hop
    obtain ⟨hd, hpc⟩ := ax_bs_dq hop.1.1
    have h9 := h l D tc q p e s m args below meth cd A H locs ls C0 hP hD hS hl hL (ax_cc ⟨by omega, by omega⟩ hst) hμ
    rw [hpc] at h9
    exact lv_iconst hx hb hd rfl h9
  | 1, hop =>
    simp only [ax_ok, Bool.and_eq_true, decide_eq_true_eq] at hop
    obtain ⟨hd, hpc⟩ := ax_bs_dq hop.1.1
    have h9 := h l D tc q p e s m args below meth cd A H locs ls C0 hP hD hS hl hL (ax_cc ⟨by omega, by omega⟩ hst) hμ
    rw [hpc] at h9
    exact lv_bipush hx hb hd (ax_i8 hop.1.2 hop.2) h9
  | 2, hop =>
    simp only [ax_ok, Bool.and_eq_true, decide_eq_true_eq] at hop
    obtain ⟨hd, hpc⟩ := ax_bs_dq hop.1.1
    have h9 := h l D tc q p e s m args below meth cd A H locs ls C0 hP hD hS hl hL (ax_cc ⟨by omega, by omega⟩ hst) hμ
    rw [hpc] at h9
    exact lv_sipush hx hb hd (ax_i16 hop.1.2 hop.2) h9
  | 3, hop =>
    simp only [ax_ok, Bool.and_eq_true, decide_eq_true_eq] at hop
    obtain ⟨hd, hpc⟩ := ax_bs_dq hop.1.1.1
    have h9 := h l D tc q p e s m args below meth cd A H locs ls C0 hP hD hS hl hL (ax_cc ⟨by omega, by omega⟩ hst) hμ
    rw [hpc] at h9
    exact lv_ldc hx hb hown (ax_wsm hts _ (ax_inM hop.1.1.2)) hd h9
  | a + 4, hop =>
    simp only [ax_ok, Bool.and_eq_true, decide_eq_true_eq] at hop
    obtain ⟨hd, hpc⟩ := ax_bs_dq hop.1.1.1
    have h9 := h l D tc q p e s m args below meth cd A H locs ls C0 hP hD hS hl hL (ax_cc ⟨by omega, by omega⟩ hst) hμ
    rw [hpc] at h9
    exact lv_ldcw hx hb hown (ax_wsm hts _ (ax_inM hop.1.1.2)) hd h9
theorem ax_s1 {d k i : Nat} {L st : List AV} {μ : Mem} {Q : AV → Mem → Prop} {a b c : Nat} {z : Int} {t : List (Int × Nat)} (hop : ax_ok k i (1, a, b, c, z, t) = true) (h : ax_SW d k (i + 1) L (xR b :: st) μ Q) : ax_SW d k i L st μ Q := by
  intro l D tc q p e s m args below meth cd A H locs ls C hP hD hS hl hL hst hμ
  have C0 := C
  obtain ⟨hk, hx, hb, hr, hml, hown, hts, hlk, hK, hKC, hA⟩ := C
  simp only [ax_ok, Bool.and_eq_true, decide_eq_true_eq] at hop
  obtain ⟨⟨⟨⟨hq, hb1⟩, hb2⟩, hc⟩, hi⟩ := hop
  obtain ⟨hd, hpc⟩ := ax_bs_dq hq
  have hb1 := Nat.le_of_ble_eq_true hb1
  have hb2 := ax_blt hb2
  have hi := Nat.eq_of_beq_eq_true hi
  have h9 := h l D tc q p e s m args below meth cd A H locs ls C0 hP hD hS hl hL (ax_cc trivial hst) hμ
  rw [hpc] at h9
  have h8 : W p l e (ax_rm d) s m args below meth cd H locs 0 0 (MQ below (ax_QC (ax_sd k) (ax_rk k) q tc D A Q) args s 0 0 A) (F0 m (ax_pc k i + 2) ls (.ref (q.1 b) :: st.map (ax_rv q))) := by
    have e1 : (xR b :: st).map (ax_rv q) = .ref (q.1 b) :: st.map (ax_rv q) := by rw [List.map_cons, ax_rvR (by omega)]
    rw [← e1]; exact h9
  have hZ := hKC.2.1 (b - 100) (by omega)
  rw [hi, show 100 + (b - 100) = b by omega] at hZ
  rw [hc] at hown
  exact va_ldcS hx hb hown hZ hd h8
theorem ax_s2 {d k i : Nat} {L st : List AV} {μ : Mem} {Q : AV → Mem → Prop} {a b c : Nat} {z : Int} {t : List (Int × Nat)} (hop : ax_ok k i (2, a, b, c, z, t) = true) (h : ax_SW d k (i + 1) L (xL z :: st) μ Q) : ax_SW d k i L st μ Q := by
  intro l D tc q p e s m args below meth cd A H locs ls C hP hD hS hl hL hst hμ
  have C0 := C
  obtain ⟨hk, hx, hb, hr, hml, hown, hts, hlk, hK, hKC, hA⟩ := C
  match a, hop with
  | 0, hop =>
    simp only [ax_ok, Bool.and_eq_true, decide_eq_true_eq] at hop
    obtain ⟨hd, hpc⟩ := ax_bs_dq hop.1
    obtain ⟨-, rfl⟩ := hop
    have h9 := h l D tc q p e s m args below meth cd A H locs ls C0 hP hD hS hl hL (ax_cc ⟨by decide, by decide⟩ hst) hμ
    rw [hpc] at h9
    exact lv_lconst hx hb hd rfl h9
  | a + 1, hop =>
    simp only [ax_ok, Bool.and_eq_true, decide_eq_true_eq] at hop
    obtain ⟨hd, hpc⟩ := ax_bs_dq hop.1.1.1
    have h9 := h l D tc q p e s m args below meth cd A H locs ls C0 hP hD hS hl hL (ax_cc ⟨by omega, by omega⟩ hst) hμ
    rw [hpc] at h9
    exact lv_ldc2 hx hb hown (ax_wsm hts _ (ax_inM hop.1.1.2)) hd h9
theorem ax_s3 {d k i : Nat} {L st : List AV} {μ : Mem} {Q : AV → Mem → Prop} {a b c : Nat} {z x : Int} {t : List (Int × Nat)} (hop : ax_ok k i (3, a, b, c, z, t) = true) (hx0 : L[a]? = some (.inl x)) (h : ax_SW d k (i + 1) L (xI x :: st) μ Q) : ax_SW d k i L st μ Q := by
  intro l D tc q p e s m args below meth cd A H locs ls C hP hD hS hl hL hst hμ
  have C0 := C
  obtain ⟨hk, hx, hb, hr, hml, hown, hts, hlk, hK, hKC, hA⟩ := C
  have hok : ax_okv (xI x) := hL _ (List.mem_of_getElem? hx0)
  have h9 := h l D tc q p e s m args below meth cd A H locs ls C0 hP hD hS hl hL (ax_cc hok hst) hμ
  have hv : ls[a]? = some (.val (.int (Int32.ofInt x))) := by
    rcases hl.2.2.2 a _ hx0 with ⟨z, e⟩ | e
    · cases e
    · exact e
  match b, hop with
  | 0, hop =>
    simp only [ax_ok, Bool.and_eq_true] at hop
    obtain ⟨hd, hpc⟩ := ax_bs_dq hop.1
    rw [hpc] at h9
    exact lv_iload_n hx hb hd (ax_f4v (ax_blt hop.2)) hv h9
  | b + 1, hop =>
    simp only [ax_ok] at hop
    obtain ⟨hd, hpc⟩ := ax_bs_dq hop
    rw [hpc] at h9
    exact lv_iload hx hb hd hv h9
theorem ax_s4 {d k i : Nat} {L st : List AV} {μ : Mem} {Q : AV → Mem → Prop} {a b c r : Nat} {z : Int} {t : List (Int × Nat)} (hop : ax_ok k i (4, a, b, c, z, t) = true) (hx0 : L[a]? = some (.inr (.inl r))) (hr0 : r ≠ 150) (h : ax_SW d k (i + 1) L (xR r :: st) μ Q) : ax_SW d k i L st μ Q := by
  intro l D tc q p e s m args below meth cd A H locs ls C hP hD hS hl hL hst hμ
  have C0 := C
  obtain ⟨hk, hx, hb, hr, hml, hown, hts, hlk, hK, hKC, hA⟩ := C
  have h9 := h l D tc q p e s m args below meth cd A H locs ls C0 hP hD hS hl hL (ax_cc trivial hst) hμ
  have hv : ls[a]? = some (.val (.ref (q.1 r))) := by
    rcases hl.2.2.2 a _ hx0 with ⟨z, e⟩ | e
    · cases e
    · rw [← ax_rvR hr0]; exact e
  rw [List.map_cons, ax_rvR hr0] at h9
  match b, hop with
  | 0, hop =>
    simp only [ax_ok, Bool.and_eq_true] at hop
    obtain ⟨hd, hpc⟩ := ax_bs_dq hop.1
    rw [hpc] at h9
    exact lv_aload_n hx hb hd (ax_f4v (ax_blt hop.2)) hv h9
  | b + 1, hop =>
    simp only [ax_ok] at hop
    obtain ⟨hd, hpc⟩ := ax_bs_dq hop
    rw [hpc] at h9
    exact lv_aload hx hb hd hv h9
theorem ax_s5 {d k i : Nat} {L st : List AV} {μ : Mem} {Q : AV → Mem → Prop} {a b c : Nat} {z x : Int} {t : List (Int × Nat)} (hop : ax_ok k i (5, a, b, c, z, t) = true) (ha : a < L.length) (h : ax_SW d k (i + 1) (L.set a (xI x)) st μ Q) : ax_SW d k i L (xI x :: st) μ Q := by
  intro l D tc q p e s m args below meth cd A H locs ls C hP hD hS hl hL hst hμ
  have C0 := C
  obtain ⟨hk, hx, hb, hr, hml, hown, hts, hlk, hK, hKC, hA⟩ := C
  have hok := (ax_c2 hst).1
  have g9 : ∀ ls' : Array Slot, lv_has ls' (ax_ml k) ((a, Value.int (Int32.ofInt x)) :: (ax_lp q L).filter (fun x => !(x.1 == a) && !(x.1 + 1 == a && x.2.category == 2))) → _ := fun ls' hl' => h l D tc q p e s m args below meth cd A H locs ls' C0 hP hD hS (ax_lp_set hKC.2.2.2.2.1 hl ha hl') (ax_set_ok hL hok) (ax_c2 hst).2 hμ
  have han : a < ax_ml k := by rw [← hl.2.1]; exact ha
  match b, hop with
  | 0, hop =>
    simp only [ax_ok, Bool.and_eq_true] at hop
    obtain ⟨hd, hpc⟩ := ax_bs_dq hop.1
    rw [hpc] at g9
    exact lv_istore_n hx hb hd (ax_f4v (ax_blt hop.2)) (ax_lp_has hl) han rfl g9
  | b + 1, hop =>
    simp only [ax_ok] at hop
    obtain ⟨hd, hpc⟩ := ax_bs_dq hop
    rw [hpc] at g9
    exact lv_istore hx hb hd (ax_lp_has hl) han rfl g9
theorem ax_s6 {d k i : Nat} {L st : List AV} {μ : Mem} {Q : AV → Mem → Prop} {a b c r : Nat} {z : Int} {t : List (Int × Nat)} (hop : ax_ok k i (6, a, b, c, z, t) = true) (ha : a < L.length) (hr0 : r ≠ 150) (h : ax_SW d k (i + 1) (L.set a (xR r)) st μ Q) : ax_SW d k i L (xR r :: st) μ Q := by
  intro l D tc q p e s m args below meth cd A H locs ls C hP hD hS hl hL hst hμ
  have C0 := C
  obtain ⟨hk, hx, hb, hr, hml, hown, hts, hlk, hK, hKC, hA⟩ := C
  have hok := (ax_c2 hst).1
  have g9 : ∀ ls' : Array Slot, lv_has ls' (ax_ml k) ((a, Value.ref (q.1 r)) :: (ax_lp q L).filter (fun x => !(x.1 == a) && !(x.1 + 1 == a && x.2.category == 2))) → _ := fun ls' hl' => h l D tc q p e s m args below meth cd A H locs ls' C0 hP hD hS (ax_lp_set (v := xR r) hKC.2.2.2.2.1 hl ha (by rw [ax_rvR hr0]; exact hl')) (ax_set_ok hL hok) (ax_c2 hst).2 hμ
  have han : a < ax_ml k := by rw [← hl.2.1]; exact ha
  rw [List.map_cons, ax_rvR hr0]
  match b, hop with
  | 0, hop =>
    simp only [ax_ok, Bool.and_eq_true] at hop
    obtain ⟨hd, hpc⟩ := ax_bs_dq hop.1
    rw [hpc] at g9
    exact lv_astore_n hx hb hd (ax_f4v (ax_blt hop.2)) (ax_lp_has hl) han rfl g9
  | b + 1, hop =>
    simp only [ax_ok] at hop
    obtain ⟨hd, hpc⟩ := ax_bs_dq hop
    rw [hpc] at g9
    exact lv_astore hx hb hd (ax_lp_has hl) han rfl g9
theorem ax_s7 {d k i : Nat} {L st : List AV} {μ : Mem} {Q : AV → Mem → Prop} {a b c : Nat} {z x : Int} {t : List (Int × Nat)} (hop : ax_ok k i (7, a, b, c, z, t) = true) (hx0 : L[a]? = some (.inl x)) (h : ax_SW d k (i + 1) (L.set a (xI (iw (x + z)))) st μ Q) : ax_SW d k i L st μ Q := by
  intro l D tc q p e s m args below meth cd A H locs ls C hP hD hS hl hL hst hμ
  have C0 := C
  obtain ⟨hk, hx, hb, hr, hml, hown, hts, hlk, hK, hKC, hA⟩ := C
  have hok : ax_r32 x := hL _ (List.mem_of_getElem? hx0)
  have ha : a < L.length := (List.getElem?_eq_some_iff.mp hx0).1
  have han : a < ax_ml k := by rw [← hl.2.1]; exact ha
  simp only [ax_ok] at hop
  obtain ⟨hd, hpc⟩ := ax_bs_dq hop
  have g9 : ∀ ls' : Array Slot, lv_has ls' (ax_ml k) ((a, Value.int (Int32.ofInt (iw (x + z)))) :: (ax_lp q L).filter (fun x => !(x.1 == a) && !(x.1 + 1 == a && x.2.category == 2))) → _ := fun ls' hl' => h l D tc q p e s m args below meth cd A H locs ls' C0 hP hD hS (ax_lp_set hKC.2.2.2.2.1 hl ha hl') (ax_set_ok hL (ax_iwr _)) hst hμ
  rw [hpc] at g9
  have hm : (a, Value.int (Int32.ofInt x)) ∈ ax_lp q L := List.mem_filterMap.mpr ⟨a, List.mem_range.mpr ha, by rw [hx0]; rfl⟩
  obtain ⟨kk, hkk⟩ := List.getElem?_of_mem hm
  have ev : Int32.ofInt x + Int32.ofInt z = Int32.ofInt (iw (x + z)) := by
    apply Int32.toInt_inj.mp
    rw [Int32.toInt_add, ax_ti hok, ax_ti (ax_iwr _), ax_iw, Int32.toInt_ofInt]
    exact Int.add_bmod_bmod
  exact lv_iinc hx hb hd (ax_lp_has hl) hkk ev han rfl g9
theorem ax_s8 {d k i : Nat} {L st : List AV} {μ : Mem} {Q : AV → Mem → Prop} {a b c : Nat} {z x y : Int} {t : List (Int × Nat)} (hop : ax_ok k i (8, a, b, c, z, t) = true) (h : ax_SW d k (i + 1) L (xI (iw (x + y)) :: st) μ Q) : ax_SW d k i L (xI y :: xI x :: st) μ Q := by
  intro l D tc q p e s m args below meth cd A H locs ls C hP hD hS hl hL hst hμ
  have C0 := C
  obtain ⟨hk, hx, hb, hr, hml, hown, hts, hlk, hK, hKC, hA⟩ := C
  simp only [ax_ok] at hop
  obtain ⟨hd, hpc⟩ := ax_bs_dq hop
  have hy : ax_r32 y := (ax_c2 hst).1
  have hx1 : ax_r32 x := (ax_c2 (ax_c2 hst).2).1
  have h9 := h l D tc q p e s m args below meth cd A H locs ls C0 hP hD hS hl hL (ax_cc (ax_iwr _) (ax_c2 (ax_c2 hst).2).2) hμ
  rw [hpc] at h9
  have ev : Int32.ofInt x + Int32.ofInt y = Int32.ofInt (iw (x + y)) := ax_add hx1 hy
  refine lv_iadd hx hb hd ?_
  rw [ev]
  exact h9
theorem ax_s9 {d k i : Nat} {L st : List AV} {μ : Mem} {Q : AV → Mem → Prop} {a b c : Nat} {z x y : Int} {t : List (Int × Nat)} (hop : ax_ok k i (9, a, b, c, z, t) = true) (h : ax_SW d k (i + 1) L (xI (iw (x - y)) :: st) μ Q) : ax_SW d k i L (xI y :: xI x :: st) μ Q := by
  intro l D tc q p e s m args below meth cd A H locs ls C hP hD hS hl hL hst hμ
  have C0 := C
  obtain ⟨hk, hx, hb, hr, hml, hown, hts, hlk, hK, hKC, hA⟩ := C
  simp only [ax_ok] at hop
  obtain ⟨hd, hpc⟩ := ax_bs_dq hop
  have hy : ax_r32 y := (ax_c2 hst).1
  have hx1 : ax_r32 x := (ax_c2 (ax_c2 hst).2).1
  have h9 := h l D tc q p e s m args below meth cd A H locs ls C0 hP hD hS hl hL (ax_cc (ax_iwr _) (ax_c2 (ax_c2 hst).2).2) hμ
  rw [hpc] at h9
  have ev : Int32.ofInt x - Int32.ofInt y = Int32.ofInt (iw (x - y)) := ax_sub hx1 hy
  refine lv_isub hx hb hd ?_
  rw [ev]
  exact h9
theorem ax_s10 {d k i : Nat} {L st : List AV} {μ : Mem} {Q : AV → Mem → Prop} {a b c : Nat} {z x y : Int} {t : List (Int × Nat)} (hop : ax_ok k i (10, a, b, c, z, t) = true) (h : ax_SW d k (i + 1) L (xI (iw (x * y)) :: st) μ Q) : ax_SW d k i L (xI y :: xI x :: st) μ Q := by
  intro l D tc q p e s m args below meth cd A H locs ls C hP hD hS hl hL hst hμ
  have C0 := C
  obtain ⟨hk, hx, hb, hr, hml, hown, hts, hlk, hK, hKC, hA⟩ := C
  simp only [ax_ok] at hop
  obtain ⟨hd, hpc⟩ := ax_bs_dq hop
  have hy : ax_r32 y := (ax_c2 hst).1
  have hx1 : ax_r32 x := (ax_c2 (ax_c2 hst).2).1
  have h9 := h l D tc q p e s m args below meth cd A H locs ls C0 hP hD hS hl hL (ax_cc (ax_iwr _) (ax_c2 (ax_c2 hst).2).2) hμ
  rw [hpc] at h9
  have ev : Int32.ofInt x * Int32.ofInt y = Int32.ofInt (iw (x * y)) := ax_mul hx1 hy
  refine lv_imul hx hb hd ?_
  rw [ev]
  exact h9
theorem ax_s13 {d k i : Nat} {L st : List AV} {μ : Mem} {Q : AV → Mem → Prop} {a b c : Nat} {z x y : Int} {t : List (Int × Nat)} (hop : ax_ok k i (13, a, b, c, z, t) = true) (h : ax_SW d k (i + 1) L (xI (xand x y) :: st) μ Q) : ax_SW d k i L (xI y :: xI x :: st) μ Q := by
  intro l D tc q p e s m args below meth cd A H locs ls C hP hD hS hl hL hst hμ
  have C0 := C
  obtain ⟨hk, hx, hb, hr, hml, hown, hts, hlk, hK, hKC, hA⟩ := C
  simp only [ax_ok] at hop
  obtain ⟨hd, hpc⟩ := ax_bs_dq hop
  have hy : ax_r32 y := (ax_c2 hst).1
  have hx1 : ax_r32 x := (ax_c2 (ax_c2 hst).2).1
  have h9 := h l D tc q p e s m args below meth cd A H locs ls C0 hP hD hS hl hL (ax_cc (ax_t32 _) (ax_c2 (ax_c2 hst).2).2) hμ
  rw [hpc] at h9
  have ev : Int32.ofInt x &&& Int32.ofInt y = Int32.ofInt (xand x y) := (Int32.ofInt_toInt _).symm
  refine lv_iand hx hb hd ?_
  rw [ev]
  exact h9
theorem ax_s14 {d k i : Nat} {L st : List AV} {μ : Mem} {Q : AV → Mem → Prop} {a b c : Nat} {z x y : Int} {t : List (Int × Nat)} (hop : ax_ok k i (14, a, b, c, z, t) = true) (h : ax_SW d k (i + 1) L (xI (xior x y) :: st) μ Q) : ax_SW d k i L (xI y :: xI x :: st) μ Q := by
  intro l D tc q p e s m args below meth cd A H locs ls C hP hD hS hl hL hst hμ
  have C0 := C
  obtain ⟨hk, hx, hb, hr, hml, hown, hts, hlk, hK, hKC, hA⟩ := C
  simp only [ax_ok] at hop
  obtain ⟨hd, hpc⟩ := ax_bs_dq hop
  have hy : ax_r32 y := (ax_c2 hst).1
  have hx1 : ax_r32 x := (ax_c2 (ax_c2 hst).2).1
  have h9 := h l D tc q p e s m args below meth cd A H locs ls C0 hP hD hS hl hL (ax_cc (ax_t32 _) (ax_c2 (ax_c2 hst).2).2) hμ
  rw [hpc] at h9
  have ev : Int32.ofInt x ||| Int32.ofInt y = Int32.ofInt (xior x y) := (Int32.ofInt_toInt _).symm
  refine lv_ior hx hb hd ?_
  rw [ev]
  exact h9
theorem ax_s15 {d k i : Nat} {L st : List AV} {μ : Mem} {Q : AV → Mem → Prop} {a b c : Nat} {z x y : Int} {t : List (Int × Nat)} (hop : ax_ok k i (15, a, b, c, z, t) = true) (h : ax_SW d k (i + 1) L (xI (xxor x y) :: st) μ Q) : ax_SW d k i L (xI y :: xI x :: st) μ Q := by
  intro l D tc q p e s m args below meth cd A H locs ls C hP hD hS hl hL hst hμ
  have C0 := C
  obtain ⟨hk, hx, hb, hr, hml, hown, hts, hlk, hK, hKC, hA⟩ := C
  simp only [ax_ok] at hop
  obtain ⟨hd, hpc⟩ := ax_bs_dq hop
  have hy : ax_r32 y := (ax_c2 hst).1
  have hx1 : ax_r32 x := (ax_c2 (ax_c2 hst).2).1
  have h9 := h l D tc q p e s m args below meth cd A H locs ls C0 hP hD hS hl hL (ax_cc (ax_t32 _) (ax_c2 (ax_c2 hst).2).2) hμ
  rw [hpc] at h9
  have ev : Int32.ofInt x ^^^ Int32.ofInt y = Int32.ofInt (xxor x y) := (Int32.ofInt_toInt _).symm
  refine lv_ixor hx hb hd ?_
  rw [ev]
  exact h9
theorem ax_s16 {d k i : Nat} {L st : List AV} {μ : Mem} {Q : AV → Mem → Prop} {a b c : Nat} {z x y : Int} {t : List (Int × Nat)} (hop : ax_ok k i (16, a, b, c, z, t) = true) (h : ax_SW d k (i + 1) L (xI (xshl x y) :: st) μ Q) : ax_SW d k i L (xI y :: xI x :: st) μ Q := by
  intro l D tc q p e s m args below meth cd A H locs ls C hP hD hS hl hL hst hμ
  have C0 := C
  obtain ⟨hk, hx, hb, hr, hml, hown, hts, hlk, hK, hKC, hA⟩ := C
  simp only [ax_ok] at hop
  obtain ⟨hd, hpc⟩ := ax_bs_dq hop
  have hy : ax_r32 y := (ax_c2 hst).1
  have hx1 : ax_r32 x := (ax_c2 (ax_c2 hst).2).1
  have h9 := h l D tc q p e s m args below meth cd A H locs ls C0 hP hD hS hl hL (ax_cc (ax_t32 _) (ax_c2 (ax_c2 hst).2).2) hμ
  rw [hpc] at h9
  have ev : Int32.ofInt x <<< (Int32.ofInt y &&& 31) = Int32.ofInt (xshl x y) := (Int32.ofInt_toInt _).symm
  refine lv_ishl hx hb hd ?_
  rw [ev]
  exact h9
theorem ax_s17 {d k i : Nat} {L st : List AV} {μ : Mem} {Q : AV → Mem → Prop} {a b c : Nat} {z x y : Int} {t : List (Int × Nat)} (hop : ax_ok k i (17, a, b, c, z, t) = true) (h : ax_SW d k (i + 1) L (xI (xshr x y) :: st) μ Q) : ax_SW d k i L (xI y :: xI x :: st) μ Q := by
  intro l D tc q p e s m args below meth cd A H locs ls C hP hD hS hl hL hst hμ
  have C0 := C
  obtain ⟨hk, hx, hb, hr, hml, hown, hts, hlk, hK, hKC, hA⟩ := C
  simp only [ax_ok] at hop
  obtain ⟨hd, hpc⟩ := ax_bs_dq hop
  have hy : ax_r32 y := (ax_c2 hst).1
  have hx1 : ax_r32 x := (ax_c2 (ax_c2 hst).2).1
  have h9 := h l D tc q p e s m args below meth cd A H locs ls C0 hP hD hS hl hL (ax_cc (ax_t32 _) (ax_c2 (ax_c2 hst).2).2) hμ
  rw [hpc] at h9
  have ev : Int32.ofInt x >>> (Int32.ofInt y &&& 31) = Int32.ofInt (xshr x y) := (Int32.ofInt_toInt _).symm
  refine lv_ishr hx hb hd ?_
  rw [ev]
  exact h9
theorem ax_s18 {d k i : Nat} {L st : List AV} {μ : Mem} {Q : AV → Mem → Prop} {a b c : Nat} {z x y : Int} {t : List (Int × Nat)} (hop : ax_ok k i (18, a, b, c, z, t) = true) (h : ax_SW d k (i + 1) L (xI (xushr x y) :: st) μ Q) : ax_SW d k i L (xI y :: xI x :: st) μ Q := by
  intro l D tc q p e s m args below meth cd A H locs ls C hP hD hS hl hL hst hμ
  have C0 := C
  obtain ⟨hk, hx, hb, hr, hml, hown, hts, hlk, hK, hKC, hA⟩ := C
  simp only [ax_ok] at hop
  obtain ⟨hd, hpc⟩ := ax_bs_dq hop
  have h9 := h l D tc q p e s m args below meth cd A H locs ls C0 hP hD hS hl hL (ax_cc (ax_t32 _) (ax_c2 (ax_c2 hst).2).2) hμ
  rw [hpc] at h9
  exact lv_iushr hx hb hd (Int32.ofInt_toInt _).symm h9
theorem ax_s11 {d k i : Nat} {L st : List AV} {μ : Mem} {Q : AV → Mem → Prop} {a b c : Nat} {z x y : Int} {t : List (Int × Nat)} (hop : ax_ok k i (11, a, b, c, z, t) = true) (hy0 : y ≠ 0) (h : ax_SW d k (i + 1) L (xI (xdiv x y) :: st) μ Q) : ax_SW d k i L (xI y :: xI x :: st) μ Q := by
  intro l D tc q p e s m args below meth cd A H locs ls C hP hD hS hl hL hst hμ
  have C0 := C
  obtain ⟨hk, hx, hb, hr, hml, hown, hts, hlk, hK, hKC, hA⟩ := C
  simp only [ax_ok] at hop
  obtain ⟨hd, hpc⟩ := ax_bs_dq hop
  have hy : ax_r32 y := (ax_c2 hst).1
  have hx1 : ax_r32 x := (ax_c2 (ax_c2 hst).2).1
  have h9 := h l D tc q p e s m args below meth cd A H locs ls C0 hP hD hS hl hL (ax_cc (ax_iwr _) (ax_c2 (ax_c2 hst).2).2) hμ
  rw [hpc] at h9
  have hne : ¬ Int32.ofInt y = 0 := fun z => hy0 ((ax_eqI hy ax_r0).mp z)
  refine lv_idiv hx hb hd hne ?_
  rw [ax_divE hx1 hy]
  exact h9
theorem ax_s12 {d k i : Nat} {L st : List AV} {μ : Mem} {Q : AV → Mem → Prop} {a b c : Nat} {z x y : Int} {t : List (Int × Nat)} (hop : ax_ok k i (12, a, b, c, z, t) = true) (hy0 : y ≠ 0) (h : ax_SW d k (i + 1) L (xI (xrem x y) :: st) μ Q) : ax_SW d k i L (xI y :: xI x :: st) μ Q := by
  intro l D tc q p e s m args below meth cd A H locs ls C hP hD hS hl hL hst hμ
  have C0 := C
  obtain ⟨hk, hx, hb, hr, hml, hown, hts, hlk, hK, hKC, hA⟩ := C
  simp only [ax_ok] at hop
  obtain ⟨hd, hpc⟩ := ax_bs_dq hop
  have hy : ax_r32 y := (ax_c2 hst).1
  have hx1 : ax_r32 x := (ax_c2 (ax_c2 hst).2).1
  have h9 := h l D tc q p e s m args below meth cd A H locs ls C0 hP hD hS hl hL (ax_cc (ax_remr hx1 hy hy0) (ax_c2 (ax_c2 hst).2).2) hμ
  rw [hpc] at h9
  have hne : ¬ Int32.ofInt y = 0 := fun z => hy0 ((ax_eqI hy ax_r0).mp z)
  refine lv_irem hx hb hd hne ?_
  rw [ax_remE hx1 hy hy0]
  exact h9
theorem ax_s19 {d k i : Nat} {L st : List AV} {μ : Mem} {Q : AV → Mem → Prop} {a b c : Nat} {z x : Int} {t : List (Int × Nat)} (hop : ax_ok k i (19, a, b, c, z, t) = true) (h : ax_SW d k (i + 1) L (xL x :: st) μ Q) : ax_SW d k i L (xI x :: st) μ Q := by
  intro l D tc q p e s m args below meth cd A H locs ls C hP hD hS hl hL hst hμ
  have C0 := C
  obtain ⟨hk, hx, hb, hr, hml, hown, hts, hlk, hK, hKC, hA⟩ := C
  simp only [ax_ok] at hop
  obtain ⟨hd, hpc⟩ := ax_bs_dq hop
  have hx1 : ax_r32 x := (ax_c2 hst).1
  have hx2 : ax_r64 x := by unfold ax_r32 ax_r64 at *; omega
  have h9 := h l D tc q p e s m args below meth cd A H locs ls C0 hP hD hS hl hL (ax_cc hx2 (ax_c2 hst).2) hμ
  rw [hpc] at h9
  have ev : (Int32.ofInt x).toInt64 = Int64.ofInt x := by
    apply Int64.toInt_inj.mp
    rw [ax_tl hx2, Int32.toInt_toInt64, ax_ti hx1]
  exact lv_i2l hx hb hd ev h9
theorem ax_s20 {d k i : Nat} {L st : List AV} {μ : Mem} {Q : AV → Mem → Prop} {a b c : Nat} {z x : Int} {t : List (Int × Nat)} (hop : ax_ok k i (20, a, b, c, z, t) = true) (h : ax_SW d k (i + 1) L (xI (xi2b x) :: st) μ Q) : ax_SW d k i L (xI x :: st) μ Q := by
  intro l D tc q p e s m args below meth cd A H locs ls C hP hD hS hl hL hst hμ
  have C0 := C
  obtain ⟨hk, hx, hb, hr, hml, hown, hts, hlk, hK, hKC, hA⟩ := C
  simp only [ax_ok] at hop
  obtain ⟨hd, hpc⟩ := ax_bs_dq hop
  have h9 := h l D tc q p e s m args below meth cd A H locs ls C0 hP hD hS hl hL (ax_cc (ax_t32 _) (ax_c2 hst).2) hμ
  rw [hpc] at h9
  exact lv_i2b hx hb hd (Int32.ofInt_toInt _).symm h9
theorem ax_s21 {d k i : Nat} {L st : List AV} {μ : Mem} {Q : AV → Mem → Prop} {a b c : Nat} {z x : Int} {t : List (Int × Nat)} (hop : ax_ok k i (21, a, b, c, z, t) = true) (h : ax_SW d k (i + 1) L (xI (xi2c x) :: st) μ Q) : ax_SW d k i L (xI x :: st) μ Q := by
  intro l D tc q p e s m args below meth cd A H locs ls C hP hD hS hl hL hst hμ
  have C0 := C
  obtain ⟨hk, hx, hb, hr, hml, hown, hts, hlk, hK, hKC, hA⟩ := C
  simp only [ax_ok] at hop
  obtain ⟨hd, hpc⟩ := ax_bs_dq hop
  have h9 := h l D tc q p e s m args below meth cd A H locs ls C0 hP hD hS hl hL (ax_cc (ax_t32 _) (ax_c2 hst).2) hμ
  rw [hpc] at h9
  exact lv_i2c hx hb hd (Int32.ofInt_toInt _).symm h9
theorem ax_s22 {d k i : Nat} {L st : List AV} {μ : Mem} {Q : AV → Mem → Prop} {a b c : Nat} {z x y : Int} {t : List (Int × Nat)} (hop : ax_ok k i (22, a, b, c, z, t) = true) (h : ax_SW d k (i + 1) L (xL (lw (x + y)) :: st) μ Q) : ax_SW d k i L (xL y :: xL x :: st) μ Q := by
  intro l D tc q p e s m args below meth cd A H locs ls C hP hD hS hl hL hst hμ
  have C0 := C
  obtain ⟨hk, hx, hb, hr, hml, hown, hts, hlk, hK, hKC, hA⟩ := C
  simp only [ax_ok] at hop
  obtain ⟨hd, hpc⟩ := ax_bs_dq hop
  have hy : ax_r64 y := (ax_c2 hst).1
  have hx1 : ax_r64 x := (ax_c2 (ax_c2 hst).2).1
  have h9 := h l D tc q p e s m args below meth cd A H locs ls C0 hP hD hS hl hL (ax_cc (ax_lwr _) (ax_c2 (ax_c2 hst).2).2) hμ
  rw [hpc] at h9
  refine lv_ladd hx hb hd ?_
  rw [ax_ladd hx1 hy]
  exact h9
theorem ax_s23 {d k i : Nat} {L st : List AV} {μ : Mem} {Q : AV → Mem → Prop} {a b c : Nat} {z x y : Int} {t : List (Int × Nat)} (hop : ax_ok k i (23, a, b, c, z, t) = true) (h : ax_SW d k (i + 1) L (xL (lw (x - y)) :: st) μ Q) : ax_SW d k i L (xL y :: xL x :: st) μ Q := by
  intro l D tc q p e s m args below meth cd A H locs ls C hP hD hS hl hL hst hμ
  have C0 := C
  obtain ⟨hk, hx, hb, hr, hml, hown, hts, hlk, hK, hKC, hA⟩ := C
  simp only [ax_ok] at hop
  obtain ⟨hd, hpc⟩ := ax_bs_dq hop
  have hy : ax_r64 y := (ax_c2 hst).1
  have hx1 : ax_r64 x := (ax_c2 (ax_c2 hst).2).1
  have h9 := h l D tc q p e s m args below meth cd A H locs ls C0 hP hD hS hl hL (ax_cc (ax_lwr _) (ax_c2 (ax_c2 hst).2).2) hμ
  rw [hpc] at h9
  refine lv_lsub hx hb hd ?_
  rw [ax_lsub hx1 hy]
  exact h9
theorem ax_s24 {d k i : Nat} {L st : List AV} {μ : Mem} {Q : AV → Mem → Prop} {a b c : Nat} {z x y : Int} {t : List (Int × Nat)} (hop : ax_ok k i (24, a, b, c, z, t) = true) (h : ax_SW d k (i + 1) L (xL (lw (x * y)) :: st) μ Q) : ax_SW d k i L (xL y :: xL x :: st) μ Q := by
  intro l D tc q p e s m args below meth cd A H locs ls C hP hD hS hl hL hst hμ
  have C0 := C
  obtain ⟨hk, hx, hb, hr, hml, hown, hts, hlk, hK, hKC, hA⟩ := C
  simp only [ax_ok] at hop
  obtain ⟨hd, hpc⟩ := ax_bs_dq hop
  have hy : ax_r64 y := (ax_c2 hst).1
  have hx1 : ax_r64 x := (ax_c2 (ax_c2 hst).2).1
  have h9 := h l D tc q p e s m args below meth cd A H locs ls C0 hP hD hS hl hL (ax_cc (ax_lwr _) (ax_c2 (ax_c2 hst).2).2) hμ
  rw [hpc] at h9
  refine lv_lmul hx hb hd ?_
  rw [ax_lmul hx1 hy]
  exact h9
theorem ax_s25 {d k i : Nat} {L st : List AV} {μ : Mem} {Q : AV → Mem → Prop} {a b c : Nat} {z x y : Int} {t : List (Int × Nat)} (hop : ax_ok k i (25, a, b, c, z, t) = true) (h : ax_SW d k (i + 1) L (xI (xcmp x y) :: st) μ Q) : ax_SW d k i L (xL y :: xL x :: st) μ Q := by
  intro l D tc q p e s m args below meth cd A H locs ls C hP hD hS hl hL hst hμ
  have C0 := C
  obtain ⟨hk, hx, hb, hr, hml, hown, hts, hlk, hK, hKC, hA⟩ := C
  simp only [ax_ok] at hop
  obtain ⟨hd, hpc⟩ := ax_bs_dq hop
  have hy : ax_r64 y := (ax_c2 hst).1
  have hx1 : ax_r64 x := (ax_c2 (ax_c2 hst).2).1
  have hc : ax_r32 (xcmp x y) := by unfold xcmp ax_r32; split <;> (try split) <;> omega
  have h9 := h l D tc q p e s m args below meth cd A H locs ls C0 hP hD hS hl hL (ax_cc hc (ax_c2 (ax_c2 hst).2).2) hμ
  rw [hpc] at h9
  refine W.lcmp hx hb hd ?_
  have ev : lg_cmp (Int64.ofInt x) (Int64.ofInt y) = Int32.ofInt (xcmp x y) := by
    unfold lg_cmp xcmp
    simp only [gt_iff_lt, Int64.lt_iff_toInt_lt, ← Int64.toInt_inj, ax_tl hx1, ax_tl hy]
    by_cases h1 : x < y
    · rw [if_neg (by omega), if_neg (by omega), if_pos h1]; rfl
    · by_cases h2 : x = y
      · rw [if_neg (by omega), if_pos h2, if_neg h1, if_pos h2]; rfl
      · rw [if_pos (by omega), if_neg h1, if_neg h2]; rfl
  rw [ev]
  exact h9
theorem ax_s26 {d k i : Nat} {L st : List AV} {μ : Mem} {Q : AV → Mem → Prop} {a b c : Nat} {z : Int} {t : List (Int × Nat)} {v : AV} (hv : ∀ z, v ≠ xL z) (hop : ax_ok k i (26, a, b, c, z, t) = true) (h : ax_SW d k (i + 1) L (v :: v :: st) μ Q) : ax_SW d k i L (v :: st) μ Q := by
  intro l D tc q p e s m args below meth cd A H locs ls C hP hD hS hl hL hst hμ
  have C0 := C
  obtain ⟨hk, hx, hb, hr, hml, hown, hts, hlk, hK, hKC, hA⟩ := C
  simp only [ax_ok] at hop
  obtain ⟨hd, hpc⟩ := ax_bs_dq hop
  have h9 := h l D tc q p e s m args below meth cd A H locs ls C0 hP hD hS hl hL (ax_cc (ax_c2 hst).1 hst) hμ
  rw [hpc] at h9
  exact lv_dup hx hb hd (ax_cat1 hKC.2.2.2.2.1 v hv) h9
theorem ax_s27 {d k i : Nat} {L st : List AV} {μ : Mem} {Q : AV → Mem → Prop} {a b c : Nat} {z : Int} {t : List (Int × Nat)} {v w : AV} (hv : ∀ z, v ≠ xL z) (hw : ∀ z, w ≠ xL z) (hop : ax_ok k i (27, a, b, c, z, t) = true) (h : ax_SW d k (i + 1) L (v :: w :: v :: w :: st) μ Q) : ax_SW d k i L (v :: w :: st) μ Q := by
  intro l D tc q p e s m args below meth cd A H locs ls C hP hD hS hl hL hst hμ
  have C0 := C
  obtain ⟨hk, hx, hb, hr, hml, hown, hts, hlk, hK, hKC, hA⟩ := C
  simp only [ax_ok] at hop
  obtain ⟨hd, hpc⟩ := ax_bs_dq hop
  have h9 := h l D tc q p e s m args below meth cd A H locs ls C0 hP hD hS hl hL (ax_cc (ax_c2 hst).1 (ax_cc (ax_c2 (ax_c2 hst).2).1 hst)) hμ
  rw [hpc] at h9
  exact lv_dup2_11 hx hb hd (ax_cat1 hKC.2.2.2.2.1 v hv) (ax_cat1 hKC.2.2.2.2.1 w hw) h9
theorem ax_s28 {d k i : Nat} {L st : List AV} {μ : Mem} {Q : AV → Mem → Prop} {a b c : Nat} {z : Int} {t : List (Int × Nat)} {v : AV} (hv : ∀ z, v ≠ xL z) (hop : ax_ok k i (28, a, b, c, z, t) = true) (h : ax_SW d k (i + 1) L st μ Q) : ax_SW d k i L (v :: st) μ Q := by
  intro l D tc q p e s m args below meth cd A H locs ls C hP hD hS hl hL hst hμ
  have C0 := C
  obtain ⟨hk, hx, hb, hr, hml, hown, hts, hlk, hK, hKC, hA⟩ := C
  simp only [ax_ok] at hop
  obtain ⟨hd, hpc⟩ := ax_bs_dq hop
  have h9 := h l D tc q p e s m args below meth cd A H locs ls C0 hP hD hS hl hL (ax_c2 hst).2 hμ
  rw [hpc] at h9
  exact lv_pop hx hb hd (ax_cat1 hKC.2.2.2.2.1 v hv) h9
theorem ax_s29 {d k i : Nat} {L st : List AV} {μ : Mem} {Q : AV → Mem → Prop} {a b c : Nat} {z x : Int} {t : List (Int × Nat)} (hop : ax_ok k i (29, a, b, c, z, t) = true) (h1 : x = 0 → ax_SW d k a L st μ Q) (h2 : ¬ x = 0 → ax_SW d k (i + 1) L st μ Q) : ax_SW d k i L (xI x :: st) μ Q := by
  intro l D tc q p e s m args below meth cd A H locs ls C hP hD hS hl hL hst hμ
  have C0 := C
  obtain ⟨hk, hx, hb, hr, hml, hown, hts, hlk, hK, hKC, hA⟩ := C
  simp only [ax_ok, Bool.and_eq_true] at hop
  obtain ⟨hd, hpc⟩ := ax_bs_dq hop.1
  have htg := ax_bs_tg hop.2
  have hx1 : ax_r32 x := (ax_c2 hst).1
  have ht := fun h => h1 h l D tc q p e s m args below meth cd A H locs ls C0 hP hD hS hl hL (ax_c2 hst).2 hμ
  have hf := fun h => h2 h l D tc q p e s m args below meth cd A H locs ls C0 hP hD hS hl hL (ax_c2 hst).2 hμ
  rw [hpc] at hf
  exact lv_if_eq hx hb hd htg (fun z => ht ((ax_eqI hx1 ax_r0).mp z)) (fun z => hf (fun w => z ((ax_eqI hx1 ax_r0).mpr w)))
theorem ax_s35 {d k i : Nat} {L st : List AV} {μ : Mem} {Q : AV → Mem → Prop} {a b c : Nat} {z x y : Int} {t : List (Int × Nat)} (hop : ax_ok k i (35, a, b, c, z, t) = true) (h1 : x = y → ax_SW d k a L st μ Q) (h2 : ¬ x = y → ax_SW d k (i + 1) L st μ Q) : ax_SW d k i L (xI y :: xI x :: st) μ Q := by
  intro l D tc q p e s m args below meth cd A H locs ls C hP hD hS hl hL hst hμ
  have C0 := C
  obtain ⟨hk, hx, hb, hr, hml, hown, hts, hlk, hK, hKC, hA⟩ := C
  simp only [ax_ok, Bool.and_eq_true] at hop
  obtain ⟨hd, hpc⟩ := ax_bs_dq hop.1
  have htg := ax_bs_tg hop.2
  have hy : ax_r32 y := (ax_c2 hst).1
  have hx1 : ax_r32 x := (ax_c2 (ax_c2 hst).2).1
  have ht := fun h => h1 h l D tc q p e s m args below meth cd A H locs ls C0 hP hD hS hl hL (ax_c2 (ax_c2 hst).2).2 hμ
  have hf := fun h => h2 h l D tc q p e s m args below meth cd A H locs ls C0 hP hD hS hl hL (ax_c2 (ax_c2 hst).2).2 hμ
  rw [hpc] at hf
  exact lv_icmp_eq hx hb hd htg (fun z => ht ((ax_eqI hx1 hy).mp z)) (fun z => hf (fun w => z ((ax_eqI hx1 hy).mpr w)))
theorem ax_s30 {d k i : Nat} {L st : List AV} {μ : Mem} {Q : AV → Mem → Prop} {a b c : Nat} {z x : Int} {t : List (Int × Nat)} (hop : ax_ok k i (30, a, b, c, z, t) = true) (h1 : ¬ x = 0 → ax_SW d k a L st μ Q) (h2 : x = 0 → ax_SW d k (i + 1) L st μ Q) : ax_SW d k i L (xI x :: st) μ Q := by
  intro l D tc q p e s m args below meth cd A H locs ls C hP hD hS hl hL hst hμ
  have C0 := C
  obtain ⟨hk, hx, hb, hr, hml, hown, hts, hlk, hK, hKC, hA⟩ := C
  simp only [ax_ok, Bool.and_eq_true] at hop
  obtain ⟨hd, hpc⟩ := ax_bs_dq hop.1
  have htg := ax_bs_tg hop.2
  have hx1 : ax_r32 x := (ax_c2 hst).1
  have ht := fun h => h1 h l D tc q p e s m args below meth cd A H locs ls C0 hP hD hS hl hL (ax_c2 hst).2 hμ
  have hf := fun h => h2 h l D tc q p e s m args below meth cd A H locs ls C0 hP hD hS hl hL (ax_c2 hst).2 hμ
  rw [hpc] at hf
  exact lv_if_ne hx hb hd htg (fun z => ht (fun w => z ((ax_eqI hx1 ax_r0).mpr w))) (fun z => hf ((ax_eqI hx1 ax_r0).mp z))
theorem ax_s36 {d k i : Nat} {L st : List AV} {μ : Mem} {Q : AV → Mem → Prop} {a b c : Nat} {z x y : Int} {t : List (Int × Nat)} (hop : ax_ok k i (36, a, b, c, z, t) = true) (h1 : ¬ x = y → ax_SW d k a L st μ Q) (h2 : x = y → ax_SW d k (i + 1) L st μ Q) : ax_SW d k i L (xI y :: xI x :: st) μ Q := by
  intro l D tc q p e s m args below meth cd A H locs ls C hP hD hS hl hL hst hμ
  have C0 := C
  obtain ⟨hk, hx, hb, hr, hml, hown, hts, hlk, hK, hKC, hA⟩ := C
  simp only [ax_ok, Bool.and_eq_true] at hop
  obtain ⟨hd, hpc⟩ := ax_bs_dq hop.1
  have htg := ax_bs_tg hop.2
  have hy : ax_r32 y := (ax_c2 hst).1
  have hx1 : ax_r32 x := (ax_c2 (ax_c2 hst).2).1
  have ht := fun h => h1 h l D tc q p e s m args below meth cd A H locs ls C0 hP hD hS hl hL (ax_c2 (ax_c2 hst).2).2 hμ
  have hf := fun h => h2 h l D tc q p e s m args below meth cd A H locs ls C0 hP hD hS hl hL (ax_c2 (ax_c2 hst).2).2 hμ
  rw [hpc] at hf
  exact lv_icmp_ne hx hb hd htg (fun z => ht (fun w => z ((ax_eqI hx1 hy).mpr w))) (fun z => hf ((ax_eqI hx1 hy).mp z))
theorem ax_s31 {d k i : Nat} {L st : List AV} {μ : Mem} {Q : AV → Mem → Prop} {a b c : Nat} {z x : Int} {t : List (Int × Nat)} (hop : ax_ok k i (31, a, b, c, z, t) = true) (h1 : x < 0 → ax_SW d k a L st μ Q) (h2 : ¬ x < 0 → ax_SW d k (i + 1) L st μ Q) : ax_SW d k i L (xI x :: st) μ Q := by
  intro l D tc q p e s m args below meth cd A H locs ls C hP hD hS hl hL hst hμ
  have C0 := C
  obtain ⟨hk, hx, hb, hr, hml, hown, hts, hlk, hK, hKC, hA⟩ := C
  simp only [ax_ok, Bool.and_eq_true] at hop
  obtain ⟨hd, hpc⟩ := ax_bs_dq hop.1
  have htg := ax_bs_tg hop.2
  have hx1 : ax_r32 x := (ax_c2 hst).1
  have ht := fun h => h1 h l D tc q p e s m args below meth cd A H locs ls C0 hP hD hS hl hL (ax_c2 hst).2 hμ
  have hf := fun h => h2 h l D tc q p e s m args below meth cd A H locs ls C0 hP hD hS hl hL (ax_c2 hst).2 hμ
  rw [hpc] at hf
  exact lv_if_lt hx hb hd htg (fun z => ht ((ax_ltI hx1 ax_r0).mp z)) (fun z => hf (fun w => z ((ax_ltI hx1 ax_r0).mpr w)))
theorem ax_s37 {d k i : Nat} {L st : List AV} {μ : Mem} {Q : AV → Mem → Prop} {a b c : Nat} {z x y : Int} {t : List (Int × Nat)} (hop : ax_ok k i (37, a, b, c, z, t) = true) (h1 : x < y → ax_SW d k a L st μ Q) (h2 : ¬ x < y → ax_SW d k (i + 1) L st μ Q) : ax_SW d k i L (xI y :: xI x :: st) μ Q := by
  intro l D tc q p e s m args below meth cd A H locs ls C hP hD hS hl hL hst hμ
  have C0 := C
  obtain ⟨hk, hx, hb, hr, hml, hown, hts, hlk, hK, hKC, hA⟩ := C
  simp only [ax_ok, Bool.and_eq_true] at hop
  obtain ⟨hd, hpc⟩ := ax_bs_dq hop.1
  have htg := ax_bs_tg hop.2
  have hy : ax_r32 y := (ax_c2 hst).1
  have hx1 : ax_r32 x := (ax_c2 (ax_c2 hst).2).1
  have ht := fun h => h1 h l D tc q p e s m args below meth cd A H locs ls C0 hP hD hS hl hL (ax_c2 (ax_c2 hst).2).2 hμ
  have hf := fun h => h2 h l D tc q p e s m args below meth cd A H locs ls C0 hP hD hS hl hL (ax_c2 (ax_c2 hst).2).2 hμ
  rw [hpc] at hf
  exact lv_icmp_lt hx hb hd htg (fun z => ht ((ax_ltI hx1 hy).mp z)) (fun z => hf (fun w => z ((ax_ltI hx1 hy).mpr w)))
theorem ax_s32 {d k i : Nat} {L st : List AV} {μ : Mem} {Q : AV → Mem → Prop} {a b c : Nat} {z x : Int} {t : List (Int × Nat)} (hop : ax_ok k i (32, a, b, c, z, t) = true) (h1 : ¬ x < 0 → ax_SW d k a L st μ Q) (h2 : x < 0 → ax_SW d k (i + 1) L st μ Q) : ax_SW d k i L (xI x :: st) μ Q := by
  intro l D tc q p e s m args below meth cd A H locs ls C hP hD hS hl hL hst hμ
  have C0 := C
  obtain ⟨hk, hx, hb, hr, hml, hown, hts, hlk, hK, hKC, hA⟩ := C
  simp only [ax_ok, Bool.and_eq_true] at hop
  obtain ⟨hd, hpc⟩ := ax_bs_dq hop.1
  have htg := ax_bs_tg hop.2
  have hx1 : ax_r32 x := (ax_c2 hst).1
  have ht := fun h => h1 h l D tc q p e s m args below meth cd A H locs ls C0 hP hD hS hl hL (ax_c2 hst).2 hμ
  have hf := fun h => h2 h l D tc q p e s m args below meth cd A H locs ls C0 hP hD hS hl hL (ax_c2 hst).2 hμ
  rw [hpc] at hf
  exact lv_if_ge hx hb hd htg (fun z => ht (by have := (ax_leI ax_r0 hx1).mp z; omega)) (fun z => hf (Int.not_le.mp (fun w => z ((ax_leI ax_r0 hx1).mpr w))))
theorem ax_s38 {d k i : Nat} {L st : List AV} {μ : Mem} {Q : AV → Mem → Prop} {a b c : Nat} {z x y : Int} {t : List (Int × Nat)} (hop : ax_ok k i (38, a, b, c, z, t) = true) (h1 : ¬ x < y → ax_SW d k a L st μ Q) (h2 : x < y → ax_SW d k (i + 1) L st μ Q) : ax_SW d k i L (xI y :: xI x :: st) μ Q := by
  intro l D tc q p e s m args below meth cd A H locs ls C hP hD hS hl hL hst hμ
  have C0 := C
  obtain ⟨hk, hx, hb, hr, hml, hown, hts, hlk, hK, hKC, hA⟩ := C
  simp only [ax_ok, Bool.and_eq_true] at hop
  obtain ⟨hd, hpc⟩ := ax_bs_dq hop.1
  have htg := ax_bs_tg hop.2
  have hy : ax_r32 y := (ax_c2 hst).1
  have hx1 : ax_r32 x := (ax_c2 (ax_c2 hst).2).1
  have ht := fun h => h1 h l D tc q p e s m args below meth cd A H locs ls C0 hP hD hS hl hL (ax_c2 (ax_c2 hst).2).2 hμ
  have hf := fun h => h2 h l D tc q p e s m args below meth cd A H locs ls C0 hP hD hS hl hL (ax_c2 (ax_c2 hst).2).2 hμ
  rw [hpc] at hf
  exact lv_icmp_ge hx hb hd htg (fun z => ht (by have := (ax_leI hy hx1).mp z; omega)) (fun z => hf (Int.not_le.mp (fun w => z ((ax_leI hy hx1).mpr w))))
theorem ax_s33 {d k i : Nat} {L st : List AV} {μ : Mem} {Q : AV → Mem → Prop} {a b c : Nat} {z x : Int} {t : List (Int × Nat)} (hop : ax_ok k i (33, a, b, c, z, t) = true) (h1 : 0 < x → ax_SW d k a L st μ Q) (h2 : ¬ 0 < x → ax_SW d k (i + 1) L st μ Q) : ax_SW d k i L (xI x :: st) μ Q := by
  intro l D tc q p e s m args below meth cd A H locs ls C hP hD hS hl hL hst hμ
  have C0 := C
  obtain ⟨hk, hx, hb, hr, hml, hown, hts, hlk, hK, hKC, hA⟩ := C
  simp only [ax_ok, Bool.and_eq_true] at hop
  obtain ⟨hd, hpc⟩ := ax_bs_dq hop.1
  have htg := ax_bs_tg hop.2
  have hx1 : ax_r32 x := (ax_c2 hst).1
  have ht := fun h => h1 h l D tc q p e s m args below meth cd A H locs ls C0 hP hD hS hl hL (ax_c2 hst).2 hμ
  have hf := fun h => h2 h l D tc q p e s m args below meth cd A H locs ls C0 hP hD hS hl hL (ax_c2 hst).2 hμ
  rw [hpc] at hf
  exact lv_if_gt hx hb hd htg (fun z => ht ((ax_ltI ax_r0 hx1).mp z)) (fun z => hf (fun w => z ((ax_ltI ax_r0 hx1).mpr w)))
theorem ax_s39 {d k i : Nat} {L st : List AV} {μ : Mem} {Q : AV → Mem → Prop} {a b c : Nat} {z x y : Int} {t : List (Int × Nat)} (hop : ax_ok k i (39, a, b, c, z, t) = true) (h1 : y < x → ax_SW d k a L st μ Q) (h2 : ¬ y < x → ax_SW d k (i + 1) L st μ Q) : ax_SW d k i L (xI y :: xI x :: st) μ Q := by
  intro l D tc q p e s m args below meth cd A H locs ls C hP hD hS hl hL hst hμ
  have C0 := C
  obtain ⟨hk, hx, hb, hr, hml, hown, hts, hlk, hK, hKC, hA⟩ := C
  simp only [ax_ok, Bool.and_eq_true] at hop
  obtain ⟨hd, hpc⟩ := ax_bs_dq hop.1
  have htg := ax_bs_tg hop.2
  have hy : ax_r32 y := (ax_c2 hst).1
  have hx1 : ax_r32 x := (ax_c2 (ax_c2 hst).2).1
  have ht := fun h => h1 h l D tc q p e s m args below meth cd A H locs ls C0 hP hD hS hl hL (ax_c2 (ax_c2 hst).2).2 hμ
  have hf := fun h => h2 h l D tc q p e s m args below meth cd A H locs ls C0 hP hD hS hl hL (ax_c2 (ax_c2 hst).2).2 hμ
  rw [hpc] at hf
  exact lv_icmp_gt hx hb hd htg (fun z => ht ((ax_ltI hy hx1).mp z)) (fun z => hf (fun w => z ((ax_ltI hy hx1).mpr w)))
theorem ax_s34 {d k i : Nat} {L st : List AV} {μ : Mem} {Q : AV → Mem → Prop} {a b c : Nat} {z x : Int} {t : List (Int × Nat)} (hop : ax_ok k i (34, a, b, c, z, t) = true) (h1 : ¬ 0 < x → ax_SW d k a L st μ Q) (h2 : 0 < x → ax_SW d k (i + 1) L st μ Q) : ax_SW d k i L (xI x :: st) μ Q := by
  intro l D tc q p e s m args below meth cd A H locs ls C hP hD hS hl hL hst hμ
  have C0 := C
  obtain ⟨hk, hx, hb, hr, hml, hown, hts, hlk, hK, hKC, hA⟩ := C
  simp only [ax_ok, Bool.and_eq_true] at hop
  obtain ⟨hd, hpc⟩ := ax_bs_dq hop.1
  have htg := ax_bs_tg hop.2
  have hx1 : ax_r32 x := (ax_c2 hst).1
  have ht := fun h => h1 h l D tc q p e s m args below meth cd A H locs ls C0 hP hD hS hl hL (ax_c2 hst).2 hμ
  have hf := fun h => h2 h l D tc q p e s m args below meth cd A H locs ls C0 hP hD hS hl hL (ax_c2 hst).2 hμ
  rw [hpc] at hf
  exact lv_if_le hx hb hd htg (fun z => ht (by have := (ax_leI hx1 ax_r0).mp z; omega)) (fun z => hf (Int.not_le.mp (fun w => z ((ax_leI hx1 ax_r0).mpr w))))
theorem ax_s40 {d k i : Nat} {L st : List AV} {μ : Mem} {Q : AV → Mem → Prop} {a b c : Nat} {z x y : Int} {t : List (Int × Nat)} (hop : ax_ok k i (40, a, b, c, z, t) = true) (h1 : ¬ y < x → ax_SW d k a L st μ Q) (h2 : y < x → ax_SW d k (i + 1) L st μ Q) : ax_SW d k i L (xI y :: xI x :: st) μ Q := by
  intro l D tc q p e s m args below meth cd A H locs ls C hP hD hS hl hL hst hμ
  have C0 := C
  obtain ⟨hk, hx, hb, hr, hml, hown, hts, hlk, hK, hKC, hA⟩ := C
  simp only [ax_ok, Bool.and_eq_true] at hop
  obtain ⟨hd, hpc⟩ := ax_bs_dq hop.1
  have htg := ax_bs_tg hop.2
  have hy : ax_r32 y := (ax_c2 hst).1
  have hx1 : ax_r32 x := (ax_c2 (ax_c2 hst).2).1
  have ht := fun h => h1 h l D tc q p e s m args below meth cd A H locs ls C0 hP hD hS hl hL (ax_c2 (ax_c2 hst).2).2 hμ
  have hf := fun h => h2 h l D tc q p e s m args below meth cd A H locs ls C0 hP hD hS hl hL (ax_c2 (ax_c2 hst).2).2 hμ
  rw [hpc] at hf
  exact lv_icmp_le hx hb hd htg (fun z => ht (by have := (ax_leI hx1 hy).mp z; omega)) (fun z => hf (Int.not_le.mp (fun w => z ((ax_leI hx1 hy).mpr w))))
theorem ax_s41 {d k i : Nat} {L st : List AV} {μ : Mem} {Q : AV → Mem → Prop} {a b c : Nat} {z : Int} {t : List (Int × Nat)} (hop : ax_ok k i (41, a, b, c, z, t) = true) (h : ax_SW d k a L st μ Q) : ax_SW d k i L st μ Q := by
  intro l D tc q p e s m args below meth cd A H locs ls C hP hD hS hl hL hst hμ
  have C0 := C
  obtain ⟨hk, hx, hb, hr, hml, hown, hts, hlk, hK, hKC, hA⟩ := C
  simp only [ax_ok, Bool.and_eq_true] at hop
  have h9 := h l D tc q p e s m args below meth cd A H locs ls C0 hP hD hS hl hL hst hμ
  exact lv_goto hx hb (ax_bs_d1 hop.1) (ax_bs_tg hop.2) h9
theorem ax_s59 {d k i : Nat} {L st : List AV} {μ : Mem} {Q : AV → Mem → Prop} {a b c : Nat} {z : Int} {t : List (Int × Nat)} (hop : ax_ok k i (59, a, b, c, z, t) = true) (h : ax_SW d k (i + 1) L st μ Q) : ax_SW d k i L st μ Q := by
  intro l D tc q p e s m args below meth cd A H locs ls C hP hD hS hl hL hst hμ
  have C0 := C
  obtain ⟨hk, hx, hb, hr, hml, hown, hts, hlk, hK, hKC, hA⟩ := C
  simp only [ax_ok, Bool.and_eq_true] at hop
  have h9 := h l D tc q p e s m args below meth cd A H locs ls C0 hP hD hS hl hL hst hμ
  rw [Nat.eq_of_beq_eq_true hop.1] at h9
  exact h9
end
section
theorem ax_cd_out {c : Nat} (h : 75 ≤ c) : ax_cd c = (9, 0, []) := by
  unfold ax_cd
  rw [List.getD_eq_getElem?_getD, List.getElem?_eq_none (by have : ax_cdL.length = 75 := by decide +kernel
                                                            omega)]
  rfl
/-- what the table of cells is known for -/
def ax_cdok (c : Nat) : Bool := match ax_cd c with
  | (0, ci, ks) => match ax_cl[ci]? with
    | some q => (List.range ks.length).all (fun j => match ks[j]? with
      | some 0 => decide ((q.2.1 j).2.2.1 = "I")
      | some 1 => decide ((q.2.1 j).2.2.1 = "J")
      | some (g + 2) => Nat.blt g 75
      | none => true)
    | none => false
  | (3, n, ks) => Nat.beq n ks.length && ks.all (fun g => Nat.blt g 75) && Nat.blt n 2147483648
  | (_, n, _) => Nat.blt n 2147483648
theorem ax_cdokA : (List.range 75).all ax_cdok = true := by decide +kernel
theorem ax_cdokE (c : Nat) : ax_cdok c = true := by
  rcases Nat.lt_or_ge c 75 with h | h
  · exact List.all_eq_true.mp ax_cdokA c (List.mem_range.mpr h)
  · unfold ax_cdok; rw [ax_cd_out h]; rfl
theorem ax_kd {r ci j kd : Nat} {ks : List Nat} {q : vw_C} (h : ax_cd r = (0, ci, ks)) (hq : ax_cl[ci]? = some q) (hk : ks[j]? = some kd) : (kd = 0 → (q.2.1 j).2.2.1 = "I") ∧ (kd = 1 → (q.2.1 j).2.2.1 = "J") ∧ (∀ g, kd = g + 2 → g < 75) := by
  have h1 := ax_cdokE r
  unfold ax_cdok at h1
  rw [h] at h1
  simp only [hq] at h1
  have h2 := List.all_eq_true.mp h1 j (List.mem_range.mpr (List.getElem?_eq_some_iff.mp hk).1)
  rw [hk] at h2
  refine ⟨fun e => ?_, fun e => ?_, fun g e => ?_⟩
  · subst e; simpa using h2
  · subst e; simpa using h2
  · subst e; exact ax_blt h2
theorem ax_arr_n {tg r n : Nat} {ks : List Nat} (h : ax_cd r = (tg, n, ks)) (ht : tg ≠ 0) : n < 2147483648 := by
  have h1 := ax_cdokE r
  unfold ax_cdok at h1
  rw [h] at h1
  split at h1
  · next hh => cases hh; exact absurd rfl ht
  · next hh => cases hh; simp only [Bool.and_eq_true] at h1; exact ax_blt h1.2
  · next hh => cases hh; exact ax_blt h1
theorem ax_cE0 {q : (Nat → Nat) × Value} {tc : Nat → ClassId} {μ : Mem} {i ci : Nat} {ks : List Nat} (h : ax_cd i = (0, ci, ks)) : ax_cE q tc μ i = .inr (ci, (List.range ks.length).map (fun j => ax_fv q μ i j (ks.getD j 0))) := by simp only [ax_cE, h]
theorem ax_cE1 {q : (Nat → Nat) × Value} {tc : Nat → ClassId} {μ : Mem} {i n : Nat} {ks : List Nat} (h : ax_cd i = (1, n, ks)) : ax_cE q tc μ i = .inl (tc 0, n, .inl (fun j => Int32.ofInt (μ i j))) := by simp only [ax_cE, h]
theorem ax_cE2 {q : (Nat → Nat) × Value} {tc : Nat → ClassId} {μ : Mem} {i n : Nat} {ks : List Nat} (h : ax_cd i = (2, n, ks)) : ax_cE q tc μ i = .inl (tc 1, n, .inl (fun j => Int32.ofInt (μ i j))) := by simp only [ax_cE, h]
theorem ax_cE3 {q : (Nat → Nat) × Value} {tc : Nat → ClassId} {μ : Mem} {i n : Nat} {ks : List Nat} (h : ax_cd i = (3, n, ks)) : ax_cE q tc μ i = .inl (tc 2, n, .inr (.inr (.inr (.inr (fun j => (ks[j]?).map q.1))))) := by simp only [ax_cE, h]
theorem ax_cE4 {q : (Nat → Nat) × Value} {tc : Nat → ClassId} {μ : Mem} {i n : Nat} {ks : List Nat} (h : ax_cd i = (4, n, ks)) : ax_cE q tc μ i = .inl (tc 3, n, .inr (.inr (.inr (.inr (fun j => if j < n then some (q.1 (i + 1 + j)) else none))))) := by simp only [ax_cE, h]
def ax_kv (μ : Mem) (r c kd : Nat) : AV := match kd with
  | 0 => xI (μ r c)
  | 1 => xL (μ r c)
  | g + 2 => xR g
theorem ax_kv_rv {q : (Nat → Nat) × Value} {μ : Mem} {r c kd : Nat} (h : ∀ g, kd = g + 2 → g < 75) : ax_rv q (ax_kv μ r c kd) = ax_fv q μ r c kd := by
  match kd, h with
  | 0, _ => rfl
  | 1, _ => rfl
  | g + 2, h => exact ax_rvR (by have := h g rfl; omega)
theorem ax_kv_ok {μ : Mem} {r ci c kd : Nat} {ks : List Nat} (hμ : ax_okm μ) (h : ax_cd r = (0, ci, ks)) (hk : ks[c]? = some kd) : ax_okv (ax_kv μ r c kd) := by
  have h1 := hμ r c
  rw [ax_lk_fld h hk] at h1
  match kd, h1 with
  | 0, h1 => exact h1
  | 1, h1 => exact h1
  | g + 2, _ => trivial
theorem ax_fs_get {q : (Nat → Nat) × Value} {μ : Mem} {r c kd : Nat} {ks : List Nat} (hk : ks[c]? = some kd) : ((List.range ks.length).map (fun j => ax_fv q μ r j (ks.getD j 0)))[c]? = some (ax_fv q μ r c kd) := by
  rw [List.getElem?_map, List.getElem?_range (List.getElem?_eq_some_iff.mp hk).1]
  show some (ax_fv q μ r c (ks.getD c 0)) = _
  rw [List.getD_eq_getElem?_getD, hk]
  rfl
theorem ax_s44 {d k i : Nat} {L st : List AV} {μ : Mem} {Q : AV → Mem → Prop} {a b c : Nat} {z : Int} {t : List (Int × Nat)} {r kd : Nat} (hop : ax_ok k i (44, a, b, c, z, t) = true) (hf : ax_fld k r b c = some kd) (h : ax_SW d k (i + 1) L (ax_kv μ r c kd :: st) μ Q) : ax_SW d k i L (xR r :: st) μ Q := by
  intro l D tc q p e s m args below meth cd A H locs ls C hP hD hS hl hL hst hμ
  have C0 := C
  obtain ⟨hk, hx, hb, hr, hml, hown, hts, hlk, hK, hKC, hA⟩ := C
  obtain ⟨hin, ks, hcd, hks⟩ := ax_fld_e hf
  obtain ⟨hr1, hr2⟩ := ax_inS_e hin
  obtain ⟨cq, hcq, hlen⟩ := ax_cd_cl r b ks hcd
  simp only [ax_ok, Bool.and_eq_true] at hop
  obtain ⟨hq, hop⟩ := hop
  obtain ⟨hd, hpc⟩ := ax_bs_dq hq
  have hkd := ax_kd hcd hcq hks
  have h9 := h l D tc q p e s m args below meth cd A H locs ls C0 hP hD hS hl hL (ax_cc (ax_kv_ok hμ hcd hks) (ax_c2 hst).2) hμ
  rw [hpc, List.map_cons, ax_kv_rv hkd.2.2] at h9
  have hr75 : r < 75 := by
    rcases Nat.lt_or_ge r 75 with w | w
    · exact w
    · rw [ax_cd_out w] at hcd; cases hcd
  rw [List.map_cons, ax_rvR (show r ≠ 150 by omega)]
  have he := ax_wd_get (q := q) (tc := tc) (μ := μ) hr1 hr2
  rw [ax_cE0 hcd] at he
  obtain ⟨C9, T9, N9⟩ := cq
  split at hop
  · cases hcq
  · rw [hcq] at hop
    simp only [Bool.and_eq_true] at hop
    exact va_get hx hb (ax_wsm hts) (ax_cl_ok hcq).1 hown hK hP (r - (ax_sd k).1) he hcq c (ax_blt hop.1) (ax_wsm hts _ (ax_inM hop.2)) (fun _ h9 => h9) (ax_fs_get hks) hd h9
theorem ax_s44v {d k i : Nat} {L st : List AV} {μ : Mem} {Q : AV → Mem → Prop} {a : Nat} {z : Int} {t : List (Int × Nat)} {r : Nat} (hop : ax_ok k i (44, a, 50, 0, z, t) = true) (hr0 : ax_str r = true) (h : ax_SW d k (i + 1) L (xR (r + 20) :: st) μ Q) : ax_SW d k i L (xR r :: st) μ Q := by
  intro l D tc q p e s m args below meth cd A H locs ls C hP hD hS hl hL hst hμ
  have C0 := C
  obtain ⟨hk, hx, hb, hr, hml, hown, hts, hlk, hK, hKC, hA⟩ := C
  simp only [ax_ok, Bool.and_eq_true] at hop
  obtain ⟨hq, hop⟩ := hop
  obtain ⟨hd, hpc⟩ := ax_bs_dq hq
  simp only [ax_str, Bool.and_eq_true] at hr0
  have r1 := Nat.le_of_ble_eq_true hr0.1
  have r2 := ax_blt hr0.2
  have h9 := h l D tc q p e s m args below meth cd A H locs ls C0 hP hD hS hl hL (ax_cc trivial (ax_c2 hst).2) hμ
  rw [hpc, List.map_cons, ax_rvR (show r + 20 ≠ 150 by omega)] at h9
  rw [List.map_cons, ax_rvR (show r ≠ 150 by omega)]
  have hE := (hKC.1.1 (r - 100) (by omega)).2.2.1
  simp only [show 100 + (r - 100) = r by omega, show 120 + (r - 100) = r + 20 by omega] at hE
  exact vk_getf hx hb hE hS hown (ax_wsm hts _ (ax_inM hop)) (fun _ h9 => h9) hd h9
theorem ax_s44c {d k i : Nat} {L st : List AV} {μ : Mem} {Q : AV → Mem → Prop} {a : Nat} {z : Int} {t : List (Int × Nat)} {r : Nat} (hop : ax_ok k i (44, a, 50, 1, z, t) = true) (hr0 : ax_str r = true) (h : ax_SW d k (i + 1) L (xI 0 :: st) μ Q) : ax_SW d k i L (xR r :: st) μ Q := by
  intro l D tc q p e s m args below meth cd A H locs ls C hP hD hS hl hL hst hμ
  have C0 := C
  obtain ⟨hk, hx, hb, hr, hml, hown, hts, hlk, hK, hKC, hA⟩ := C
  simp only [ax_ok, Bool.and_eq_true] at hop
  obtain ⟨hq, hop⟩ := hop
  obtain ⟨hd, hpc⟩ := ax_bs_dq hq
  simp only [ax_str, Bool.and_eq_true] at hr0
  have r1 := Nat.le_of_ble_eq_true hr0.1
  have r2 := ax_blt hr0.2
  have h9 := h l D tc q p e s m args below meth cd A H locs ls C0 hP hD hS hl hL (ax_cc ax_r0 (ax_c2 hst).2) hμ
  rw [hpc] at h9
  rw [List.map_cons, ax_rvR (show r ≠ 150 by omega)]
  have hE := (hKC.1.1 (r - 100) (by omega)).2.1
  simp only [show 100 + (r - 100) = r by omega] at hE
  exact vk_getf hx hb hE hS hown (ax_wsm hts _ (ax_inM hop)) (fun _ h9 => h9) hd h9
theorem ax_fs_set {q : (Nat → Nat) × Value} {μ : Mem} {r c kd : Nat} {x : Int} {ks : List Nat} {v : Value} (hk : ks[c]? = some kd) (hv : v = ax_fv q (xset μ r c x) r c kd) : ((List.range ks.length).map (fun j => ax_fv q μ r j (ks.getD j 0))).set c v = (List.range ks.length).map (fun j => ax_fv q (xset μ r c x) r j (ks.getD j 0)) := by
  apply List.ext_getElem?
  intro j
  have hc : c < ks.length := (List.getElem?_eq_some_iff.mp hk).1
  by_cases e : j = c
  · subst e
    rw [List.getElem?_set_self (by rw [List.length_map, List.length_range]; exact hc), List.getElem?_map, List.getElem?_range hc, hv]
    show _ = some (ax_fv q (xset μ r j x) r j (ks.getD j 0))
    rw [List.getD_eq_getElem?_getD, hk]
    rfl
  · rw [List.getElem?_set_ne (fun z => e z.symm), List.getElem?_map, List.getElem?_map]
    by_cases hl : j < ks.length
    · rw [List.getElem?_range hl]
      show some (ax_fv q μ r j (ks.getD j 0)) = some (ax_fv q (xset μ r c x) r j (ks.getD j 0))
      have e2 : xset μ r c x r j = μ r j := by unfold xset; rw [if_neg (fun w => e w.2)]
      unfold ax_fv
      rw [e2]
    · rw [List.getElem?_eq_none (by rw [List.length_range]; omega)]
      rfl
theorem ax_xset_o {μ : Mem} {r j : Nat} {x : Int} (i' : Nat) (h : i' ≠ r) (j' : Nat) : xset μ r j x i' j' = μ i' j' := by unfold xset; rw [if_neg (fun w => h w.1)]
theorem ax_xset_s {μ : Mem} {r j : Nat} {x : Int} : xset μ r j x r j = x := by unfold xset; rw [if_pos ⟨rfl, rfl⟩]
theorem ax_s45 {d k i : Nat} {L st : List AV} {μ : Mem} {Q : AV → Mem → Prop} {a b c : Nat} {z : Int} {t : List (Int × Nat)} {r : Nat} {x : Int} (hop : ax_ok k i (45, a, b, c, z, t) = true) (hf : ax_fld k r b c = some 0) (h : ax_SW d k (i + 1) L st (xset μ r c x) Q) : ax_SW d k i L (xI x :: xR r :: st) μ Q := by
  intro l D tc q p e s m args below meth cd A H locs ls C hP hD hS hl hL hst hμ
  have C0 := C
  obtain ⟨hk, hx, hb, hr, hml, hown, hts, hlk, hK, hKC, hA⟩ := C
  obtain ⟨hin, ks, hcd, hks⟩ := ax_fld_e hf
  obtain ⟨hr1, hr2⟩ := ax_inS_e hin
  obtain ⟨cq, hcq, hlen⟩ := ax_cd_cl r b ks hcd
  simp only [ax_ok, Bool.and_eq_true] at hop
  obtain ⟨hq, hop⟩ := hop
  obtain ⟨hd, hpc⟩ := ax_bs_dq hq
  have hkd := ax_kd hcd hcq hks
  have hr75 : r < 75 := by
    rcases Nat.lt_or_ge r 75 with w | w
    · exact w
    · rw [ax_cd_out w] at hcd; cases hcd
  have hxr : ax_r32 x := (ax_c2 hst).1
  have hμ' : ax_okm (xset μ r c x) := ax_xset_ok hμ (by rw [ax_lk_fld hcd hks]; exact hxr)
  rw [List.map_cons, List.map_cons, ax_rvR (show r ≠ 150 by omega)]
  have he := ax_wd_get (q := q) (tc := tc) (μ := μ) hr1 hr2
  rw [ax_cE0 hcd] at he
  obtain ⟨C9, T9, N9⟩ := cq
  rw [hcq] at hop
  simp only [Bool.and_eq_true, Bool.not_eq_true', Bool.or_eq_true, decide_eq_true_eq] at hop
  have hde : (T9 c).2.2.1 = "I" := hkd.1 rfl
  refine va_put (ty := .int) hx hb (ax_wsm hts) (ax_cl_ok hcq).1 _ (ax_cl_ok hcq).2.1 (ax_cl_ok hcq).2.2 hown hK hP hD hS (r - (ax_sd k).1) he hcq c (ax_blt hop.1.1.1) (ax_wsm hts _ (ax_inM hop.1.1.2)) (fun _ h9 => h9) hop.1.2 (by rw [hde]; decide +kernel) rfl rfl (by rw [List.length_map, List.length_range]; exact (List.getElem?_eq_some_iff.mp hks).1) hd (fun H1 locs1 hP1 hD1 hS1 => ?_)
  have ew := ax_wd_set (q := q) (tc := tc) (μ := μ) (μ' := xset μ r c x) (e := .inr (b, ((List.range ks.length).map (fun j => ax_fv q μ r j (ks.getD j 0))).set c (.int (Int32.ofInt x)))) hr1 hr2 (by rw [ax_cE0 hcd, ax_fs_set hks]; show _ = ax_fv q (xset μ r c x) r c 0; unfold ax_fv; rw [ax_xset_s]) (ax_xset_o)
  rw [← hpc]
  exact h l D tc q p e s m args below meth cd A H1 locs1 ls C0 (ew ▸ hP1) (ew ▸ hD1) hS1 hl hL (ax_c2 (ax_c2 hst).2).2 hμ'
theorem ax_s45l {d k i : Nat} {L st : List AV} {μ : Mem} {Q : AV → Mem → Prop} {a b c : Nat} {z : Int} {t : List (Int × Nat)} {r : Nat} {x : Int} (hop : ax_ok k i (45, a, b, c, z, t) = true) (hf : ax_fld k r b c = some 1) (h : ax_SW d k (i + 1) L st (xset μ r c x) Q) : ax_SW d k i L (xL x :: xR r :: st) μ Q := by
  intro l D tc q p e s m args below meth cd A H locs ls C hP hD hS hl hL hst hμ
  have C0 := C
  obtain ⟨hk, hx, hb, hr, hml, hown, hts, hlk, hK, hKC, hA⟩ := C
  obtain ⟨hin, ks, hcd, hks⟩ := ax_fld_e hf
  obtain ⟨hr1, hr2⟩ := ax_inS_e hin
  obtain ⟨cq, hcq, hlen⟩ := ax_cd_cl r b ks hcd
  simp only [ax_ok, Bool.and_eq_true] at hop
  obtain ⟨hq, hop⟩ := hop
  obtain ⟨hd, hpc⟩ := ax_bs_dq hq
  have hkd := ax_kd hcd hcq hks
  have hr75 : r < 75 := by
    rcases Nat.lt_or_ge r 75 with w | w
    · exact w
    · rw [ax_cd_out w] at hcd; cases hcd
  have hxr : ax_r64 x := (ax_c2 hst).1
  have hμ' : ax_okm (xset μ r c x) := ax_xset_ok hμ (by rw [ax_lk_fld hcd hks]; exact hxr)
  rw [List.map_cons, List.map_cons, ax_rvR (show r ≠ 150 by omega)]
  have he := ax_wd_get (q := q) (tc := tc) (μ := μ) hr1 hr2
  rw [ax_cE0 hcd] at he
  obtain ⟨C9, T9, N9⟩ := cq
  rw [hcq] at hop
  simp only [Bool.and_eq_true, Bool.not_eq_true', Bool.or_eq_true, decide_eq_true_eq] at hop
  have hde : (T9 c).2.2.1 = "J" := hkd.2.1 rfl
  refine va_put (ty := .long) hx hb (ax_wsm hts) (ax_cl_ok hcq).1 _ (ax_cl_ok hcq).2.1 (ax_cl_ok hcq).2.2 hown hK hP hD hS (r - (ax_sd k).1) he hcq c (ax_blt hop.1.1.1) (ax_wsm hts _ (ax_inM hop.1.1.2)) (fun _ h9 => h9) hop.1.2 (by rw [hde]; decide +kernel) rfl rfl (by rw [List.length_map, List.length_range]; exact (List.getElem?_eq_some_iff.mp hks).1) hd (fun H1 locs1 hP1 hD1 hS1 => ?_)
  have ew := ax_wd_set (q := q) (tc := tc) (μ := μ) (μ' := xset μ r c x) (e := .inr (b, ((List.range ks.length).map (fun j => ax_fv q μ r j (ks.getD j 0))).set c (.long (Int64.ofInt x)))) hr1 hr2 (by rw [ax_cE0 hcd, ax_fs_set hks]; show _ = ax_fv q (xset μ r c x) r c 1; unfold ax_fv; rw [ax_xset_s]) (ax_xset_o)
  rw [← hpc]
  exact h l D tc q p e s m args below meth cd A H1 locs1 ls C0 (ew ▸ hP1) (ew ▸ hD1) hS1 hl hL (ax_c2 (ax_c2 hst).2).2 hμ'
theorem ax_s46a {d k i : Nat} {L st : List AV} {μ : Mem} {Q : AV → Mem → Prop} {a c : Nat} {z : Int} {t : List (Int × Nat)} (hop : ax_ok k i (46, a, 0, c, z, t) = true) (h : ax_SW d k (i + 1) L (xI 1 :: st) μ Q) : ax_SW d k i L st μ Q := by
  intro l D tc q p e s m args below meth cd A H locs ls C hP hD hS hl hL hst hμ
  have C0 := C
  obtain ⟨hk, hx, hb, hr, hml, hown, hts, hlk, hK, hKC, hA⟩ := C
  simp only [ax_ok, Bool.and_eq_true] at hop
  obtain ⟨hq, hop⟩ := hop
  obtain ⟨hd, hpc⟩ := ax_bs_dq hq
  have h9 := h l D tc q p e s m args below meth cd A H locs ls C0 hP hD hS hl hL (ax_cc ⟨by decide, by decide⟩ hst) hμ
  rw [hpc] at h9
  exact va_gets hx hb hKC.2.2.1 hS hown (ax_wsm hts _ (ax_inM hop)) (fun _ h9 => h9) hd h9
theorem ax_s46b {d k i : Nat} {L st : List AV} {μ : Mem} {Q : AV → Mem → Prop} {a c : Nat} {z : Int} {t : List (Int × Nat)} (hop : ax_ok k i (46, a, 1, c, z, t) = true) (h : ax_SW d k (i + 1) L (xR 150 :: st) μ Q) : ax_SW d k i L st μ Q := by
  intro l D tc q p e s m args below meth cd A H locs ls C hP hD hS hl hL hst hμ
  have C0 := C
  obtain ⟨hk, hx, hb, hr, hml, hown, hts, hlk, hK, hKC, hA⟩ := C
  simp only [ax_ok, Bool.and_eq_true] at hop
  obtain ⟨hq, hop⟩ := hop
  obtain ⟨hd, hpc⟩ := ax_bs_dq hq
  have h9 := h l D tc q p e s m args below meth cd A H locs ls C0 hP hD hS hl hL (ax_cc trivial hst) hμ
  rw [hpc] at h9
  exact va_gets hx hb hKC.2.2.2.1 hS hown (ax_wsm hts _ (ax_inM hop)) (fun _ h9 => h9) hd h9
theorem ax_s46c {d k i : Nat} {L st : List AV} {μ : Mem} {Q : AV → Mem → Prop} {a g c : Nat} {z : Int} {t : List (Int × Nat)} (hop : ax_ok k i (46, a, g + 2, c, z, t) = true) (h : ax_SW d k (i + 1) L (xR (140 + g) :: st) μ Q) : ax_SW d k i L st μ Q := by
  intro l D tc q p e s m args below meth cd A H locs ls C hP hD hS hl hL hst hμ
  have C0 := C
  obtain ⟨hk, hx, hb, hr, hml, hown, hts, hlk, hK, hKC, hA⟩ := C
  simp only [ax_ok, Bool.and_eq_true] at hop
  obtain ⟨hq, hop⟩ := hop
  obtain ⟨hd, hpc⟩ := ax_bs_dq hq
  have hg := ax_blt hop.2
  have h9 := h l D tc q p e s m args below meth cd A H locs ls C0 hP hD hS hl hL (ax_cc trivial hst) hμ
  rw [hpc, List.map_cons, ax_rvR (show 140 + g ≠ 150 by omega)] at h9
  exact va_gets hx hb (hKC.2.2.2.2.2 g (by omega)).1 hS hown (ax_wsm hts _ (ax_inM hop.1)) (fun _ h9 => h9) hd h9
theorem ax_s47 {d k i : Nat} {L st : List AV} {μ : Mem} {Q : AV → Mem → Prop} {a b c : Nat} {z : Int} {t : List (Int × Nat)} {r n : Nat} {x : Int} {v : AV} {ks : List Nat} (hop : ax_ok k i (47, a, b, c, z, t) = true) (hin : ax_inS k r = true) (hcd : ax_cd r = (1, n, ks)) (hv : ∀ q, ax_rv q v = .ref (q.1 r)) (h0 : 0 ≤ x) (h1 : x < (n : Int)) (h : ax_SW d k (i + 1) L (xI (μ r x.toNat) :: st) μ Q) : ax_SW d k i L (xI x :: v :: st) μ Q := by
  intro l D tc q p e s m args below meth cd A H locs ls C hP hD hS hl hL hst hμ
  have C0 := C
  obtain ⟨hk, hx, hb, hr, hml, hown, hts, hlk, hK, hKC, hA⟩ := C
  obtain ⟨hr1, hr2⟩ := ax_inS_e hin
  simp only [ax_ok] at hop
  obtain ⟨hd, hpc⟩ := ax_bs_dq hop
  have hx1 : ax_r32 x := (ax_c2 hst).1
  have hm : ax_r32 (μ r x.toNat) := by have := hμ r x.toNat; rw [ax_lk_arr hcd (by decide)] at this; exact this
  have h9 := h l D tc q p e s m args below meth cd A H locs ls C0 hP hD hS hl hL (ax_cc hm (ax_c2 (ax_c2 hst).2).2) hμ
  rw [hpc] at h9
  rw [List.map_cons, List.map_cons, hv q]
  have he := ax_wd_get (q := q) (tc := tc) (μ := μ) hr1 hr2
  rw [ax_cE1 hcd] at he
  refine va_iald hx hb hK hP (r - (ax_sd k).1) 0 he rfl (ax_vin hx1 h0 h1) hd ?_
  rw [ax_cl0 hx1]
  exact h9
theorem ax_s48 {d k i : Nat} {L st : List AV} {μ : Mem} {Q : AV → Mem → Prop} {a b c : Nat} {z : Int} {t : List (Int × Nat)} {r n : Nat} {x y : Int} {v : AV} {ks : List Nat} (hop : ax_ok k i (48, a, b, c, z, t) = true) (hin : ax_inS k r = true) (hcd : ax_cd r = (1, n, ks)) (hv : ∀ q, ax_rv q v = .ref (q.1 r)) (h0 : 0 ≤ x) (h1 : x < (n : Int)) (h : ax_SW d k (i + 1) L st (xset μ r x.toNat y) Q) : ax_SW d k i L (xI y :: xI x :: v :: st) μ Q := by
  intro l D tc q p e s m args below meth cd A H locs ls C hP hD hS hl hL hst hμ
  have C0 := C
  obtain ⟨hk, hx, hb, hr, hml, hown, hts, hlk, hK, hKC, hA⟩ := C
  obtain ⟨hr1, hr2⟩ := ax_inS_e hin
  simp only [ax_ok] at hop
  obtain ⟨hd, hpc⟩ := ax_bs_dq hop
  have hy : ax_r32 y := (ax_c2 hst).1
  have hx1 : ax_r32 x := (ax_c2 (ax_c2 hst).2).1
  have hμ' : ax_okm (xset μ r x.toNat y) := ax_xset_ok hμ (by rw [ax_lk_arr hcd (by decide)]; exact hy)
  rw [List.map_cons, List.map_cons, List.map_cons, hv q]
  have he := ax_wd_get (q := q) (tc := tc) (μ := μ) hr1 hr2
  rw [ax_cE1 hcd] at he
  refine va_iast hx hb hK hP hD hS (r - (ax_sd k).1) 0 he rfl (ax_vin hx1 h0 h1) hd (fun H1 locs1 hP1 hD1 hS1 => ?_)
  have ew := ax_wd_set (q := q) (tc := tc) (μ := μ) (μ' := xset μ r x.toNat y) (e := .inl (tc 0, n, .inl (upd (fun j => Int32.ofInt (μ r j)) (Int32.ofInt x).toNatClampNeg (Int32.ofInt y)))) hr1 hr2 (by
    rw [ax_cE1 hcd, ax_cl0 hx1]
    congr 3
    refine congrArg Sum.inl (funext fun j => ?_)
    unfold upd xset
    by_cases e : j = x.toNat
    · rw [if_pos e, if_pos ⟨rfl, e⟩]
    · rw [if_neg e, if_neg (fun w => e w.2)]) (ax_xset_o)
  rw [← hpc]
  exact h l D tc q p e s m args below meth cd A H1 locs1 ls C0 (ew ▸ hP1) (ew ▸ hD1) hS1 hl hL (ax_c2 (ax_c2 (ax_c2 hst).2).2).2 hμ'
theorem ax_s49 {d k i : Nat} {L st : List AV} {μ : Mem} {Q : AV → Mem → Prop} {a b c : Nat} {z : Int} {t : List (Int × Nat)} {r n : Nat} {x : Int} {ks : List Nat} (hop : ax_ok k i (49, a, b, c, z, t) = true) (hin : ax_inS k r = true) (hcd : ax_cd r = (2, n, ks)) (h0 : 0 ≤ x) (h1 : x < (n : Int)) (h : ax_SW d k (i + 1) L (xI (μ r x.toNat) :: st) μ Q) : ax_SW d k i L (xI x :: xR r :: st) μ Q := by
  intro l D tc q p e s m args below meth cd A H locs ls C hP hD hS hl hL hst hμ
  have C0 := C
  obtain ⟨hk, hx, hb, hr, hml, hown, hts, hlk, hK, hKC, hA⟩ := C
  obtain ⟨hr1, hr2⟩ := ax_inS_e hin
  simp only [ax_ok] at hop
  obtain ⟨hd, hpc⟩ := ax_bs_dq hop
  have hx1 : ax_r32 x := (ax_c2 hst).1
  have hm : ax_r32 (μ r x.toNat) := by have := hμ r x.toNat; rw [ax_lk_arr hcd (by decide)] at this; exact this
  have h9 := h l D tc q p e s m args below meth cd A H locs ls C0 hP hD hS hl hL (ax_cc hm (ax_c2 (ax_c2 hst).2).2) hμ
  rw [hpc] at h9
  have hr75 : r < 75 := by
    rcases Nat.lt_or_ge r 75 with w | w
    · exact w
    · rw [ax_cd_out w] at hcd; cases hcd
  rw [List.map_cons, List.map_cons, ax_rvR (show r ≠ 150 by omega)]
  have he := ax_wd_get (q := q) (tc := tc) (μ := μ) hr1 hr2
  rw [ax_cE2 hcd] at he
  refine va_zald hx hb hK hP (r - (ax_sd k).1) 1 he rfl (ax_vin hx1 h0 h1) hd ?_
  rw [ax_cl0 hx1]
  exact h9
theorem ax_nb {y : Int} (h0 : 0 ≤ y) (h1 : y < 2) : vp_nar .boolean (Int32.ofInt y) = Int32.ofInt y ∧ narrow .boolean (.int (Int32.ofInt y)) = .int (Int32.ofInt y) := by
  rcases (show y = 0 ∨ y = 1 by omega) with rfl | rfl <;> exact ⟨by decide, by decide⟩
theorem ax_s50 {d k i : Nat} {L st : List AV} {μ : Mem} {Q : AV → Mem → Prop} {a b c : Nat} {z : Int} {t : List (Int × Nat)} {r n : Nat} {x y : Int} {ks : List Nat} (hop : ax_ok k i (50, a, b, c, z, t) = true) (hin : ax_inS k r = true) (hcd : ax_cd r = (2, n, ks)) (h0 : 0 ≤ x) (h1 : x < (n : Int)) (hy0 : 0 ≤ y) (hy1 : y < 2) (h : ax_SW d k (i + 1) L st (xset μ r x.toNat y) Q) : ax_SW d k i L (xI y :: xI x :: xR r :: st) μ Q := by
  intro l D tc q p e s m args below meth cd A H locs ls C hP hD hS hl hL hst hμ
  have C0 := C
  obtain ⟨hk, hx, hb, hr, hml, hown, hts, hlk, hK, hKC, hA⟩ := C
  obtain ⟨hr1, hr2⟩ := ax_inS_e hin
  simp only [ax_ok] at hop
  obtain ⟨hd, hpc⟩ := ax_bs_dq hop
  have hy : ax_r32 y := (ax_c2 hst).1
  have hx1 : ax_r32 x := (ax_c2 (ax_c2 hst).2).1
  have hμ' : ax_okm (xset μ r x.toNat y) := ax_xset_ok hμ (by rw [ax_lk_arr hcd (by decide)]; exact hy)
  have hr75 : r < 75 := by
    rcases Nat.lt_or_ge r 75 with w | w
    · exact w
    · rw [ax_cd_out w] at hcd; cases hcd
  rw [List.map_cons, List.map_cons, List.map_cons, ax_rvR (show r ≠ 150 by omega)]
  have he := ax_wd_get (q := q) (tc := tc) (μ := μ) hr1 hr2
  rw [ax_cE2 hcd] at he
  refine va_zast hx hb hK hP hD hS (r - (ax_sd k).1) 1 he rfl (ax_vin hx1 h0 h1) hd (fun H1 locs1 hP1 hD1 hS1 => ?_)
  rw [(ax_nb hy0 hy1).1] at hP1 hD1
  have ew := ax_wd_set (q := q) (tc := tc) (μ := μ) (μ' := xset μ r x.toNat y) (e := .inl (tc 1, n, .inl (upd (fun j => Int32.ofInt (μ r j)) (Int32.ofInt x).toNatClampNeg (Int32.ofInt y)))) hr1 hr2 (by
    rw [ax_cE2 hcd, ax_cl0 hx1]
    congr 3
    refine congrArg Sum.inl (funext fun j => ?_)
    unfold upd xset
    by_cases e : j = x.toNat
    · rw [if_pos e, if_pos ⟨rfl, e⟩]
    · rw [if_neg e, if_neg (fun w => e w.2)]) (ax_xset_o)
  rw [← hpc]
  exact h l D tc q p e s m args below meth cd A H1 locs1 ls C0 (ew ▸ hP1) (ew ▸ hD1) hS1 hl hL (ax_c2 (ax_c2 (ax_c2 hst).2).2).2 hμ'
theorem ax_con_e {r : Nat} {l : List Int} (h : ax_con r = some l) : ∃ j : Nat, j < 3 ∧ r = 140 + j ∧ ax_staV.getD j [] = l := by
  unfold ax_con at h
  split at h
  · next hh =>
    simp only [Bool.and_eq_true] at hh
    have h1 := Nat.le_of_ble_eq_true hh.1
    have h2 := ax_blt hh.2
    exact ⟨r - 140, by omega, by omega, by rw [List.getD_eq_getElem?_getD, h]; rfl⟩
  · cases h
theorem ax_byt_e {r : Nat} {l : List Int} (h : ax_byt r = some l) : ∃ j : Nat, j < 17 ∧ r = 120 + j ∧ ax_strB.getD j [] = l ∧ ax_strN.getD j 0 = l.length ∧ ax_strB32.getD j [] = l.map Int32.ofInt := by
  unfold ax_byt at h
  split at h
  · next hh =>
    simp only [Bool.and_eq_true] at hh
    have h1 := Nat.le_of_ble_eq_true hh.1
    have h2 := ax_blt hh.2
    refine ⟨r - 120, by omega, by omega, by rw [List.getD_eq_getElem?_getD, h]; rfl, ?_, ?_⟩
    · have key : ∀ j, j < 17 → ax_strN.getD j 0 = (ax_strB.getD j []).length := by decide +kernel
      rw [key _ (by omega), List.getD_eq_getElem?_getD, h]
      rfl
    · unfold ax_strB32
      rw [List.getD_eq_getElem?_getD, List.getElem?_map, h]
      rfl
  · cases h
theorem ax_staOk : ∀ j, j < 3 → ∀ x ∈ ax_staV.getD j [], -2147483648 ≤ x ∧ x < 2147483648 := by decide +kernel
theorem ax_strOk : ∀ j, j < 17 → ∀ x ∈ ax_strB.getD j [], -2147483648 ≤ x ∧ x < 2147483648 := by decide +kernel
theorem ax_lenOk : (∀ j, j < 3 → (ax_staV.getD j []).length < 100) ∧ ∀ j, j < 17 → (ax_strB.getD j []).length < 100 := by decide +kernel
theorem ax_getD_ok {l : List Int} (h : ∀ x ∈ l, -2147483648 ≤ x ∧ x < 2147483648) (n : Nat) : ax_r32 (l.getD n 0) := by
  rw [List.getD_eq_getElem?_getD]
  cases e : l[n]? with
  | none => exact ax_r0
  | some x => exact h x (List.mem_of_getElem? e)
theorem ax_s47c {d k i : Nat} {L st : List AV} {μ : Mem} {Q : AV → Mem → Prop} {a b c : Nat} {z : Int} {t : List (Int × Nat)} {r : Nat} {x : Int} {cl : List Int} (hop : ax_ok k i (47, a, b, c, z, t) = true) (hc : ax_con r = some cl) (h0 : 0 ≤ x) (h1 : x < (cl.length : Int)) (h : ax_SW d k (i + 1) L (xI (cl.getD x.toNat 0) :: st) μ Q) : ax_SW d k i L (xI x :: xR r :: st) μ Q := by
  intro l D tc q p e s m args below meth cd A H locs ls C hP hD hS hl hL hst hμ
  have C0 := C
  obtain ⟨hk, hx, hb, hr, hml, hown, hts, hlk, hK, hKC, hA⟩ := C
  obtain ⟨j, hj, rfl, rfl⟩ := ax_con_e hc
  simp only [ax_ok] at hop
  obtain ⟨hd, hpc⟩ := ax_bs_dq hop
  have hx1 : ax_r32 x := (ax_c2 hst).1
  have h9 := h l D tc q p e s m args below meth cd A H locs ls C0 hP hD hS hl hL (ax_cc (ax_getD_ok (ax_staOk j hj) _) (ax_c2 (ax_c2 hst).2).2) hμ
  rw [hpc] at h9
  rw [List.map_cons, List.map_cons, ax_rvR (show 140 + j ≠ 150 by omega)]
  exact va_ti hx hb (hKC.2.2.2.2.2 j hj).2 hS (ax_vin hx1 h0 h1) (by rw [ax_cl0 hx1]; rfl) hd h9
theorem ax_s49c {d k i : Nat} {L st : List AV} {μ : Mem} {Q : AV → Mem → Prop} {a b c : Nat} {z : Int} {t : List (Int × Nat)} {r : Nat} {x : Int} {cl : List Int} (hop : ax_ok k i (49, a, b, c, z, t) = true) (hc : ax_byt r = some cl) (h0 : 0 ≤ x) (h1 : x < (cl.length : Int)) (h : ax_SW d k (i + 1) L (xI (cl.getD x.toNat 0) :: st) μ Q) : ax_SW d k i L (xI x :: xR r :: st) μ Q := by
  intro l D tc q p e s m args below meth cd A H locs ls C hP hD hS hl hL hst hμ
  have C0 := C
  obtain ⟨hk, hx, hb, hr, hml, hown, hts, hlk, hK, hKC, hA⟩ := C
  obtain ⟨j, hj, rfl, e1, e2, e3⟩ := ax_byt_e hc
  simp only [ax_ok] at hop
  obtain ⟨hd, hpc⟩ := ax_bs_dq hop
  have hx1 : ax_r32 x := (ax_c2 hst).1
  have h9 := h l D tc q p e s m args below meth cd A H locs ls C0 hP hD hS hl hL (ax_cc (ax_getD_ok (e1 ▸ ax_strOk j hj) _) (ax_c2 (ax_c2 hst).2).2) hμ
  rw [hpc] at h9
  rw [List.map_cons, List.map_cons, ax_rvR (show 120 + j ≠ 150 by omega)]
  have hT := (hKC.1.1 j hj).2.2.2
  rw [e2, e3] at hT
  refine va_tb hx hb hT hS (ax_vin hx1 h0 h1) ?_ hd h9
  show Value.int ((cl.map Int32.ofInt).getD (Int32.ofInt x).toNatClampNeg 0) = ax_rv q (xI (cl.getD x.toNat 0))
  rw [ax_cl0 hx1, List.getD_eq_getElem?_getD, List.getD_eq_getElem?_getD, List.getElem?_map]
  have hlt : x.toNat < cl.length := by omega
  rw [List.getElem?_eq_getElem hlt]
  rfl
theorem ax_sel_e {ks : List Nat} {F : Nat → Prop} {x : Int} : ∀ {m : Int}, ax_sel m ks x F → ∃ (j g : Nat), ks[j]? = some g ∧ x = m + (j : Int) ∧ F g := by
  induction ks with
  | nil => intro m h; exact h.elim
  | cons r ks ih =>
    intro m h
    unfold ax_sel at h
    by_cases e : x = m
    · rw [if_pos e] at h
      exact ⟨0, r, rfl, by rw [e]; simp, h⟩
    · rw [if_neg e] at h
      obtain ⟨j, g, h1, h2, h3⟩ := ih h
      exact ⟨j + 1, g, h1, by rw [h2]; simp only [Int.natCast_add, Int.natCast_one]; omega, h3⟩
theorem ax_ref_n {r n : Nat} {ks : List Nat} (h : ax_cd r = (3, n, ks)) : n = ks.length ∧ ∀ g ∈ ks, g < 75 := by
  have h1 := ax_cdokE r
  unfold ax_cdok at h1
  rw [h] at h1
  simp only [Bool.and_eq_true] at h1
  exact ⟨Nat.eq_of_beq_eq_true h1.1.1, fun g hg => ax_blt (List.all_eq_true.mp h1.1.2 g hg)⟩
theorem ax_s51 {d k i : Nat} {L st : List AV} {μ : Mem} {Q : AV → Mem → Prop} {a b c : Nat} {z : Int} {t : List (Int × Nat)} {r : Nat} {x : Int} {ks : List Nat} (hop : ax_ok k i (51, a, b, c, z, t) = true) (hc : ax_ref k r = some ks) {j g : Nat} (hj : ks[j]? = some g) (hxj : x = (j : Int)) (h : ax_SW d k (i + 1) L (xR g :: st) μ Q) : ax_SW d k i L (xI x :: xR r :: st) μ Q := by
  intro l D tc q p e s m args below meth cd A H locs ls C hP hD hS hl hL hst hμ
  have C0 := C
  obtain ⟨hk, hx, hb, hr, hml, hown, hts, hlk, hK, hKC, hA⟩ := C
  obtain ⟨hin, n, hcd⟩ := ax_ref_e hc
  obtain ⟨hr1, hr2⟩ := ax_inS_e hin
  obtain ⟨hn, hg⟩ := ax_ref_n hcd
  have hjl : j < ks.length := (List.getElem?_eq_some_iff.mp hj).1
  simp only [ax_ok] at hop
  obtain ⟨hd, hpc⟩ := ax_bs_dq hop
  have hx1 : ax_r32 x := (ax_c2 hst).1
  have hg75 := hg g (List.mem_of_getElem? hj)
  have h9 := h l D tc q p e s m args below meth cd A H locs ls C0 hP hD hS hl hL (ax_cc trivial (ax_c2 (ax_c2 hst).2).2) hμ
  rw [hpc, List.map_cons, ax_rvR (show g ≠ 150 by omega)] at h9
  have hr75 : r < 75 := by
    rcases Nat.lt_or_ge r 75 with w | w
    · exact w
    · rw [ax_cd_out w] at hcd; cases hcd
  rw [List.map_cons, List.map_cons, ax_rvR (show r ≠ 150 by omega)]
  have he := ax_wd_get (q := q) (tc := tc) (μ := μ) hr1 hr2
  rw [ax_cE3 hcd] at he
  refine va_aldq hx hb hK hP (r - (ax_sd k).1) 2 he rfl (ax_vin hx1 (by omega) (by omega)) hd ?_
  rw [ax_cl0 hx1, show x.toNat = j by omega]
  show W p l e (ax_rm d) s m args below meth cd H locs 0 0 _ (F0 m (ax_pc k i + 1) ls (va_rf ((ks[j]?).map q.1) :: _))
  rw [hj]
  exact h9
theorem ax_s51w {d k i : Nat} {L st : List AV} {μ : Mem} {Q : AV → Mem → Prop} {a b c : Nat} {z : Int} {t : List (Int × Nat)} {r : Nat} {x : Int} {nm : Nat × Nat} (hop : ax_ok k i (51, a, b, c, z, t) = true) (hc : ax_row k r = some nm) (h0 : 0 ≤ x) (h1 : x < (nm.1 : Int)) (h : ax_SW d k (i + 1) L (xW r x :: st) μ Q) : ax_SW d k i L (xI x :: xR r :: st) μ Q := by
  intro l D tc q p e s m args below meth cd A H locs ls C hP hD hS hl hL hst hμ
  have C0 := C
  obtain ⟨hk, hx, hb, hr, hml, hown, hts, hlk, hK, hKC, hA⟩ := C
  obtain ⟨hin, hcd⟩ := ax_row_e hc
  obtain ⟨hr1, hr2⟩ := ax_inS_e hin
  simp only [ax_ok] at hop
  obtain ⟨hd, hpc⟩ := ax_bs_dq hop
  have hx1 : ax_r32 x := (ax_c2 hst).1
  have hok : ax_okv (xW r x) := ⟨nm.1, nm.2, hcd, h0, h1⟩
  have h9 := h l D tc q p e s m args below meth cd A H locs ls C0 hP hD hS hl hL (ax_cc hok (ax_c2 (ax_c2 hst).2).2) hμ
  rw [hpc, List.map_cons] at h9
  have hr75 : r < 75 := by
    rcases Nat.lt_or_ge r 75 with w | w
    · exact w
    · rw [ax_cd_out w] at hcd; cases hcd
  rw [List.map_cons, List.map_cons, ax_rvR (show r ≠ 150 by omega)]
  have he := ax_wd_get (q := q) (tc := tc) (μ := μ) hr1 hr2
  rw [ax_cE4 hcd] at he
  have hv := ax_vin hx1 h0 h1
  have hlt : (Int32.ofInt x).toNatClampNeg < nm.1 := by rw [ax_cl0 hx1]; omega
  refine W.aald (v := ax_rv q (xW r x)) (ty := .array .int) hx hb (hP _ _ he) ((hK.2 3 _ rfl).1 nm.1 (fun j => va_rf (if j < nm.1 then some (q.1 (r + 1 + j)) else none))) rfl (fun q => by cases q) (by show ¬ (_ ∨ (arrV _ _ _).slots.size ≤ _); rw [arrV_size]; exact hv) (by
    show (arrV _ _ _).slots[_]? = _
    rw [arrV_read _ _ hlt]
    show some (va_rf (if (Int32.ofInt x).toNatClampNeg < nm.1 then some (q.1 (r + 1 + (Int32.ofInt x).toNatClampNeg)) else none)) = _
    rw [if_pos hlt, ax_cl0 hx1]
    rfl) rfl rfl hd h9
theorem ax_s52 {d k i : Nat} {L st : List AV} {μ : Mem} {Q : AV → Mem → Prop} {a b c : Nat} {z : Int} {t : List (Int × Nat)} {r n : Nat} (hop : ax_ok k i (52, a, b, c, z, t) = true) (hc : ax_arr 1 k r = some n) (h : ax_SW d k (i + 1) L (xI (n : Int) :: st) μ Q) : ax_SW d k i L (xR r :: st) μ Q := by
  intro l D tc q p e s m args below meth cd A H locs ls C hP hD hS hl hL hst hμ
  have C0 := C
  obtain ⟨hk, hx, hb, hr, hml, hown, hts, hlk, hK, hKC, hA⟩ := C
  obtain ⟨hin, ks, hcd⟩ := ax_arr_e hc
  obtain ⟨hr1, hr2⟩ := ax_inS_e hin
  simp only [ax_ok] at hop
  obtain ⟨hd, hpc⟩ := ax_bs_dq hop
  have hn := ax_arr_n hcd (by decide)
  have h9 := h l D tc q p e s m args below meth cd A H locs ls C0 hP hD hS hl hL (ax_cc ⟨by omega, by omega⟩ (ax_c2 hst).2) hμ
  rw [hpc] at h9
  have hr75 : r < 75 := by
    rcases Nat.lt_or_ge r 75 with w | w
    · exact w
    · rw [ax_cd_out w] at hcd; cases hcd
  rw [List.map_cons, ax_rvR (show r ≠ 150 by omega)]
  have he := ax_wd_get (q := q) (tc := tc) (μ := μ) hr1 hr2
  rw [ax_cE1 hcd] at he
  exact va_alen hx hb hK hP (r - (ax_sd k).1) 0 he (ty := .int) rfl (v := Int32.ofInt (n : Int)) (by rw [Int32.ofInt_eq_ofNat]) hd h9
theorem ax_s52c {d k i : Nat} {L st : List AV} {μ : Mem} {Q : AV → Mem → Prop} {a b c : Nat} {z : Int} {t : List (Int × Nat)} {r : Nat} {cl : List Int} (hop : ax_ok k i (52, a, b, c, z, t) = true) (hc : ax_con r = some cl) (h : ax_SW d k (i + 1) L (xI (cl.length : Int) :: st) μ Q) : ax_SW d k i L (xR r :: st) μ Q := by
  intro l D tc q p e s m args below meth cd A H locs ls C hP hD hS hl hL hst hμ
  have C0 := C
  obtain ⟨hk, hx, hb, hr, hml, hown, hts, hlk, hK, hKC, hA⟩ := C
  obtain ⟨j, hj, rfl, rfl⟩ := ax_con_e hc
  simp only [ax_ok] at hop
  obtain ⟨hd, hpc⟩ := ax_bs_dq hop
  have hn := ax_lenOk.1 j hj
  have h9 := h l D tc q p e s m args below meth cd A H locs ls C0 hP hD hS hl hL (ax_cc ⟨by omega, by omega⟩ (ax_c2 hst).2) hμ
  rw [hpc] at h9
  rw [List.map_cons, ax_rvR (show 140 + j ≠ 150 by omega)]
  exact va_tlen hx hb (hKC.2.2.2.2.2 j hj).2 hS (by rw [Int32.ofInt_eq_ofNat]) hd h9
theorem ax_s52b {d k i : Nat} {L st : List AV} {μ : Mem} {Q : AV → Mem → Prop} {a b c : Nat} {z : Int} {t : List (Int × Nat)} {r : Nat} {cl : List Int} (hop : ax_ok k i (52, a, b, c, z, t) = true) (hc : ax_byt r = some cl) (h : ax_SW d k (i + 1) L (xI (cl.length : Int) :: st) μ Q) : ax_SW d k i L (xR r :: st) μ Q := by
  intro l D tc q p e s m args below meth cd A H locs ls C hP hD hS hl hL hst hμ
  have C0 := C
  obtain ⟨hk, hx, hb, hr, hml, hown, hts, hlk, hK, hKC, hA⟩ := C
  obtain ⟨j, hj, rfl, e1, e2, e3⟩ := ax_byt_e hc
  simp only [ax_ok] at hop
  obtain ⟨hd, hpc⟩ := ax_bs_dq hop
  have hn := ax_lenOk.2 j hj
  rw [e1] at hn
  have h9 := h l D tc q p e s m args below meth cd A H locs ls C0 hP hD hS hl hL (ax_cc ⟨by omega, by omega⟩ (ax_c2 hst).2) hμ
  rw [hpc] at h9
  rw [List.map_cons, ax_rvR (show 120 + j ≠ 150 by omega)]
  have hT := (hKC.1.1 j hj).2.2.2
  rw [e2] at hT
  exact va_tlen hx hb hT hS (by rw [Int32.ofInt_eq_ofNat]) hd h9
theorem ax_rtk : ∀ k, k < ax_K → (ax_rk k = 0 → ax_rt k = none) ∧ (ax_rk k = 1 → ax_rt k = some .int) ∧ (ax_rk k = 2 → ax_rt k = some .boolean) ∧ (ax_rk k = 3 → ax_rt k = some (.object "java/lang/String")) ∧ (ax_rk k = 4 → ax_rt k = some .char) ∧ (ax_rk k = 5 → ax_rt k = some .byte) := by decide +kernel
theorem ax_rvo1 {rk : Nat} {q : (Nat → Nat) × Value} {r : AV} (h : rk ≠ 0) : ax_rvo rk q r = some (ax_rv q r) := by
  match rk, h with
  | 0, h => exact absurd rfl h
  | n + 1, _ => rfl
theorem ax_s53 {d k i : Nat} {L : List AV} {μ : Mem} {Q : AV → Mem → Prop} {a b c : Nat} {z : Int} {t : List (Int × Nat)} {x : Int} {ty : FieldType} (hop : ax_ok k i (53, a, b, c, z, t) = true) (hty : k < ax_K → ax_rt k = some ty) (hk0 : ax_rk k ≠ 0) (hn : ax_r32 x → narrow ty (.int (Int32.ofInt x)) = .int (Int32.ofInt x)) (h : Q (xI x) μ) : ax_SW d k i L [xI x] μ Q := by
  intro l D tc q p e s m args below meth cd A H locs ls C hP hD hS hl hL hst hμ
  have C0 := C
  obtain ⟨hk, hx, hb, hr, hml, hown, hts, hlk, hK, hKC, hA⟩ := C
  simp only [ax_ok] at hop
  have hd := ax_bs_d1 hop
  have hx1 : ax_r32 x := (ax_c2 hst).1
  rw [hty hk] at hr
  exact W.zret hx hb hr (hn hx1) (fun t ht hW => ⟨⟨xI x, μ, by rw [ax_rvo1 hk0]; rfl, hx1, hμ, h, by rw [ht]; exact hP, va_K.moved hW.alike hK, hD⟩, hS.F ht⟩) hS.2.2 hd hlk
theorem ax_s54 {d k i : Nat} {L : List AV} {μ : Mem} {Q : AV → Mem → Prop} {a b c : Nat} {z : Int} {t : List (Int × Nat)} (hop : ax_ok k i (54, a, b, c, z, t) = true) (hk0 : ax_rk k = 0) (h : Q (xI 0) μ) : ax_SW d k i L [] μ Q := by
  intro l D tc q p e s m args below meth cd A H locs ls C hP hD hS hl hL hst hμ
  have C0 := C
  obtain ⟨hk, hx, hb, hr, hml, hown, hts, hlk, hK, hKC, hA⟩ := C
  simp only [ax_ok] at hop
  have hd := ax_bs_d1 hop
  rw [(ax_rtk k hk).1 hk0] at hr
  exact W.vret hx hb hr (fun t ht hW => ⟨⟨xI 0, μ, by rw [hk0]; rfl, ax_r0, hμ, h, by rw [ht]; exact hP, va_K.moved hW.alike hK, hD⟩, hS.F ht⟩) hS.2.2 hd hlk
theorem ax_s55 {d k i : Nat} {L : List AV} {μ : Mem} {Q : AV → Mem → Prop} {a b c : Nat} {z : Int} {t : List (Int × Nat)} {r : Nat} (hop : ax_ok k i (55, a, b, c, z, t) = true) (hk0 : ax_rk k = 3) (hr0 : r ≠ 150) (h : Q (xR r) μ) : ax_SW d k i L [xR r] μ Q := by
  intro l D tc q p e s m args below meth cd A H locs ls C hP hD hS hl hL hst hμ
  have C0 := C
  obtain ⟨hk, hx, hb, hr, hml, hown, hts, hlk, hK, hKC, hA⟩ := C
  simp only [ax_ok] at hop
  have hd := ax_bs_d1 hop
  rw [(ax_rtk k hk).2.2.2.1 hk0] at hr
  exact W.aret hx hb hr (Or.inl ⟨_, rfl⟩) (Or.inr ⟨_, ax_rvR hr0⟩) (fun t ht hW => ⟨⟨xR r, μ, by rw [hk0]; rfl, trivial, hμ, h, by rw [ht]; exact hP, va_K.moved hW.alike hK, hD⟩, hS.F ht⟩) hS.2.2 hd hlk
end
section
theorem ax_sw_e {t : List (Int × Nat)} {x : Int} {F : Nat → Prop} {dd : Nat} (h : ax_sw t x F dd) : (∃ (j g : Nat), t[j]? = some (x, g) ∧ F g) ∨ ((∀ p ∈ t, x ≠ p.1) ∧ F dd) := by
  induction t with
  | nil => exact Or.inr ⟨fun p hp => absurd hp List.not_mem_nil, h⟩
  | cons kg t ih =>
    obtain ⟨key, g⟩ := kg
    unfold ax_sw at h
    by_cases e : x = key
    · rw [if_pos e] at h
      exact Or.inl ⟨0, g, by rw [e]; rfl, h⟩
    · rw [if_neg e] at h
      rcases ih h with ⟨j, g', h1, h2⟩ | ⟨h1, h2⟩
      · exact Or.inl ⟨j + 1, g', h1, h2⟩
      · exact Or.inr ⟨fun p hp => by
          rcases List.mem_cons.mp hp with rfl | hp
          · exact e
          · exact h1 p hp, h2⟩
theorem ax_s42 {d k i : Nat} {L st : List AV} {μ : Mem} {Q : AV → Mem → Prop} {a b c : Nat} {z : Int} {t : List (Int × Nat)} {x : Int} (hop : ax_ok k i (42, a, b, c, z, t) = true) (h : ax_sw t x (fun g => ax_SW d k g L st μ Q) a) : ax_SW d k i L (xI x :: st) μ Q := by
  intro l D tc q p e s m args below meth cd A H locs ls C hP hD hS hl hL hst hμ
  have C0 := C
  obtain ⟨hk, hx, hb, hr, hml, hown, hts, hlk, hK, hKC, hA⟩ := C
  have hx1 : ax_r32 x := (ax_c2 hst).1
  cases t with
  | nil => simp [ax_ok] at hop
  | cons t0 t1 =>
    obtain ⟨lo, g0⟩ := t0
    simp only [ax_ok, Bool.and_eq_true] at hop
    obtain ⟨⟨hd, htg⟩, hkeys⟩ := hop
    have hd := ax_bs_d1 hd
    have htg := ax_bs_tg htg
    have hkey : ∀ (j : Nat) (w : Int × Nat), ((lo, g0) :: t1)[j]? = some w → w.1 = lo + (j : Int) := fun j w hw => by
      have := List.all_eq_true.mp hkeys j (List.mem_range.mpr (List.getElem?_eq_some_iff.mp hw).1)
      rw [decide_eq_true_eq, List.getD_eq_getElem?_getD, hw] at this
      exact this
    rcases ax_sw_e h with ⟨j, g, hj, hF⟩ | ⟨hno, hF⟩
    · have h9 := hF l D tc q p e s m args below meth cd A H locs ls C0 hP hD hS hl hL (ax_c2 hst).2 hμ
      have hjl := (List.getElem?_eq_some_iff.mp hj).1
      have hxj := hkey j _ hj
      refine lv_tableIn (off := (ax_pc k g : Int) - (ax_pc k i : Int)) hx hb hd (by rw [ax_ti hx1]; omega) (by rw [ax_ti hx1]; omega) ?_ (by omega) h9
      rw [ax_ti hx1, show (x - lo).toNat = j by omega, List.getElem?_toArray, List.getElem?_map, hj]
      rfl
    · have h9 := hF l D tc q p e s m args below meth cd A H locs ls C0 hP hD hS hl hL (ax_c2 hst).2 hμ
      refine lv_tableOut hx hb hd ?_ htg h9
      rw [ax_ti hx1]
      by_cases h1 : x < lo
      · exact Or.inl h1
      · by_cases h2 : lo + (((lo, g0) :: t1).length : Int) - 1 < x
        · exact Or.inr h2
        · have hj : (x - lo).toNat < ((lo, g0) :: t1).length := by omega
          have h3 := hkey (x - lo).toNat _ (List.getElem?_eq_getElem hj)
          exact absurd (by rw [h3]; omega) (hno _ (List.getElem_mem hj))
theorem ax_look {k i : Nat} {z x : Int} {F : Nat → Prop} {dd : Nat} (hz : (ax_pc k i : Int) + z = (ax_pc k dd : Int)) : ∀ {t : List (Int × Nat)}, ax_sw t x F dd → ∃ (off : Int) (g : Nat), Op.lookupswitch.offset (t.map (fun p => (p.1, (ax_pc k p.2 : Int) - (ax_pc k i : Int)))) z x = off ∧ (ax_pc k i : Int) + off = (ax_pc k g : Int) ∧ F g
  | [], h => ⟨z, dd, rfl, hz, h⟩
  | (key, g) :: t, h => by
    unfold ax_sw at h
    rw [List.map_cons, Op.lookupswitch.offset_cons]
    by_cases e : x = key
    · rw [if_pos e] at h
      rw [if_pos e.symm]
      exact ⟨(ax_pc k g : Int) - (ax_pc k i : Int), g, rfl, by omega, h⟩
    · rw [if_neg e] at h
      rw [if_neg (fun w => e w.symm)]
      exact ax_look hz h
theorem ax_s43 {d k i : Nat} {L st : List AV} {μ : Mem} {Q : AV → Mem → Prop} {a b c : Nat} {z : Int} {t : List (Int × Nat)} {x : Int} (hop : ax_ok k i (43, a, b, c, z, t) = true) (h : ax_sw t x (fun g => ax_SW d k g L st μ Q) a) : ax_SW d k i L (xI x :: st) μ Q := by
  intro l D tc q p e s m args below meth cd A H locs ls C hP hD hS hl hL hst hμ
  have C0 := C
  obtain ⟨hk, hx, hb, hr, hml, hown, hts, hlk, hK, hKC, hA⟩ := C
  have hx1 : ax_r32 x := (ax_c2 hst).1
  simp only [ax_ok, Bool.and_eq_true] at hop
  obtain ⟨⟨hd, htg⟩, hsort⟩ := hop
  have hd := ax_bs_d1 hd
  have htg := ax_bs_tg htg
  obtain ⟨off, g, ho, hg, hF⟩ := ax_look htg h
  have h9 := hF l D tc q p e s m args below meth cd A H locs ls C0 hP hD hS hl hL (ax_c2 hst).2 hμ
  refine lv_lookup hx hb hd ?_ (by rw [ax_ti hx1]; exact ho) hg h9
  rw [List.all_eq_true] at hsort ⊢
  intro w hw
  simp only [← List.map_drop] at hw
  rw [List.zip_map, List.mem_map] at hw
  obtain ⟨w', hw', rfl⟩ := hw
  exact hsort w' hw'
/-! calls -/
theorem ax_goodW {k : Nat} {w : Cond} (h : w ∈ ax_wsA) : w ∈ ax_ws k ∧ ((w.onTables && w.keeps) = true ∨ ∃ ty, w = .arrayClass ty) := ⟨List.mem_cons_of_mem _ h, good_of_word (List.mem_filter.mp h).2⟩
theorem ax_goodA {k b : Nat} (hb : b < ax_K) : GoodIn (ax_ws k) (ax_ws b) := by
  intro w hw
  rcases List.mem_cons.mp hw with rfl | hw
  · exact ax_goodW (ax_codeIn b hb)
  · exact ax_goodW hw
theorem ax_goodV {k b a : Nat} (hb : b < ax_K) (h1 : .methodLink (ax_y k).cls a (ax_y b) ∈ ax_wsA) (h2 : .instanceMethod (ax_y b) ∈ ax_wsA) (h3 : .selects (ax_y b).cls (ax_y b) (ax_y b) ∈ ax_wsA) (h4 : .initialized (ax_y b).cls ∈ ax_wsA) : GoodIn (ax_ws k) (wsV (ax_y k).cls a (ax_y b).cls (ax_y b) (ax_ws b)) := by
  intro w hw
  rcases List.mem_append.mp hw with h | h
  · simp only [List.mem_cons, List.not_mem_nil, or_false] at h
    rcases h with rfl | rfl | rfl | rfl
    · exact ax_goodW h1
    · exact ax_goodW h2
    · exact ax_goodW h3
    · exact ax_goodW h4
  · exact ax_goodA hb w h
theorem ax_goodS {k b a : Nat} (hb : b < ax_K) (h1 : .methodLink (ax_y k).cls a (ax_y b) ∈ ax_wsA) (h2 : .static (ax_y b) ∈ ax_wsA) (h4 : .initialized (ax_y b).cls ∈ ax_wsA) : GoodIn (ax_ws k) (va_wsS (ax_y k).cls a (ax_y b) (ax_ws b)) := by
  intro w hw
  rcases List.mem_append.mp hw with h | h
  · simp only [List.mem_cons, List.not_mem_nil, or_false] at h
    rcases h with rfl | rfl | rfl
    · exact ax_goodW h1
    · exact ax_goodW h2
    · exact ax_goodW h4
  · exact ax_goodA hb w h
theorem ax_KC_to {q : (Nat → Nat) × Value} {A A' : Nat → Prop} {s U : State} {H : Heap} {locs : List Loc} (h : ax_KC q A s s.heap) (hS : va_S A s.heap H locs) (hA : ∀ x, A' x → A x) (hU : U.heap = H) (hW : s.WarmedH U.vm) : ax_KC q A' U U.heap := by
  rw [hU]
  obtain ⟨h1, h2, h3, h4, h5, h6⟩ := h
  exact ⟨vk_S.moved hW.alike ((h1.kept hS.2.1).narrow hA), fun i hi => (h2 i hi).warm hW, va_Z.moved hW.alike ((h3.kept hS.2.1).narrow hA), va_Z.moved hW.alike ((h4.kept hS.2.1).narrow hA), h5, fun j hj => ⟨va_Z.moved hW.alike (((h6 j hj).1.kept hS.2.1).narrow hA), va_T.moved hW.alike (((h6 j hj).2.kept hS.2.1).narrow hA)⟩⟩
theorem ax_KC_call {q : (Nat → Nat) × Value} {A : Nat → Prop} {U : State} {g : JFrame} {mk : MethodId} {a : Array Value} (h : ax_KC q A U U.heap) : ax_KC q A (U.calling g mk a) (U.calling g mk a).heap := by
  obtain ⟨h1, h2, h3, h4, h5, h6⟩ := h
  exact ⟨vk_S.moved (Vm.Alike.refl U.vm) h1, fun i hi => vk_R.same (u := U) rfl (h2 i hi), va_Z.moved (Vm.Alike.refl U.vm) h3, va_Z.moved (Vm.Alike.refl U.vm) h4, h5, fun j hj => ⟨va_Z.moved (Vm.Alike.refl U.vm) (h6 j hj).1, va_T.moved (Vm.Alike.refl U.vm) (h6 j hj).2⟩⟩
theorem ax_callQ {p : Program} {l : Launch} {e : Env} {R : Room} {s : State} {m : MethodId} {args : Array Value} {below : List Frame} {meth : Method} {c : Code} {H : Heap} {locs : List Loc} {Qf : State → Prop} {pc : Nat} {ls : Array Slot} {st0 rest : List Value} {sd : Nat × Nat} {rk : Nat} {q : (Nat → Nat) × Value} {tc : Nat → ClassId} {D : va_G} {A0 A1 : Nat → Prop} {Q' : AV → Mem → Prop} {a : Array Value} {free : Addr → Prop} {H0 : Heap} {cells slots : Nat}
    (hr : va_Run p l e R s m args below meth c H locs cells slots 0 0 (F0 m pc ls st0) rest (ax_QC sd rk q tc D A1 Q' a) free) (hS : va_S A0 H0 H locs) (hA : ∀ x, x < H.size → A1 x → A0 x) (hf : ∀ x, free x → A0 x)
    (kk : ∀ (r : AV) (μ' : Mem) (t : State) (H1 : Heap) (locs1 : List Loc), t.heap = H1 → s.vm.Alike t.vm → ax_okv r → ax_okm μ' → Q' r μ' → va_P D ax_cl (ax_wd sd q tc μ') H1 → va_K D ax_cl (ax_tys tc) t → va_D A1 (ax_wd sd q tc μ') → va_S A0 H0 H1 locs1 → H.size ≤ H1.size → (∀ x : Nat, x < H.size → ¬ A1 x → H1[x]? = H[x]?) → W p l e R s m args below meth c H1 locs1 cells slots Qf (F0 m (pc + 3) ls ((ax_rvo rk q r).toList ++ rest))) : W p l e R s m args below meth c H locs cells slots Qf (F0 m pc ls st0) := by
  intro T hT X
  obtain ⟨v, st₀, t, T', L, h0, X', hL, e1, e2, ⟨⟨r, μ', hv, ho, hm, hp, hP, hK, hD⟩, hz, hk⟩, st⟩ := hr T hT X
  have hv := Outcome.returned.inj hv
  subst hv
  rw [h0] at hz hk
  obtain ⟨t2, a1, b1⟩ := kk r μ' t T'.heap (locs ++ L) e1.symm (by rw [← e2]; exact X'.warmed.alike) ho hm hp (by rw [e1]; exact hP) hK hD
    ⟨Nat.le_trans hS.1 (by rw [e1]; exact hz), fun x h1 h2 => by rw [e1, hk x (Nat.lt_of_lt_of_le h1 hS.1) (fun w => h2 (hA x (Nat.lt_of_lt_of_le h1 hS.1) w))]; exact hS.2.1 x h1 h2, fun x hx => by
      rcases List.mem_append.mp hx with h | h
      · exact hS.2.2 x h
      · exact hf _ (hL x h)⟩ (by rw [e1]; exact hz) (fun x h1 h2 => by rw [e1]; exact hk x h1 h2) T' rfl X'
  exact ⟨t2, st t2 a1, b1⟩
def ax_push (b : Nat) (v : AV) (st : List AV) : List AV := match ax_rk b with
  | 0 => st
  | _ => v :: st
theorem ax_push_map {b : Nat} {v : AV} {st : List AV} {q : (Nat → Nat) × Value} : (ax_rvo (ax_rk b) q v).toList ++ st.map (ax_rv q) = (ax_push b v st).map (ax_rv q) := by
  unfold ax_push ax_rvo
  generalize ax_rk b = rr
  cases rr <;> rfl
theorem ax_push_ok {b : Nat} {v : AV} {st : List AV} (hv : ax_okv v) (h : ∀ w ∈ st, ax_okv w) : ∀ w ∈ ax_push b v st, ax_okv w := by
  unfold ax_push
  split
  · exact h
  · exact ax_cc hv h
theorem ax_catsum {q : (Nat → Nat) × Value} : ∀ {st : List AV}, (st.map fun v => (ax_rv q v).category).sum ≤ 2 * st.length
  | [] => by simp
  | v :: st => by
    have := ax_catsum (q := q) (st := st)
    have h2 : (ax_rv q v).category ≤ 2 := by rcases lv_cat (ax_rv q v) with h | h <;> omega
    simp only [List.map_cons, List.sum_cons, List.length_cons]
    omega
theorem ax_free {sd : Nat × Nat} {q : (Nat → Nat) × Value} {tc : Nat → ClassId} {μ : Mem} {A : Nat → Prop} {H0 H : Heap} {locs : List Loc} (hD : va_D A (ax_wd sd q tc μ)) (hS : va_S A H0 H locs) (hA : ∀ x : Nat, H0.size ≤ x → A x) : ∀ x, va_A (ax_wd sd q tc μ) H.size x → A x := by
  intro x h
  rcases h with ⟨j, e, h⟩ | h
  · exact hD.2 j _ h
  · exact hA x (Nat.le_trans hS.1 h)
theorem ax_callV {k i : Nat} {L : List AV} {μ : Mem} {Q : AV → Mem → Prop} {a b c : Nat} {z : Int} {t : List (Int × Nat)} {d' r : Nat} {as st' : List AV} {Q' : AV → Mem → Prop} (hop : ax_ok k i (56, a, b, c, z, t) = true)
    (hrc : (ax_inS k r = true ∧ ∃ ks : List Nat, ax_cd r = (0, ax_mciL.getD b 99, ks)) ∨ (ax_str r = true ∧ ax_mciL.getD b 99 = 50)) (hac : as.length = c) (hst0 : st'.length ≤ 4)
    (hG : GM d' b (xR r :: as) μ Q') (h : ∀ v μ', Q' v μ' → ax_SW (d' + 1) k (i + 1) L (ax_push b v st') μ' Q) : ax_SW (d' + 1) k i L (as.reverse ++ xR r :: st') μ Q := by
  intro l D tc q p e s m args below meth cd A H locs ls C hP hD hS hl hL hst hμ
  have C0 := C
  obtain ⟨hk, hx, hb, hr, hml, hown, hts, hlk, hK, hKC, hA⟩ := C
  simp only [ax_ok, Bool.and_eq_true, decide_eq_true_eq] at hop
  obtain ⟨⟨⟨⟨⟨⟨⟨hq, w1⟩, w2⟩, w3⟩, w4⟩, hpar⟩, hbK⟩, hsd⟩ := hop
  obtain ⟨hd, hpc⟩ := ax_bs_dq hq
  have hbK := ax_blt hbK
  have hr0 : r ≠ 150 := by
    rcases hrc with ⟨-, ks, hcd⟩ | ⟨hs, -⟩
    · intro e; rw [e, ax_cd_out (by decide)] at hcd; cases hcd
    · simp only [ax_str, Bool.and_eq_true] at hs
      have := ax_blt hs.2
      omega
  have hok : ∀ v ∈ xR r :: as, ax_okv v := ax_cc trivial (fun v hv => hst v (List.mem_append_left _ (List.mem_reverse.mpr hv)))
  have hst' : ∀ v ∈ st', ax_okv v := fun v hv => hst v (List.mem_append_right _ (List.mem_cons_of_mem _ hv))
  have hM := hG hok hμ l D tc q H.size
  rw [hsd] at hM
  have hFc := ax_free hD hS hA
  have hn := ax_okN hbK
  have hml' := hn.2.1
  have hrecv : ∃ cell : Cell, H[q.1 r]? = some cell ∧ cell.vm.isStatics = false ∧ s.vm.findClass (ax_y b).cls = some cell.cls := by
    rcases hrc with ⟨hin, ks, hcd⟩ | ⟨hs, h50⟩
    · obtain ⟨hr1, hr2⟩ := ax_inS_e hin
      obtain ⟨cq, hcq, hlen⟩ := ax_cd_cl r _ ks hcd
      have he := ax_wd_get (q := q) (tc := tc) (μ := μ) hr1 hr2
      rw [ax_cE0 hcd] at he
      have := va_recv hK hP hcq he
      rw [(ax_mci_ok b hbK).2 cq hcq] at this
      exact this
    · rw [(ax_mci_ok b hbK).1 h50]
      simp only [ax_str, Bool.and_eq_true] at hs
      have r1 := Nat.le_of_ble_eq_true hs.1
      have r2 := ax_blt hs.2
      have := vk_recv hKC.1 (show r - 100 < 17 by omega) hS
      simp only [show 100 + (r - 100) = r by omega] at this
      exact this
  have estk : (as.reverse ++ xR r :: st').map (ax_rv q) = (as.map (ax_rv q)).reverse ++ Value.ref (q.1 r) :: st'.map (ax_rv q) := by
    rw [List.map_append, List.map_cons, ax_rvR hr0, List.map_reverse]
  rw [estk]
  have eav : (xR r :: as).map (ax_rv q) = Value.ref (q.1 r) :: as.map (ax_rv q) := by rw [List.map_cons, ax_rvR hr0]
  rw [eav] at hM
  refine ax_callQ (va_runV (As := as.map (ax_rv q)) (rest := st'.map (ax_rv q)) ⟨hx, hb, hml, hown, hts⟩ hM (cwV c hts (ax_goodV hbK (ax_inM w1) (ax_inM w2) (ax_inM w3) (ax_inM w4)) rfl rfl rfl ⟨rfl, hn.2.2.2.1, hn.2.2.2.2, hpar⟩ ⟨Nat.le_refl _, by show 8 + (ax_ml b + 11) + 40 * d' ≤ 40 * (d' + 1); omega⟩) ⟨fun a U g mk w => by
      obtain ⟨q0, q1, qP, qK, qD, qC⟩ := w
      exact ⟨q0, q1, qP, va_K.moved (u := U) (U := U.calling g mk a) (Vm.Alike.refl U.vm) qK, qD, ax_KC_call qC⟩, hrecv, fun U hU hW => ⟨rfl, by rw [hU], by rw [hU]; exact hP, va_K.moved hW.alike hK, hD.weaken (fun _ _ _ _ => trivial), ax_KC_to hKC hS hFc hU hW⟩⟩ rfl (by rw [List.length_map]; exact hac) hl.1 rfl (lv_room (by
        have := ax_catsum (q := q) (st := st')
        rw [List.map_map]
        show (st'.map fun v => (ax_rv q v).category).sum ≤ 8
        omega)) hd ⟨Nat.le_refl _, Nat.le_refl _⟩) hS (fun x _ w => hFc x w) hFc (fun v μ' t H1 locs1 ht hvm hv hm hQ hP1 hK1 hD1 hS1 _ _ => ?_)
  have h9 := h v μ' hQ l D tc q p e s m args below meth cd A H1 locs1 ls C0 hP1 (hD1.weaken (fun _ w _ hw => hFc w.1 hw)) hS1 hl hL (ax_push_ok hv hst') hm
  rw [hpc] at h9
  rw [ax_push_map]
  exact h9
theorem ax_callS {k i : Nat} {L : List AV} {μ : Mem} {Q : AV → Mem → Prop} {a b c : Nat} {z : Int} {t : List (Int × Nat)} {d' : Nat} {as st' : List AV} {Q' : AV → Mem → Prop} (hop : ax_ok k i (57, a, b, c, z, t) = true) (hac : as.length = c) (hst0 : st'.length ≤ 4)
    (hG : GM d' b as μ Q') (h : ∀ v μ', Q' v μ' → ax_SW (d' + 1) k (i + 1) L (ax_push b v st') μ' Q) : ax_SW (d' + 1) k i L (as.reverse ++ st') μ Q := by
  intro l D tc q p e s m args below meth cd A H locs ls C hP hD hS hl hL hst hμ
  have C0 := C
  obtain ⟨hk, hx, hb, hr, hml, hown, hts, hlk, hK, hKC, hA⟩ := C
  simp only [ax_ok, Bool.and_eq_true, decide_eq_true_eq] at hop
  obtain ⟨⟨⟨⟨⟨⟨hq, w1⟩, w2⟩, w4⟩, hpar⟩, hbK⟩, hsd⟩ := hop
  obtain ⟨hd, hpc⟩ := ax_bs_dq hq
  have hbK := ax_blt hbK
  have hok : ∀ v ∈ as, ax_okv v := fun v hv => hst v (List.mem_append_left _ (List.mem_reverse.mpr hv))
  have hst' : ∀ v ∈ st', ax_okv v := fun v hv => hst v (List.mem_append_right _ hv)
  have hM := hG hok hμ l D tc q H.size
  rw [hsd] at hM
  have hFc := ax_free hD hS hA
  have hn := ax_okN hbK
  have hml' := hn.2.1
  have estk : (as.reverse ++ st').map (ax_rv q) = (as.map (ax_rv q)).reverse ++ st'.map (ax_rv q) := by
    rw [List.map_append, List.map_reverse]
  rw [estk]
  refine ax_callQ (va_runS (As := as.map (ax_rv q)) (rest := st'.map (ax_rv q)) ⟨hx, hb, hml, hown, hts⟩ hM (va_cwS c hts (ax_goodS hbK (ax_inM w1) (ax_inM w2) (ax_inM w4)) rfl rfl rfl ⟨hn.2.2.2.1, hn.2.2.2.2, hpar⟩ ⟨Nat.le_refl _, by show 8 + (ax_ml b + 11) + 40 * d' ≤ 40 * (d' + 1); omega⟩) ⟨fun a U g mk w => by
      obtain ⟨q0, q1, qP, qK, qD, qC⟩ := w
      exact ⟨q0, q1, qP, va_K.moved (u := U) (U := U.calling g mk a) (Vm.Alike.refl U.vm) qK, qD, ax_KC_call qC⟩, fun U hU hW => ⟨rfl, by rw [hU], by rw [hU]; exact hP, va_K.moved hW.alike hK, hD.weaken (fun _ _ _ _ => trivial), ax_KC_to hKC hS hFc hU hW⟩⟩ rfl (by rw [List.length_map]; exact hac) hl.1 rfl (lv_room (by
        have := ax_catsum (q := q) (st := st')
        rw [List.map_map]
        show (st'.map fun v => (ax_rv q v).category).sum ≤ 8
        omega)) hd ⟨Nat.le_refl _, Nat.le_refl _⟩) hS (fun x _ w => hFc x w) hFc (fun v μ' t H1 locs1 ht hvm hv hm hQ hP1 hK1 hD1 hS1 _ _ => ?_)
  have h9 := h v μ' hQ l D tc q p e s m args below meth cd A H1 locs1 ls C0 hP1 (hD1.weaken (fun _ w _ hw => hFc w.1 hw)) hS1 hl hL (ax_push_ok hv hst') hm
  rw [hpc] at h9
  rw [ax_push_map]
  exact h9
theorem ax_s61 {k i : Nat} {L st : List AV} {μ : Mem} {Q : AV → Mem → Prop} {a b c : Nat} {z : Int} {t : List (Int × Nat)} {d' : Nat} {x y : Int} (hop : ax_ok k i (61, a, b, c, z, t) = true) (hst0 : st.length ≤ 4) (h : ax_SW (d' + 1) k (i + 1) L (xI (max x y) :: st) μ Q) : ax_SW (d' + 1) k i L (xI y :: xI x :: st) μ Q := by
  intro l D tc q p e s m args below meth cd A H locs ls C hP hD hS hl hL hst hμ
  have C0 := C
  obtain ⟨hk, hx, hb, hr, hml, hown, hts, hlk, hK, hKC, hA⟩ := C
  simp only [ax_ok, Bool.and_eq_true] at hop
  obtain ⟨⟨⟨⟨hq, w1⟩, w2⟩, w3⟩, w4⟩ := hop
  obtain ⟨hd, hpc⟩ := ax_bs_dq hq
  have hy : ax_r32 y := (ax_c2 hst).1
  have hx1 : ax_r32 x := (ax_c2 (ax_c2 hst).2).1
  have hm : ax_r32 (max x y) := by unfold ax_r32 at *; omega
  have h9 := h l D tc q p e s m args below meth cd A H locs ls C0 hP hD hS hl hL (ax_cc hm (ax_c2 (ax_c2 hst).2).2) hμ
  rw [hpc] at h9
  refine va_mmax hx hb (by rw [hml]; exact hl.1.symm) hown (ax_wsm hts _ (ax_inM w1)) (ax_wsm hts _ (ax_inM w2)) (ax_wsm hts _ (ax_inM w3)) (ax_wsm hts _ (ax_inM w4)) (by show 1 ≤ d' + 1; omega) (by
    have := ax_catsum (q := q) (st := st)
    rw [List.map_map]
    show (st.map fun v => (ax_rv q v).category).sum + 13 ≤ 40 * (d' + 1)
    omega) (Nat.le_refl _) (Nat.le_refl _) hd ?_
  have ev : (if Int32.ofInt x < Int32.ofInt y then Int32.ofInt y else Int32.ofInt x) = Int32.ofInt (max x y) := by
    by_cases hc : x < y
    · rw [if_pos ((ax_ltI hx1 hy).mpr hc), show max x y = y by omega]
    · rw [if_neg (fun w => hc ((ax_ltI hx1 hy).mp w)), show max x y = x by omega]
  rw [ev]
  exact h9
theorem ax_s62 {k i : Nat} {L st : List AV} {μ : Mem} {Q : AV → Mem → Prop} {a b c : Nat} {z : Int} {t : List (Int × Nat)} {d' : Nat} {x y : Int} (hop : ax_ok k i (62, a, b, c, z, t) = true) (hst0 : st.length ≤ 4) (h : ax_SW (d' + 1) k (i + 1) L (xI (min x y) :: st) μ Q) : ax_SW (d' + 1) k i L (xI y :: xI x :: st) μ Q := by
  intro l D tc q p e s m args below meth cd A H locs ls C hP hD hS hl hL hst hμ
  have C0 := C
  obtain ⟨hk, hx, hb, hr, hml, hown, hts, hlk, hK, hKC, hA⟩ := C
  simp only [ax_ok, Bool.and_eq_true] at hop
  obtain ⟨⟨⟨⟨hq, w1⟩, w2⟩, w3⟩, w4⟩ := hop
  obtain ⟨hd, hpc⟩ := ax_bs_dq hq
  have hy : ax_r32 y := (ax_c2 hst).1
  have hx1 : ax_r32 x := (ax_c2 (ax_c2 hst).2).1
  have hm : ax_r32 (min x y) := by unfold ax_r32 at *; omega
  have h9 := h l D tc q p e s m args below meth cd A H locs ls C0 hP hD hS hl hL (ax_cc hm (ax_c2 (ax_c2 hst).2).2) hμ
  rw [hpc] at h9
  refine va_mmin hx hb (by rw [hml]; exact hl.1.symm) hown (ax_wsm hts _ (ax_inM w1)) (ax_wsm hts _ (ax_inM w2)) (ax_wsm hts _ (ax_inM w3)) (ax_wsm hts _ (ax_inM w4)) (by show 1 ≤ d' + 1; omega) (by
    have := ax_catsum (q := q) (st := st)
    rw [List.map_map]
    show (st.map fun v => (ax_rv q v).category).sum + 13 ≤ 40 * (d' + 1)
    omega) (Nat.le_refl _) (Nat.le_refl _) hd ?_
  have ev : (if Int32.ofInt y < Int32.ofInt x then Int32.ofInt y else Int32.ofInt x) = Int32.ofInt (min x y) := by
    by_cases hc : y < x
    · rw [if_pos ((ax_ltI hy hx1).mpr hc), show min x y = y by omega]
    · rw [if_neg (fun w => hc ((ax_ltI hy hx1).mp w)), show min x y = x by omega]
  rw [ev]
  exact h9
theorem ax_s58 {k i : Nat} {L : List AV} {μ : Mem} {Q : AV → Mem → Prop} {a b c : Nat} {z : Int} {t : List (Int × Nat)} {d' rs rd l0 l1 : Nat} {nn dp sp : Int} (hop : ax_ok k i (58, a, b, c, z, t) = true) (hrs : ax_arr 1 k rs = some l0) (hrd : ax_arr 1 k rd = some l1) (h1 : 0 ≤ sp) (h2 : 0 ≤ dp) (h3 : 0 ≤ nn) (h4 : sp + nn ≤ (l0 : Int)) (h5 : dp + nn ≤ (l1 : Int)) (h : ax_SW (d' + 1) k (i + 1) L [] (xcpy μ rs rd sp.toNat dp.toNat nn.toNat) Q) : ax_SW (d' + 1) k i L [xI nn, xI dp, xR rd, xI sp, xR rs] μ Q := by
  intro l D tc q p e s m args below meth cd A H locs ls C hP hD hS hl hL hst hμ
  have C0 := C
  obtain ⟨hk, hx, hb, hr, hml, hown, hts, hlk, hK, hKC, hA⟩ := C
  simp only [ax_ok, Bool.and_eq_true] at hop
  obtain ⟨⟨⟨⟨hq, w1⟩, w2⟩, w3⟩, w4⟩ := hop
  obtain ⟨hd, hpc⟩ := ax_bs_dq hq
  obtain ⟨hins, kss, hcs⟩ := ax_arr_e hrs
  obtain ⟨hind, ksd, hcd⟩ := ax_arr_e hrd
  obtain ⟨s1, s2⟩ := ax_inS_e hins
  obtain ⟨d1, d2⟩ := ax_inS_e hind
  have hn1 : ax_r32 nn := hst (xI nn) (by simp)
  have hdp1 : ax_r32 dp := hst (xI dp) (by simp)
  have hsp1 : ax_r32 sp := hst (xI sp) (by simp)
  have rs75 : rs < 75 := by
    rcases Nat.lt_or_ge rs 75 with w | w
    · exact w
    · rw [ax_cd_out w] at hcs; cases hcs
  have rd75 : rd < 75 := by
    rcases Nat.lt_or_ge rd 75 with w | w
    · exact w
    · rw [ax_cd_out w] at hcd; cases hcd
  have hμ' : ax_okm (xcpy μ rs rd sp.toNat dp.toNat nn.toNat) := by
    intro a b
    unfold xcpy
    by_cases e : a = rd ∧ dp.toNat ≤ b ∧ b < dp.toNat + nn.toNat
    · rw [if_pos e, e.1, ax_lk_arr hcd (by decide)]
      have := hμ rs (sp.toNat + (b - dp.toNat))
      rw [ax_lk_arr hcs (by decide)] at this
      exact this
    · rw [if_neg e]; exact hμ a b
  have estk : [xI nn, xI dp, xR rd, xI sp, xR rs].map (ax_rv q) = [.int (Int32.ofInt nn), .int (Int32.ofInt dp), .ref (q.1 rd), .int (Int32.ofInt sp), .ref (q.1 rs)] := by
    simp only [List.map_cons, List.map_nil, ax_rvR (show rd ≠ 150 by omega), ax_rvR (show rs ≠ 150 by omega)]
    rfl
  rw [estk]
  have hes := ax_wd_get (q := q) (tc := tc) (μ := μ) s1 s2
  rw [ax_cE1 hcs] at hes
  have hed := ax_wd_get (q := q) (tc := tc) (μ := μ) d1 d2
  rw [ax_cE1 hcd] at hed
  refine va_copyi hx hb (by rw [hml]; exact hl.1.symm) hown (ax_wsm hts _ (ax_inM w1)) (ax_wsm hts _ (ax_inM w2)) (ax_wsm hts _ (ax_inM w3)) (ax_wsm hts _ (ax_inM w4)) hK hP hD hS (rs - (ax_sd k).1) (rd - (ax_sd k).1) 0 0 hes hed (ty := .int) rfl rfl rfl
    (by rw [ax_i0, ax_ltI hsp1 ax_r0]; omega) (by rw [ax_i0, ax_ltI hdp1 ax_r0]; omega) (by rw [ax_i0, ax_ltI hn1 ax_r0]; omega) (by rw [ax_cl0 hsp1, ax_cl0 hn1]; omega) (by rw [ax_cl0 hdp1, ax_cl0 hn1]; omega) (fun _ _ => rfl) (by show 1 ≤ d' + 1; omega) (by
      show 0 + (7 + 11) ≤ 40 * (d' + 1)
      omega) hd (fun H1 locs1 hP1 hD1 hS1 => ?_)
  rw [ax_cl0 hsp1, ax_cl0 hdp1, ax_cl0 hn1] at hP1 hD1
  have ew := ax_wd_set (q := q) (tc := tc) (μ := μ) (μ' := xcpy μ rs rd sp.toNat dp.toNat nn.toNat) (e := .inl (tc 0, l1, .inl (va_cpy (fun j => Int32.ofInt (μ rs j)) (fun j => Int32.ofInt (μ rd j)) sp.toNat dp.toNat nn.toNat))) d1 d2 (by
    rw [ax_cE1 hcd]
    congr 3
    refine congrArg Sum.inl (funext fun j => ?_)
    unfold va_cpy xcpy
    by_cases e : dp.toNat ≤ j ∧ j < dp.toNat + nn.toNat
    · rw [if_pos e, if_pos ⟨rfl, e⟩]
    · rw [if_neg e, if_neg (fun w => e w.2)]) (fun i' hi' j' => by unfold xcpy; rw [if_neg (fun w => hi' w.1)])
  rw [← hpc]
  exact h l D tc q p e s m args below meth cd A H1 locs1 ls C0 (ew ▸ hP1) (ew ▸ hD1) hS1 hl hL (fun _ w => by cases w) hμ'
/-! a method's contract out of its entry -/
theorem ax_lgsl : ∀ {vs : List Value}, (∀ v ∈ vs, v.category = 1) → (lg_sl vs).length = vs.length ∧ ∀ (j i : Nat) (v : Value), vs[i]? = some v → (j + i, v) ∈ lv_args j vs
  | [], _ => ⟨rfl, fun j i v h => by simp at h⟩
  | w :: vs, h => by
    obtain ⟨h1, h2⟩ := ax_lgsl (vs := vs) (fun v hv => h v (List.mem_cons_of_mem _ hv))
    have hw := h w List.mem_cons_self
    refine ⟨?_, fun j i v hv => ?_⟩
    · have e : lg_sl (w :: vs) = [.val w] ++ lg_sl vs := by
        unfold lg_sl
        rw [List.flatMap_cons, if_neg (by rw [hw]; decide)]
      rw [e, List.length_append, h1]
      simp [Nat.add_comm]
    · show (j + i, v) ∈ (j, w) :: lv_args (if w.category = 2 then j + 2 else j + 1) vs
      rw [if_neg (by rw [hw]; decide)]
      cases i with
      | zero =>
        have e : w = v := Option.some.inj hv
        rw [e]
        exact List.mem_cons_self
      | succ i =>
        have := h2 (j + 1) i v hv
        rw [show j + 1 + i = j + (i + 1) by omega] at this
        exact List.mem_cons_of_mem _ this
theorem ax_gm {d k : Nat} {av : List AV} {μ : Mem} {Q : AV → Mem → Prop} (hk : k < ax_K) (hlen : av.length ≤ ax_ml k) (hnl : ∀ v ∈ av, ∀ z, v ≠ xL z) (h : ax_SW d k 0 (av ++ List.replicate (ax_ml k - av.length) (xL 0)) [] μ Q) : GM d k av μ Q := by
  intro hav hμ l D tc q sz
  have hN := ax_okN hk
  refine Met.ofW (cc := ax_bs k) (maxL := ax_ml k) (ret := ax_rt k) hN.2.2.1 rfl ?_
  intro p e s m args below meth c s₁ B hml hv
  obtain ⟨rfl, hsz, hP, hK, hD0, hKC⟩ := hv
  have hts := atoms_spec (ws := ax_ws k) B.pre
  subst hsz
  have hD := hD0.self (sz := s.heap.size)
  generalize hAe : va_A (ax_wd (ax_sd k) q tc μ) s.heap.size = A at hD hKC ⊢
  have hA : ∀ x : Nat, s.heap.size ≤ x → A x := fun x h => by rw [← hAe]; exact Or.inr h
  have hcat : ∀ v ∈ av.map (ax_rv q), v.category = 1 := fun v hv => by
    obtain ⟨w, hw, rfl⟩ := List.mem_map.mp hv
    exact ax_cat1 hKC.2.2.2.2.1 w (hnl w hw)
  obtain ⟨g1, g2⟩ := ax_lgsl hcat
  have hl := lv_entry (av.map (ax_rv q)) (n := ax_ml k) (by rw [g1, List.length_map]; exact hlen)
  rw [lg_entry_eq]
  generalize (lg_sl (av.map (ax_rv q)) ++ List.replicate (ax_ml k - (lg_sl (av.map (ax_rv q))).length) Slot.unset).toArray = ls at hl ⊢
  have hLH : ax_LH q ls (ax_ml k) (av ++ List.replicate (ax_ml k - av.length) (xL 0)) := by
    refine ⟨hl.1, by rw [List.length_append, List.length_replicate]; omega, hl.2.1, fun i v hv => ?_⟩
    by_cases hi : i < av.length
    · rw [List.getElem?_append_left hi] at hv
      have h3 := g2 0 i (ax_rv q v) (by rw [List.getElem?_map, hv]; rfl)
      rw [Nat.zero_add] at h3
      exact Or.inr (hl.2.2 _ h3)
    · rw [List.getElem?_append_right (by omega)] at hv
      exact Or.inl ⟨0, List.eq_of_mem_replicate (List.mem_of_getElem? hv)⟩
  have hLo : ∀ v ∈ av ++ List.replicate (ax_ml k - av.length) (xL 0), ax_okv v := fun v hv => by
    rcases List.mem_append.mp hv with h1 | h1
    · exact hav v h1
    · rw [List.eq_of_mem_replicate h1]; exact ⟨by decide, by decide⟩
  have h9 := h l D tc q p e s m _ below meth c A s.heap [] ls ⟨hk, B.exec, B.bytes, B.returns, hml, findClass_of_methodNamed B.named, hts, B.notSynchronized, hK, hKC, hA⟩ hP hD va_S.rf hLH hLo (fun _ w => by cases w) hμ
  rw [hN.1] at h9
  exact h9
end
section
/-! SOUNDNESS: what the weakest precondition says, the machine does -/
theorem ax_pu_ok {d k i : Nat} {L st L' st' : List AV} {μ : Mem} {Q : AV → Mem → Prop} {op : AOp} (ok : ax_ok k i op = true) (hp : ax_pu op L st = some (L', st')) (h : ax_SW d k (i + 1) L' st' μ Q) : ax_SW d k i L st μ Q := by
  obtain ⟨o, a, b, c, z, t⟩ := op
  match o, ok, hp with
  | 0, ok, hp => cases hp; exact ax_s0 ok h
  | 1, ok, hp => cases hp; exact ax_s1 ok h
  | 2, ok, hp => cases hp; exact ax_s2 ok h
  | 3, ok, hp =>
    simp only [ax_pu] at hp
    split at hp
    · next x hx => cases hp; exact ax_s3 ok hx h
    · cases hp
  | 4, ok, hp =>
    simp only [ax_pu] at hp
    split at hp
    · next r hx =>
      split at hp
      · cases hp
      · next hb => cases hp; exact ax_s4 ok hx (fun e => by rw [e] at hb; cases hb) h
    · cases hp
  | 5, ok, hp =>
    simp only [ax_pu] at hp
    split at hp
    · split at hp
      · next hb => cases hp; exact ax_s5 ok (ax_blt hb) h
      · cases hp
    · cases hp
  | 6, ok, hp =>
    simp only [ax_pu] at hp
    split at hp
    · split at hp
      · next hb =>
        cases hp
        simp only [Bool.and_eq_true, Bool.not_eq_true'] at hb
        exact ax_s6 ok (ax_blt hb.1) (fun e => by have := hb.2; rw [e] at this; cases this) h
      · cases hp
    · cases hp
  | 7, ok, hp =>
    simp only [ax_pu] at hp
    split at hp
    · next x hx => cases hp; exact ax_s7 ok hx h
    · cases hp
  | 8, ok, hp => simp only [ax_pu] at hp; split at hp <;> cases hp; exact ax_s8 ok h
  | 9, ok, hp => simp only [ax_pu] at hp; split at hp <;> cases hp; exact ax_s9 ok h
  | 10, ok, hp => simp only [ax_pu] at hp; split at hp <;> cases hp; exact ax_s10 ok h
  | 11, ok, hp => cases hp
  | 12, ok, hp => cases hp
  | 13, ok, hp => simp only [ax_pu] at hp; split at hp <;> cases hp; exact ax_s13 ok h
  | 14, ok, hp => simp only [ax_pu] at hp; split at hp <;> cases hp; exact ax_s14 ok h
  | 15, ok, hp => simp only [ax_pu] at hp; split at hp <;> cases hp; exact ax_s15 ok h
  | 16, ok, hp => simp only [ax_pu] at hp; split at hp <;> cases hp; exact ax_s16 ok h
  | 17, ok, hp => simp only [ax_pu] at hp; split at hp <;> cases hp; exact ax_s17 ok h
  | 18, ok, hp => simp only [ax_pu] at hp; split at hp <;> cases hp; exact ax_s18 ok h
  | 19, ok, hp => simp only [ax_pu] at hp; split at hp <;> cases hp; exact ax_s19 ok h
  | 20, ok, hp => simp only [ax_pu] at hp; split at hp <;> cases hp; exact ax_s20 ok h
  | 21, ok, hp => simp only [ax_pu] at hp; split at hp <;> cases hp; exact ax_s21 ok h
  | 22, ok, hp => simp only [ax_pu] at hp; split at hp <;> cases hp; exact ax_s22 ok h
  | 23, ok, hp => simp only [ax_pu] at hp; split at hp <;> cases hp; exact ax_s23 ok h
  | 24, ok, hp => simp only [ax_pu] at hp; split at hp <;> cases hp; exact ax_s24 ok h
  | 25, ok, hp => simp only [ax_pu] at hp; split at hp <;> cases hp; exact ax_s25 ok h
  | 26, ok, hp =>
    simp only [ax_pu] at hp
    split at hp
    · cases hp; exact ax_s26 (v := xI _) (fun z e => by cases e) ok h
    · cases hp; exact ax_s26 (v := xR _) (fun z e => by cases e) ok h
    · cases hp
  | 27, ok, hp =>
    simp only [ax_pu] at hp
    split at hp
    · cases hp; exact ax_s27 (v := xI _) (w := xR _) (fun z e => by cases e) (fun z e => by cases e) ok h
    · cases hp
  | 28, ok, hp =>
    simp only [ax_pu] at hp
    split at hp
    · cases hp; exact ax_s28 (v := xI _) (fun z e => by cases e) ok h
    · cases hp
  | o + 29, ok, hp => cases hp
theorem ax_drop {k i : Nat} {op : AOp} {R' : List AOp} (h : (ax_codes k).drop i = op :: R') : (ax_codes k)[i]? = some op ∧ (ax_codes k).drop (i + 1) = R' := by
  constructor
  · rw [← List.head?_drop, h]; rfl
  · rw [← List.tail_drop, h]; rfl
theorem ax_mlc {b : Nat} (hb : b < ax_K) {c : Nat} (h : (parseMethodDescriptor (ax_y b).desc).map (fun d => d.parameters.length) = some c) : c ≤ ax_ml b := by
  have key : ∀ b, b < ax_K → ∀ c ∈ (parseMethodDescriptor (ax_y b).desc).map (fun d => d.parameters.length), c ≤ ax_ml b := by decide +kernel
  exact key b hb c (by rw [h]; rfl)
/-- an instance method has room for itself and its parameters -/
theorem ax_mlv : ∀ b, b < ax_K → ∀ c ∈ (parseMethodDescriptor (ax_y b).desc).map (fun d => d.parameters.length), Cond.instanceMethod (ax_y b) ∈ ax_wsA → c + 1 ≤ ax_ml b := by
  have key : (List.range ax_K).all (fun b => match (parseMethodDescriptor (ax_y b).desc).map (fun d => d.parameters.length) with
    | some c => Nat.ble (c + 1) (ax_ml b) || !(decide (Cond.instanceMethod (ax_y b) ∈ ax_wsA))
    | none => true) = true := by decide +kernel
  intro b hb c hc hi
  have h := List.all_eq_true.mp key b (List.mem_range.mpr hb)
  rw [show (parseMethodDescriptor (ax_y b).desc).map (fun d => d.parameters.length) = some c from hc] at h
  simp only [Bool.or_eq_true, Bool.not_eq_true', decide_eq_false_iff_not] at h
  rcases h with h | h
  · exact Nat.le_of_ble_eq_true h
  · exact absurd hi h
theorem ax_sw_mono {t : List (Int × Nat)} {x : Int} {F G : Nat → Prop} {dd : Nat} (hm : ∀ g, F g → G g) (h : ax_sw t x F dd) : ax_sw t x G dd := by
  induction t with
  | nil => exact hm _ h
  | cons kg t ih =>
    obtain ⟨key, g⟩ := kg
    unfold ax_sw at h ⊢
    by_cases e : x = key
    · rw [if_pos e] at h ⊢; exact hm _ h
    · rw [if_neg e] at h ⊢; exact ih h
theorem ax_ne150 {tg r n : Nat} {ks : List Nat} (h : ax_cd r = (tg, n, ks)) (ht : tg ≠ 9) : r ≠ 150 := by
  intro e
  rw [e, ax_cd_out (by decide)] at h
  cases h
  exact ht rfl
theorem ax_inS_row {k i : Nat} (h : ax_inS k 41 = true) (hi : i < 7) : ax_inS k (41 + 1 + i) = true := by
  obtain ⟨h1, h2⟩ := ax_inS_e h
  unfold ax_inS
  rw [Bool.and_eq_true]
  constructor
  · exact Nat.ble_eq_true_of_le (by omega)
  · rw [Nat.blt_eq]
    have : (ax_sd k).1 + (ax_sd k).2 = 61 ∨ (ax_sd k).1 = 61 := by
      unfold ax_sd
      split
      · exact Or.inl rfl
      · exact Or.inr rfl
    omega
theorem ax_rowld {d k i a b c : Nat} {L st : List AV} {μ : Mem} {Q : AV → Mem → Prop} {z x : Int} {t : List (Int × Nat)} {w : Nat × Int} {nm : Nat × Nat} (hop : ax_ok k i (47, a, b, c, z, t) = true) (hr : ax_row k w.1 = some nm) (h0 : 0 ≤ x) (h1 : x < (nm.2 : Int)) (h : ax_SW d k (i + 1) L (xI (μ (w.1 + 1 + w.2.toNat) x.toNat) :: st) μ Q) : ax_SW d k i L (xI x :: .inr (.inr (.inl w)) :: st) μ Q := by
  intro l D tc q p e s m args below meth cd A H locs ls C hP hD hS hl hL hst hμ
  obtain ⟨hin, hcd⟩ := ax_row_e hr
  obtain ⟨n, m2, hcd2, hw0, hw1⟩ := (ax_c2 (ax_c2 hst).2).1
  obtain ⟨e1, e2, e3⟩ := ax_rows4 _ _ _ hcd2
  rw [hcd2] at hcd
  cases hcd
  have hi : w.2.toNat < 7 := by omega
  have hcd' : ax_cd (w.1 + 1 + w.2.toNat) = (1, nm.2, []) := by rw [e1, ax_cd4 _ hi]; simp [e3]
  refine ax_s47 (v := .inr (.inr (.inl w))) hop (r := w.1 + 1 + w.2.toNat) ?_ hcd' (fun q => rfl) h0 h1 h l D tc q p e s m args below meth cd A H locs ls C hP hD hS hl hL hst hμ
  rw [e1] at hin ⊢
  exact ax_inS_row hin hi
theorem ax_rowst {d k i a b c : Nat} {L st : List AV} {μ : Mem} {Q : AV → Mem → Prop} {z x y : Int} {t : List (Int × Nat)} {w : Nat × Int} {nm : Nat × Nat} (hop : ax_ok k i (48, a, b, c, z, t) = true) (hr : ax_row k w.1 = some nm) (h0 : 0 ≤ x) (h1 : x < (nm.2 : Int)) (h : ax_SW d k (i + 1) L st (xset μ (w.1 + 1 + w.2.toNat) x.toNat y) Q) : ax_SW d k i L (xI y :: xI x :: .inr (.inr (.inl w)) :: st) μ Q := by
  intro l D tc q p e s m args below meth cd A H locs ls C hP hD hS hl hL hst hμ
  obtain ⟨hin, hcd⟩ := ax_row_e hr
  obtain ⟨n, m2, hcd2, hw0, hw1⟩ := (ax_c2 (ax_c2 (ax_c2 hst).2).2).1
  obtain ⟨e1, e2, e3⟩ := ax_rows4 _ _ _ hcd2
  rw [hcd2] at hcd
  cases hcd
  have hi : w.2.toNat < 7 := by omega
  have hcd' : ax_cd (w.1 + 1 + w.2.toNat) = (1, nm.2, []) := by rw [e1, ax_cd4 _ hi]; simp [e3]
  refine ax_s48 (v := .inr (.inr (.inl w))) hop (r := w.1 + 1 + w.2.toNat) ?_ hcd' (fun q => rfl) h0 h1 h l D tc q p e s m args below meth cd A H locs ls C hP hD hS hl hL hst hμ
  rw [e1] at hin ⊢
  exact ax_inS_row hin hi
theorem ax_nc {y : Int} (h0 : 0 ≤ y) (h1 : y < 65536) : narrow .char (.int (Int32.ofInt y)) = .int (Int32.ofInt y) := by
  obtain ⟨n, rfl⟩ : ∃ n : Nat, y = (n : Int) := ⟨y.toNat, by omega⟩
  have := (pk_charN (q := n) (by omega)).1
  rw [Int32.ofInt_eq_ofNat]
  exact this
theorem ax_nby {y : Int} (h0 : 0 ≤ y) (h1 : y < 128) : narrow .byte (.int (Int32.ofInt y)) = .int (Int32.ofInt y) := by
  show Value.int (Int32.ofInt y).toInt8.toInt32 = _
  congr 1
  apply Int32.toInt_inj.mp
  rw [Int8.toInt_toInt32, Int32.toInt8_ofInt, ax_ti ⟨by omega, by omega⟩]
  exact Int8.toInt_ofInt_of_le (by omega) (by omega)
end
section
theorem ax_nlE {l : List AV} (h : l.all ax_nl = true) : ∀ v ∈ l.reverse, ∀ z, v ≠ xL z := by
  intro v hv z e
  have := List.all_eq_true.mp h v (List.mem_reverse.mp hv)
  rw [e] at this
  cases this
theorem ax_pu0 {b : Nat} {v : AV} {st : List AV} (h : ax_rk b = 0) : ax_push b v st = st := by simp only [ax_push, h]
theorem ax_pu1 {b : Nat} {v : AV} {st : List AV} (h : ¬ ax_rk b = 0) : ax_push b v st = v :: st := by
  unfold ax_push
  generalize ax_rk b = r at h
  cases r with
  | zero => exact absurd rfl h
  | succ r => rfl
theorem ax_gIe {b : Nat} {st : List AV} {F : Int → Mem → Prop} {P : List AV → Mem → Prop} (hb : ¬ ax_rk b = 0) (h : ∀ x μ', F x μ' → P (xI x :: st) μ') : ∀ v μ', gI F v μ' → P (ax_push b v st) μ' := by
  intro v μ' hv
  rw [ax_pu1 hb]
  match v, hv with
  | .inl x, hv => exact h x μ' hv
theorem ax_gRe {b : Nat} {st : List AV} {F : Nat → Mem → Prop} {P : List AV → Mem → Prop} (hb : ¬ ax_rk b = 0) (h : ∀ x μ', F x μ' → P (xR x :: st) μ') : ∀ v μ', gR F v μ' → P (ax_push b v st) μ' := by
  intro v μ' hv
  rw [ax_pu1 hb]
  match v, hv with
  | .inr (.inl x), hv => exact h x μ' hv
theorem ax_gVe {b : Nat} {st : List AV} {F : Mem → Prop} {P : List AV → Mem → Prop} (hb : ax_rk b = 0) (h : ∀ μ', F μ' → P st μ') : ∀ v μ', gV F v μ' → P (ax_push b v st) μ' := by
  intro v μ' hv
  rw [ax_pu0 hb]
  exact h μ' hv
set_option maxHeartbeats 4000000 in
theorem ax_sound : ∀ (n d k : Nat), k < ax_K → ∀ (R : List AOp) (i : Nat) (L st : List AV) (μ : Mem) (Q : AV → Mem → Prop), (ax_codes k).drop i = R → ax_wp n d k (ax_codes k) R L st μ Q → ax_SW d k i L st μ Q := by
  intro n
  induction n with
  | zero => intro d k hk R i L st μ Q hR h; exact h.elim
  | succ n ih =>
    intro d k hk R i L st μ Q hR h
    cases R with
    | nil => exact h.elim
    | cons op R' =>
      obtain ⟨hop, hR'⟩ := ax_drop hR
      have ok := ax_okAt hk hop
      have nx : ∀ (d : Nat) (L st : List AV) (μ : Mem), ax_wp n d k (ax_codes k) R' L st μ Q → ax_SW d k (i + 1) L st μ Q := fun d L st μ h => ih d k hk R' (i + 1) L st μ Q hR' h
      have jp : ∀ (a : Nat) (L st : List AV) (μ : Mem), ax_wp n d k (ax_codes k) ((ax_codes k).drop a) L st μ Q → ax_SW d k a L st μ Q := fun a L st μ h => ih d k hk _ a L st μ Q rfl h
      clear hR hop
      obtain ⟨o, a, b, c, z, t⟩ := op
      have pure9 : (match ax_pu (o, a, b, c, z, t) L st with
          | some p => ax_wp n d k (ax_codes k) R' p.1 p.2 μ Q
          | none => False) → ax_SW d k i L st μ Q := by
        intro h
        split at h
        · next p hp => exact ax_pu_ok (L' := p.1) (st' := p.2) ok hp (nx d _ _ _ h)
        · exact h.elim
      match o, ok, h, pure9 with
      | 0, ok, h, pure9 => exact pure9 h
      | 1, ok, h, pure9 => exact pure9 h
      | 2, ok, h, pure9 => exact pure9 h
      | 3, ok, h, pure9 => exact pure9 h
      | 4, ok, h, pure9 => exact pure9 h
      | 5, ok, h, pure9 => exact pure9 h
      | 6, ok, h, pure9 => exact pure9 h
      | 7, ok, h, pure9 => exact pure9 h
      | 8, ok, h, pure9 => exact pure9 h
      | 9, ok, h, pure9 => exact pure9 h
      | 10, ok, h, pure9 => exact pure9 h
      | 11, ok, h, _ =>
        simp only [ax_wp] at h
        split at h
        · obtain ⟨h1, h2⟩ := wz_e h; exact ax_s11 ok h1 (nx _ _ _ _ h2)
        · exact h.elim
      | 12, ok, h, _ =>
        simp only [ax_wp] at h
        split at h
        · obtain ⟨h1, h2⟩ := wz_e h; exact ax_s12 ok h1 (nx _ _ _ _ h2)
        · exact h.elim
      | 13, ok, h, pure9 => exact pure9 h
      | 14, ok, h, pure9 => exact pure9 h
      | 15, ok, h, pure9 => exact pure9 h
      | 16, ok, h, pure9 => exact pure9 h
      | 17, ok, h, pure9 => exact pure9 h
      | 18, ok, h, pure9 => exact pure9 h
      | 19, ok, h, pure9 => exact pure9 h
      | 20, ok, h, pure9 => exact pure9 h
      | 21, ok, h, pure9 => exact pure9 h
      | 22, ok, h, pure9 => exact pure9 h
      | 23, ok, h, pure9 => exact pure9 h
      | 24, ok, h, pure9 => exact pure9 h
      | 25, ok, h, pure9 => exact pure9 h
      | 26, ok, h, pure9 => exact pure9 h
      | 27, ok, h, pure9 => exact pure9 h
      | 28, ok, h, pure9 => exact pure9 h
      | 29, ok, h, _ =>
        simp only [ax_wp] at h
        split at h
        · exact ax_s29 ok (fun c => jp _ _ _ _ (by rw [if_pos c] at h; exact h)) (fun c => nx _ _ _ _ (by rw [if_neg c] at h; exact h))
        · exact h.elim
      | 30, ok, h, _ =>
        simp only [ax_wp] at h
        split at h
        · exact ax_s30 ok (fun c => jp _ _ _ _ (by rw [if_neg c] at h; exact h)) (fun c => nx _ _ _ _ (by rw [if_pos c] at h; exact h))
        · exact h.elim
      | 31, ok, h, _ =>
        simp only [ax_wp] at h
        split at h
        · exact ax_s31 ok (fun c => jp _ _ _ _ (by rw [if_pos c] at h; exact h)) (fun c => nx _ _ _ _ (by rw [if_neg c] at h; exact h))
        · exact h.elim
      | 32, ok, h, _ =>
        simp only [ax_wp] at h
        split at h
        · exact ax_s32 ok (fun c => jp _ _ _ _ (by rw [if_neg c] at h; exact h)) (fun c => nx _ _ _ _ (by rw [if_pos c] at h; exact h))
        · exact h.elim
      | 33, ok, h, _ =>
        simp only [ax_wp] at h
        split at h
        · exact ax_s33 ok (fun c => jp _ _ _ _ (by rw [if_pos c] at h; exact h)) (fun c => nx _ _ _ _ (by rw [if_neg c] at h; exact h))
        · exact h.elim
      | 34, ok, h, _ =>
        simp only [ax_wp] at h
        split at h
        · exact ax_s34 ok (fun c => jp _ _ _ _ (by rw [if_neg c] at h; exact h)) (fun c => nx _ _ _ _ (by rw [if_pos c] at h; exact h))
        · exact h.elim
      | 35, ok, h, _ =>
        simp only [ax_wp] at h
        split at h
        · exact ax_s35 ok (fun c => jp _ _ _ _ (by rw [if_pos c] at h; exact h)) (fun c => nx _ _ _ _ (by rw [if_neg c] at h; exact h))
        · exact h.elim
      | 36, ok, h, _ =>
        simp only [ax_wp] at h
        split at h
        · exact ax_s36 ok (fun c => jp _ _ _ _ (by rw [if_neg c] at h; exact h)) (fun c => nx _ _ _ _ (by rw [if_pos c] at h; exact h))
        · exact h.elim
      | 37, ok, h, _ =>
        simp only [ax_wp] at h
        split at h
        · exact ax_s37 ok (fun c => jp _ _ _ _ (by rw [if_pos c] at h; exact h)) (fun c => nx _ _ _ _ (by rw [if_neg c] at h; exact h))
        · exact h.elim
      | 38, ok, h, _ =>
        simp only [ax_wp] at h
        split at h
        · exact ax_s38 ok (fun c => jp _ _ _ _ (by rw [if_neg c] at h; exact h)) (fun c => nx _ _ _ _ (by rw [if_pos c] at h; exact h))
        · exact h.elim
      | 39, ok, h, _ =>
        simp only [ax_wp] at h
        split at h
        · exact ax_s39 ok (fun c => jp _ _ _ _ (by rw [if_pos c] at h; exact h)) (fun c => nx _ _ _ _ (by rw [if_neg c] at h; exact h))
        · exact h.elim
      | 40, ok, h, _ =>
        simp only [ax_wp] at h
        split at h
        · exact ax_s40 ok (fun c => jp _ _ _ _ (by rw [if_neg c] at h; exact h)) (fun c => nx _ _ _ _ (by rw [if_pos c] at h; exact h))
        · exact h.elim
      | 41, ok, h, _ => exact ax_s41 ok (jp _ _ _ _ h)
      | 42, ok, h, _ =>
        simp only [ax_wp] at h
        split at h
        · exact ax_s42 ok (ax_sw_mono (fun g hg => jp g _ _ _ hg) h)
        · exact h.elim
      | 43, ok, h, _ =>
        simp only [ax_wp] at h
        split at h
        · exact ax_s43 ok (ax_sw_mono (fun g hg => jp g _ _ _ hg) h)
        · exact h.elim
      | 44, ok, h, _ =>
        simp only [ax_wp] at h
        split at h
        · next r st' =>
          split at h
          · next hf => exact ax_s44 ok hf (nx _ _ _ _ h)
          · next hf => exact ax_s44 ok hf (nx _ _ _ _ h)
          · next g hf => exact ax_s44 ok hf (nx _ _ _ _ h)
          · split at h
            · next hs =>
              simp only [Bool.and_eq_true] at hs
              have hb := Nat.eq_of_beq_eq_true hs.2
              subst hb
              split at h
              · exact ax_s44v ok hs.1 (nx _ _ _ _ h)
              · exact ax_s44c ok hs.1 (nx _ _ _ _ h)
              · exact h.elim
            · exact h.elim
        · exact h.elim
      | 45, ok, h, _ =>
        simp only [ax_wp] at h
        split at h
        · split at h
          · next hf => exact ax_s45 ok hf (nx _ _ _ _ h)
          · exact h.elim
        · split at h
          · next hf => exact ax_s45l ok hf (nx _ _ _ _ h)
          · exact h.elim
        · exact h.elim
      | 46, ok, h, _ =>
        simp only [ax_wp] at h
        match b, ok, h with
        | 0, ok, h => exact ax_s46a ok (nx _ _ _ _ h)
        | 1, ok, h => exact ax_s46b ok (nx _ _ _ _ h)
        | g + 2, ok, h => exact ax_s46c ok (nx _ _ _ _ h)
      | 47, ok, h, _ =>
        simp only [ax_wp] at h
        split at h
        · next x r st' =>
          split at h
          · next len ha =>
            obtain ⟨hin, ks, hcd⟩ := ax_arr_e ha
            obtain ⟨⟨h0, h1⟩, h2⟩ := wb_e h
            exact ax_s47 ok hin hcd (fun q => ax_rvR (ax_ne150 hcd (by decide))) h0 h1 (nx _ _ _ _ h2)
          · split at h
            · next l hc =>
              obtain ⟨⟨h0, h1⟩, h2⟩ := wb_e h
              exact ax_s47c ok hc h0 h1 (nx _ _ _ _ h2)
            · exact h.elim
        · next x w st' =>
          split at h
          · next nm hr =>
            obtain ⟨⟨h0, h1⟩, h2⟩ := wb_e h
            exact ax_rowld ok hr h0 h1 (nx _ _ _ _ h2)
          · exact h.elim
        · exact h.elim
      | 48, ok, h, _ =>
        simp only [ax_wp] at h
        split at h
        · next y x r st' =>
          split at h
          · next len ha =>
            obtain ⟨hin, ks, hcd⟩ := ax_arr_e ha
            obtain ⟨⟨h0, h1⟩, h2⟩ := wb_e h
            exact ax_s48 ok hin hcd (fun q => ax_rvR (ax_ne150 hcd (by decide))) h0 h1 (nx _ _ _ _ h2)
          · exact h.elim
        · next y x w st' =>
          split at h
          · next nm hr =>
            obtain ⟨⟨h0, h1⟩, h2⟩ := wb_e h
            exact ax_rowst ok hr h0 h1 (nx _ _ _ _ h2)
          · exact h.elim
        · exact h.elim
      | 49, ok, h, _ =>
        simp only [ax_wp] at h
        split at h
        · next x r st' =>
          split at h
          · next len ha =>
            obtain ⟨hin, ks, hcd⟩ := ax_arr_e ha
            obtain ⟨⟨h0, h1⟩, h2⟩ := wb_e h
            exact ax_s49 ok hin hcd h0 h1 (nx _ _ _ _ h2)
          · split at h
            · next l hc =>
              obtain ⟨⟨h0, h1⟩, h2⟩ := wb_e h
              exact ax_s49c ok hc h0 h1 (nx _ _ _ _ h2)
            · exact h.elim
        · exact h.elim
      | 50, ok, h, _ =>
        simp only [ax_wp] at h
        split at h
        · split at h
          · next len ha =>
            obtain ⟨hin, ks, hcd⟩ := ax_arr_e ha
            obtain ⟨⟨h0, h1⟩, h2⟩ := wb_e h
            obtain ⟨⟨y0, y1⟩, h3⟩ := wb_e h2
            exact ax_s50 ok hin hcd h0 h1 y0 y1 (nx _ _ _ _ h3)
          · exact h.elim
        · exact h.elim
      | 51, ok, h, _ =>
        simp only [ax_wp] at h
        split at h
        · next x r st' =>
          split at h
          · next ks hc =>
            obtain ⟨j, g, hj, hx, h2⟩ := ax_sel_e h
            exact ax_s51 ok hc hj (by rw [hx]; omega) (nx _ _ _ _ h2)
          · split at h
            · next nm hr =>
              obtain ⟨⟨h0, h1⟩, h2⟩ := wb_e h
              exact ax_s51w ok hr h0 h1 (nx _ _ _ _ h2)
            · exact h.elim
        · exact h.elim
      | 52, ok, h, _ =>
        simp only [ax_wp] at h
        split at h
        · split at h
          · next hc => exact ax_s52 ok hc (nx _ _ _ _ h)
          · split at h
            · next hc => exact ax_s52c ok hc (nx _ _ _ _ h)
            · split at h
              · next hc => exact ax_s52b ok hc (nx _ _ _ _ h)
              · exact h.elim
        · exact h.elim
      | 53, ok, h, _ =>
        simp only [ax_wp] at h
        split at h
        · next x =>
          split at h
          · next hr => exact ax_s53 (ty := .int) ok (fun hk => (ax_rtk k hk).2.1 hr) (by rw [hr]; decide) (fun _ => rfl) h
          · next hr =>
            obtain ⟨⟨h0, h1⟩, h2⟩ := wb_e h
            exact ax_s53 (ty := .boolean) ok (fun hk => (ax_rtk k hk).2.2.1 hr) (by rw [hr]; decide) (fun _ => (ax_nb h0 h1).2) h2
          · next hr =>
            obtain ⟨⟨h0, h1⟩, h2⟩ := wb_e h
            exact ax_s53 (ty := .char) ok (fun hk => (ax_rtk k hk).2.2.2.2.1 hr) (by rw [hr]; decide) (fun _ => ax_nc h0 h1) h2
          · next hr =>
            obtain ⟨⟨h0, h1⟩, h2⟩ := wb_e h
            exact ax_s53 (ty := .byte) ok (fun hk => (ax_rtk k hk).2.2.2.2.2 hr) (by rw [hr]; decide) (fun _ => ax_nby h0 h1) h2
          · exact h.elim
        · exact h.elim
      | 54, ok, h, _ =>
        simp only [ax_wp] at h
        split at h
        · split at h
          · next hr => exact ax_s54 ok hr h
          · exact h.elim
        · exact h.elim
      | 55, ok, h, _ =>
        simp only [ax_wp] at h
        split at h
        · split at h
          · next hr =>
            split at h
            · exact h.elim
            · next hb => exact ax_s55 ok hr (fun e => by rw [e] at hb; cases hb) h
          · exact h.elim
        · exact h.elim
      | 56, ok, h, _ =>
        cases d with
        | zero => exact h.elim
        | succ d' =>
          simp only [ax_wp] at h
          split at h
          · next r st' hst =>
            split at h
            · next hrc =>
              split at h
              · next hlen =>
                simp only [Bool.and_eq_true] at hlen
                have hlc := Nat.eq_of_beq_eq_true hlen.1
                have hst2 : st = ((st.take c).reverse).reverse ++ xR r :: st' := by rw [List.reverse_reverse, ← hst, List.take_append_drop]
                have hac : (st.take c).reverse.length = c := by rw [List.length_reverse]; exact hlc
                have hrc' : (ax_inS k r = true ∧ ∃ ks : List Nat, ax_cd r = (0, ax_mciL.getD b 99, ks)) ∨ (ax_str r = true ∧ ax_mciL.getD b 99 = 50) := by
                  simp only [Bool.or_eq_true, Bool.and_eq_true] at hrc
                  rcases hrc with ⟨⟨h1, h2⟩, h3⟩ | ⟨h1, h2⟩
                  · refine Or.inl ⟨h1, (ax_cd r).2.2, ?_⟩
                    rw [← Nat.eq_of_beq_eq_true h3, ← Nat.eq_of_beq_eq_true h2]
                  · exact Or.inr ⟨h1, Nat.eq_of_beq_eq_true h2⟩
                have ok2 := ok
                simp only [ax_ok, Bool.and_eq_true, decide_eq_true_eq] at ok2
                obtain ⟨⟨⟨⟨⟨⟨⟨hq, w1⟩, w2⟩, w3⟩, w4⟩, hpar⟩, hbK⟩, hsd⟩ := ok2
                rw [hst2]
                split at h
                · split at h
                  · next hr => exact ax_callV ok hrc' hac (Nat.le_of_ble_eq_true hlen.2) h (ax_gVe (P := fun S μ' => ax_SW (d' + 1) k (i + 1) L S μ' Q) hr (fun μ' hq => nx _ _ _ _ hq))
                  · next hr => exact ax_callV ok hrc' hac (Nat.le_of_ble_eq_true hlen.2) h (ax_gRe (P := fun S μ' => ax_SW (d' + 1) k (i + 1) L S μ' Q) (by rw [hr]; decide) (fun x μ' hq => nx _ _ _ _ hq))
                  · next hr _ => exact ax_callV ok hrc' hac (Nat.le_of_ble_eq_true hlen.2) h (ax_gIe (P := fun S μ' => ax_SW (d' + 1) k (i + 1) L S μ' Q) (fun e => hr e) (fun x μ' hq => nx _ _ _ _ hq))
                · split at h
                  · next hnl =>
                    split at h
                    · next hr => exact ax_callV ok hrc' hac (Nat.le_of_ble_eq_true hlen.2) (ax_gm (ax_blt hbK) (by rw [List.length_cons, hac]; exact ax_mlv b (ax_blt hbK) c hpar (ax_inM w2)) (ax_cc (fun z e => by cases e) (ax_nlE hnl)) (ih d' b (ax_blt hbK) _ 0 _ _ _ _ rfl (by rw [List.length_cons, hac]; exact h))) (ax_gVe (P := fun S μ' => ax_SW (d' + 1) k (i + 1) L S μ' Q) hr (fun μ' hq => nx _ _ _ _ hq))
                    · next hr => exact ax_callV ok hrc' hac (Nat.le_of_ble_eq_true hlen.2) (ax_gm (ax_blt hbK) (by rw [List.length_cons, hac]; exact ax_mlv b (ax_blt hbK) c hpar (ax_inM w2)) (ax_cc (fun z e => by cases e) (ax_nlE hnl)) (ih d' b (ax_blt hbK) _ 0 _ _ _ _ rfl (by rw [List.length_cons, hac]; exact h))) (ax_gRe (P := fun S μ' => ax_SW (d' + 1) k (i + 1) L S μ' Q) (by rw [hr]; decide) (fun x μ' hq => nx _ _ _ _ hq))
                    · next hr _ => exact ax_callV ok hrc' hac (Nat.le_of_ble_eq_true hlen.2) (ax_gm (ax_blt hbK) (by rw [List.length_cons, hac]; exact ax_mlv b (ax_blt hbK) c hpar (ax_inM w2)) (ax_cc (fun z e => by cases e) (ax_nlE hnl)) (ih d' b (ax_blt hbK) _ 0 _ _ _ _ rfl (by rw [List.length_cons, hac]; exact h))) (ax_gIe (P := fun S μ' => ax_SW (d' + 1) k (i + 1) L S μ' Q) (fun e => hr e) (fun x μ' hq => nx _ _ _ _ hq))
                  · exact h.elim
              · exact h.elim
            · exact h.elim
          · exact h.elim
      | 57, ok, h, _ =>
        cases d with
        | zero => exact h.elim
        | succ d' =>
          simp only [ax_wp] at h
          split at h
          · next hlen =>
            simp only [Bool.and_eq_true] at hlen
            have hlc := Nat.eq_of_beq_eq_true hlen.1
            have hst2 : st = ((st.take c).reverse).reverse ++ st.drop c := by rw [List.reverse_reverse, List.take_append_drop]
            have hac : (st.take c).reverse.length = c := by rw [List.length_reverse]; exact hlc
            have ok2 := ok
            simp only [ax_ok, Bool.and_eq_true, decide_eq_true_eq] at ok2
            obtain ⟨⟨⟨⟨⟨⟨hq, w1⟩, w2⟩, w4⟩, hpar⟩, hbK⟩, hsd⟩ := ok2
            rw [hst2]
            split at h
            · split at h
              · next hr => exact ax_callS ok hac (Nat.le_of_ble_eq_true hlen.2) h (ax_gVe (P := fun S μ' => ax_SW (d' + 1) k (i + 1) L S μ' Q) hr (fun μ' hq => nx _ _ _ _ hq))
              · next hr => exact ax_callS ok hac (Nat.le_of_ble_eq_true hlen.2) h (ax_gRe (P := fun S μ' => ax_SW (d' + 1) k (i + 1) L S μ' Q) (by rw [hr]; decide) (fun x μ' hq => nx _ _ _ _ hq))
              · next hr _ => exact ax_callS ok hac (Nat.le_of_ble_eq_true hlen.2) h (ax_gIe (P := fun S μ' => ax_SW (d' + 1) k (i + 1) L S μ' Q) (fun e => hr e) (fun x μ' hq => nx _ _ _ _ hq))
            · split at h
              · next hnl =>
                split at h
                · next hr => exact ax_callS ok hac (Nat.le_of_ble_eq_true hlen.2) (ax_gm (ax_blt hbK) (by rw [hac]; exact ax_mlc (ax_blt hbK) hpar) (ax_nlE hnl) (ih d' b (ax_blt hbK) _ 0 _ _ _ _ rfl (by rw [hac]; exact h))) (ax_gVe (P := fun S μ' => ax_SW (d' + 1) k (i + 1) L S μ' Q) hr (fun μ' hq => nx _ _ _ _ hq))
                · next hr => exact ax_callS ok hac (Nat.le_of_ble_eq_true hlen.2) (ax_gm (ax_blt hbK) (by rw [hac]; exact ax_mlc (ax_blt hbK) hpar) (ax_nlE hnl) (ih d' b (ax_blt hbK) _ 0 _ _ _ _ rfl (by rw [hac]; exact h))) (ax_gRe (P := fun S μ' => ax_SW (d' + 1) k (i + 1) L S μ' Q) (by rw [hr]; decide) (fun x μ' hq => nx _ _ _ _ hq))
                · next hr _ => exact ax_callS ok hac (Nat.le_of_ble_eq_true hlen.2) (ax_gm (ax_blt hbK) (by rw [hac]; exact ax_mlc (ax_blt hbK) hpar) (ax_nlE hnl) (ih d' b (ax_blt hbK) _ 0 _ _ _ _ rfl (by rw [hac]; exact h))) (ax_gIe (P := fun S μ' => ax_SW (d' + 1) k (i + 1) L S μ' Q) (fun e => hr e) (fun x μ' hq => nx _ _ _ _ hq))
              · exact h.elim
          · exact h.elim
      | 58, ok, h, _ =>
        cases d with
        | zero => exact h.elim
        | succ d' =>
          simp only [ax_wp] at h
          split at h
          · split at h
            · next l0 hrs =>
              split at h
              · next l1 hrd =>
                obtain ⟨⟨a0, a1⟩, h⟩ := wb_e h
                obtain ⟨⟨b0, b1⟩, h⟩ := wb_e h
                obtain ⟨⟨c0, c1⟩, h⟩ := wb_e h
                obtain ⟨⟨d0, d1⟩, h⟩ := wb_e h
                obtain ⟨⟨e0, e1⟩, h⟩ := wb_e h
                exact ax_s58 ok hrs hrd a0 b0 c0 (by omega) (by omega) (nx _ _ _ _ h)
              · exact h.elim
            · exact h.elim
          · exact h.elim
      | 59, ok, h, _ =>
        simp only [ax_wp] at h
        split at h
        · have ha : a = i := by
            simp only [ax_ok, Bool.and_eq_true] at ok
            exact Nat.eq_of_beq_eq_true ok.2
          rw [ha] at h
          exact ax_s59 ok h
        · exact h.elim
      | 60, ok, h, pure9 => exact pure9 h
      | 61, ok, h, _ =>
        cases d with
        | zero => exact h.elim
        | succ d' =>
          simp only [ax_wp] at h
          split at h
          · split at h
            · next hb => exact ax_s61 ok (Nat.le_of_ble_eq_true hb) (nx _ _ _ _ h)
            · exact h.elim
          · exact h.elim
      | 62, ok, h, _ =>
        cases d with
        | zero => exact h.elim
        | succ d' =>
          simp only [ax_wp] at h
          split at h
          · split at h
            · next hb => exact ax_s62 ok (Nat.le_of_ble_eq_true hb) (nx _ _ _ _ h)
            · exact h.elim
          · exact h.elim
      | o + 63, ok, h, pure9 => exact pure9 h
/-- from a cut on -/
theorem DW_wp {n d k a : Nat} {L : List AV} {μ : Mem} {Q : AV → Mem → Prop} (hk : k < ax_K) (h : ax_wp n d k (ax_codes k) ((ax_codes k).drop (a + 1)) L [] μ Q) : DW d k a L μ Q := ax_sound n d k hk _ (a + 1) L [] μ Q rfl h
/-- a method from its entry on -/
theorem GM_wp {n d k : Nat} {av : List AV} {μ : Mem} {Q : AV → Mem → Prop} (hk : k < ax_K) (hlen : av.length ≤ ax_ml k) (hnl : av.all ax_nl = true) (h : ax_wp n d k (ax_codes k) (ax_codes k) (av ++ List.replicate (ax_ml k - av.length) (xL 0)) [] μ Q) : GM d k av μ Q :=
  ax_gm hk hlen (fun v hv z e => by have := List.all_eq_true.mp hnl v hv; rw [e] at this; cases this) (ax_sound n d k hk _ 0 _ [] μ Q rfl h)
end
section
/-! numbers for the specifications -/
theorem iw_id {x : Int} (h1 : -2147483648 ≤ x) (h2 : x < 2147483648) : iw x = x := by rw [iw_def]; omega
theorem sp_and (a b : Nat) : nI a &&& nI b = nI (a &&& b) := by
  apply Int32.toBitVec_inj.1
  show BitVec.ofNat 32 a &&& BitVec.ofNat 32 b = BitVec.ofNat 32 (a &&& b)
  apply BitVec.eq_of_getLsbD_eq
  intro i hi
  simp [hi]
theorem sp_or (a b : Nat) : nI a ||| nI b = nI (a ||| b) := by
  apply Int32.toBitVec_inj.1
  show BitVec.ofNat 32 a ||| BitVec.ofNat 32 b = BitVec.ofNat 32 (a ||| b)
  apply BitVec.eq_of_getLsbD_eq
  intro i hi
  simp [hi]
theorem sp_xor (a b : Nat) : nI a ^^^ nI b = nI (a ^^^ b) := by
  apply Int32.toBitVec_inj.1
  show BitVec.ofNat 32 a ^^^ BitVec.ofNat 32 b = BitVec.ofNat 32 (a ^^^ b)
  apply BitVec.eq_of_getLsbD_eq
  intro i hi
  simp [hi]
theorem sp_nI (a : Nat) : Int32.ofInt (a : Int) = nI a := Int32.ofInt_eq_ofNat
theorem xand_nat {a b : Nat} (ha : a < 2147483648) : xand (a : Int) (b : Int) = ((a &&& b : Nat) : Int) := by
  unfold xand
  rw [sp_nI, sp_nI, sp_and]
  exact nI_toInt (Nat.lt_of_le_of_lt Nat.and_le_left ha)
theorem xior_nat {a b : Nat} (ha : a < 2147483648) (hb : b < 2147483648) : xior (a : Int) (b : Int) = ((a ||| b : Nat) : Int) := by
  unfold xior
  rw [sp_nI, sp_nI, sp_or]
  exact nI_toInt (Nat.or_lt_two_pow ha hb)
theorem xxor_nat {a b : Nat} (ha : a < 2147483648) (hb : b < 2147483648) : xxor (a : Int) (b : Int) = ((a ^^^ b : Nat) : Int) := by
  unfold xxor
  rw [sp_nI, sp_nI, sp_xor]
  exact nI_toInt (Nat.xor_lt_two_pow ha hb)
theorem sp_sl : ∀ n, n < 32 → ((nI n &&& 31).toBitVec.smod 32).toNat = n := by decide +kernel
theorem xshl_nat {a j : Nat} (hj : j < 32) (h : a * 2 ^ j < 2147483648) : xshl (a : Int) (j : Int) = ((a * 2 ^ j : Nat) : Int) := by
  unfold xshl
  rw [sp_nI, sp_nI, pk_shlN _ j (sp_sl j hj) (by omega)]
  exact nI_toInt h
theorem xshr_nat {a j : Nat} (ha : a < 2147483648) (hj : j < 32) : xshr (a : Int) (j : Int) = ((a / 2 ^ j : Nat) : Int) := by
  unfold xshr
  rw [sp_nI, sp_nI, pk_shrN ha _ j (sp_sl j hj)]
  exact nI_toInt (Nat.lt_of_le_of_lt (Nat.div_le_self _ _) ha)
theorem sp_bit {a j : Nat} (ha : a < 2147483648) (hj : j < 32) : xand (xshr (a : Int) (j : Int)) 1 = if a.testBit j then 1 else 0 := by
  rw [xshr_nat ha hj]
  have h := xand_nat (a := a / 2 ^ j) (b := 1) (Nat.lt_of_le_of_lt (Nat.div_le_self _ _) ha)
  rw [show ((1 : Nat) : Int) = 1 from rfl] at h
  rw [h, Nat.and_one_is_mod, Nat.testBit_eq_decide_div_mod_eq]
  by_cases c : a / 2 ^ j % 2 = 1
  · simp [c]
  · have : a / 2 ^ j % 2 = 0 := by omega
    simp [this]
theorem sp_one {j : Nat} (hj : j < 31) : xshl 1 (j : Int) = ((2 ^ j : Nat) : Int) := by
  have hp : (2 : Nat) ^ j < 2147483648 := Nat.pow_lt_pow_right (by decide) hj
  have h := xshl_nat (a := 1) (j := j) (by omega) (by omega)
  rw [Nat.one_mul] at h
  exact h
/-! memory -/
theorem xs_s {μ : Mem} {c j : Nat} {v : Int} : xset μ c j v c j = v := ax_xset_s
theorem xs_c {μ : Mem} {c j c' j' : Nat} {v : Int} (h : c' ≠ c) : xset μ c j v c' j' = μ c' j' := ax_xset_o c' h j'
theorem xs_j {μ : Mem} {c j c' j' : Nat} {v : Int} (h : j' ≠ j) : xset μ c j v c' j' = μ c' j' := by unfold xset; rw [if_neg (fun w => h w.2)]
theorem xs_if {μ : Mem} {c j c' j' : Nat} {v : Int} : xset μ c j v c' j' = if c' = c ∧ j' = j then v else μ c' j' := rfl
/-! loops -/
theorem lp_up {σ : Type} (Wf : Nat → σ → Prop) (I : Nat → σ → Prop) (T : Nat) (hs : ∀ i s, i < T → I i s → (∀ s', I (i + 1) s' → Wf (i + 1) s') → Wf i s) (hx : ∀ s, I T s → Wf T s) : ∀ n i s, i + n = T → I i s → Wf i s := by
  intro n
  induction n with
  | zero => intro i s h hi; rw [show i = T by omega] at hi ⊢; exact hx s hi
  | succ n ih => intro i s h hi; exact hs i s (by omega) hi (fun s' hs' => ih (i + 1) s' (by omega) hs')
theorem iw_nat {n : Nat} (h : n < 2147483647) : iw ((n : Int) + 1) = ((n + 1 : Nat) : Int) := by rw [iw_def]; omega
end
section
set_option maxRecDepth 20000 in
theorem ge_M_write {d : Nat} {p1 : Int} {μ : Mem} {Q : AV → Mem → Prop} (h : if p1 < 0 then (Q (xI (-3)) μ) else (if 255 < p1 then (Q (xI (-3)) μ) else (if μ 61 6 = 160 then (Q (xI (-5)) μ) else (wb (μ 61 6) 160 (Q (xI (iw ((μ 61 6) + 1))) (xset (xset μ 65 ((μ 61 6).toNat) p1) 61 6 (iw ((μ 61 6) + 1)))))))) : GM (d + 1) 126 [xR 61, xI p1] μ Q :=
  GM_wp (n := 400) (Nat.le_of_ble_eq_true rfl) (Nat.le_of_ble_eq_true rfl) rfl h
set_option maxRecDepth 20000 in
theorem ge_M_erase {d : Nat} {μ : Mem} {Q : AV → Mem → Prop} (h : Q (xI (μ 61 6)) (xset μ 61 6 0)) : GM d 128 [xR 61] μ Q :=
  GM_wp (n := 400) (Nat.le_of_ble_eq_true rfl) (Nat.le_of_ble_eq_true rfl) rfl h
set_option maxRecDepth 20000 in
theorem ge_M_fault {d : Nat} {μ : Mem} {Q : AV → Mem → Prop} (h : GM (d + 5) 130 [xR 61] μ (gI (fun r2 m1 => if r2 = 0 then (Q (xI (m1 61 13)) m1) else (Q (xI (-1)) m1)))) : GM (d + 6) 129 [xR 61] μ Q :=
  GM_wp (n := 400) (Nat.le_of_ble_eq_true rfl) (Nat.le_of_ble_eq_true rfl) rfl h
set_option maxRecDepth 20000 in
theorem ge_M_isRead {d : Nat} {μ : Mem} {Q : AV → Mem → Prop} (h : DW (d + 5) 130 20 [xR 61, xI 1] (xset (xset (xset (xset (xset μ 61 8 0) 61 14 0) 61 15 (μ 61 0)) 61 16 (μ 61 2)) 61 17 (μ 61 4)) Q) : GM (d + 5) 130 [xR 61] μ Q :=
  GM_wp (n := 400) (Nat.le_of_ble_eq_true rfl) (Nat.le_of_ble_eq_true rfl) rfl h
set_option maxRecDepth 20000 in
theorem sg_M_isRead_20 {d : Nat} {l1 : Int} {μ : Mem} {Q : AV → Mem → Prop} (h : if l1 = 0 then (DW (d + 5) 130 54 [xR 61, xI l1] μ Q) else (GM (d + 4) 131 [xR 61, xI (iw (5 * (μ 61 14)))] μ (gI (fun r2 m1 => if r2 = 0 then (Q (xI 0) m1) else (GM (d + 4) 132 [xR 61] (xset m1 61 14 (iw ((m1 61 14) + 1))) (gV (fun m3 => if xcmp (m3 61 10) (-3) = 0 then (if m3 61 14 < 14 then (DW (d + 5) 130 20 [xR 61, xI 1] m3 Q) else (DW (d + 5) 130 20 [xR 61, xI 0] m3 Q)) else (DW (d + 5) 130 20 [xR 61, xI 0] m3 Q)))))))) : DW (d + 5) 130 20 [xR 61, xI l1] μ Q :=
  DW_wp (n := 400) (Nat.le_of_ble_eq_true rfl) h
set_option maxRecDepth 20000 in
theorem sg_M_isRead_54 {d : Nat} {v1 : AV} {μ : Mem} {Q : AV → Mem → Prop} (h : if xcmp (μ 61 10) (-2) = 0 then (Q (xI 1) μ) else (Q (xI 0) (xset μ 61 13 (μ 61 9)))) : DW (d + 5) 130 54 [xR 61, v1] μ Q :=
  DW_wp (n := 400) (Nat.le_of_ble_eq_true rfl) h
set_option maxRecDepth 20000 in
theorem ge_M_isLine {d : Nat} {p1 : Int} {μ : Mem} {Q : AV → Mem → Prop} (h : GM (d + 3) 132 [xR 61] μ (gV (fun m1 => if xcmp (m1 61 10) 4137608 = 0 then (DW (d + 4) 131 46 [xR 61, xI p1, xI 0, xL 0] m1 Q) else (if xcmp (m1 61 10) 8935714008 = 0 then (DW (d + 4) 131 46 [xR 61, xI p1, xI 1, xL 0] m1 Q) else (if xcmp (m1 61 10) 175122720 = 0 then (DW (d + 4) 131 46 [xR 61, xI p1, xI 2, xL 0] m1 Q) else (if xcmp (m1 61 10) 168932 = 0 then (DW (d + 4) 131 46 [xR 61, xI p1, xI 3, xL 0] m1 Q) else (if xcmp (m1 61 10) 94377 = 0 then (DW (d + 4) 131 46 [xR 61, xI p1, xI 4, xL 0] m1 Q) else (if xcmp (m1 61 10) 407354 = 0 then (DW (d + 4) 131 46 [xR 61, xI p1, xI 5, xL 0] m1 Q) else (DW (d + 4) 131 46 [xR 61, xI p1, xI (-1), xL 0] m1 Q))))))))) : GM (d + 4) 131 [xR 61, xI p1] μ Q :=
  GM_wp (n := 400) (Nat.le_of_ble_eq_true rfl) (Nat.le_of_ble_eq_true rfl) rfl h
set_option maxRecDepth 20000 in
theorem sg_M_isLine_46 {d : Nat} {l1 l2 : Int} {v3 : AV} {μ : Mem} {Q : AV → Mem → Prop} (h : if xcmp (μ 61 10) 86710561 = 0 then (DW (d + 4) 131 84 [xR 61, xI l1, xI l2, xI 6] μ Q) else (if xcmp (μ 61 10) 7215046 = 0 then (DW (d + 4) 131 84 [xR 61, xI l1, xI l2, xI 7] μ Q) else (if xcmp (μ 61 10) 6953 = 0 then (DW (d + 4) 131 84 [xR 61, xI l1, xI l2, xI 8] μ Q) else (if xcmp (μ 61 10) 7622660 = 0 then (DW (d + 4) 131 84 [xR 61, xI l1, xI l2, xI 9] μ Q) else (if xcmp (μ 61 10) 8815221 = 0 then (DW (d + 4) 131 84 [xR 61, xI l1, xI l2, xI 10] μ Q) else (DW (d + 4) 131 84 [xR 61, xI l1, xI l2, xI (-1)] μ Q)))))) : DW (d + 4) 131 46 [xR 61, xI l1, xI l2, v3] μ Q :=
  DW_wp (n := 400) (Nat.le_of_ble_eq_true rfl) h
set_option maxRecDepth 20000 in
theorem sg_M_isLine_84 {d : Nat} {l1 l2 l3 : Int} {μ : Mem} {Q : AV → Mem → Prop} (h : if l2 = (-1) then (wb l1 70 (DW (d + 4) 131 95 [xR 61, xI l1, xI l2, xI l3] (xset μ 66 l1.toNat l3) Q)) else (wb l1 70 (DW (d + 4) 131 95 [xR 61, xI l1, xI l2, xI l3] (xset μ 66 l1.toNat l2) Q))) : DW (d + 4) 131 84 [xR 61, xI l1, xI l2, xI l3] μ Q :=
  DW_wp (n := 400) (Nat.le_of_ble_eq_true rfl) h
set_option maxRecDepth 20000 in
theorem sg_M_isLine_95 {d : Nat} {l1 : Int} {v2 v3 : AV} {μ : Mem} {Q : AV → Mem → Prop} (h : wb l1 70 (if μ 66 l1.toNat = 0 then (GM (d + 3) 133 [xR 61] μ (gI (fun r22 m21 => wb r22 2 (Q (xI r22) m21)))) else (if μ 66 l1.toNat = 1 then (GM (d + 3) 133 [xR 61] μ (gI (fun r20 m19 => wb r20 2 (Q (xI r20) m19)))) else (if μ 66 l1.toNat = 2 then (GM (d + 3) 133 [xR 61] μ (gI (fun r18 m17 => wb r18 2 (Q (xI r18) m17)))) else (if μ 66 l1.toNat = 3 then (GM (d + 3) 133 [xR 61] μ (gI (fun r16 m15 => wb r16 2 (Q (xI r16) m15)))) else (if μ 66 l1.toNat = 4 then (GM (d + 3) 135 [xR 61, xI l1] μ (gI (fun r14 m13 => wb r14 2 (Q (xI r14) m13)))) else (if μ 66 l1.toNat = 5 then (GM (d + 3) 135 [xR 61, xI l1] μ (gI (fun r12 m11 => wb r12 2 (Q (xI r12) m11)))) else (if μ 66 l1.toNat = 6 then (GM (d + 3) 135 [xR 61, xI l1] μ (gI (fun r10 m9 => wb r10 2 (Q (xI r10) m9)))) else (if μ 66 l1.toNat = 7 then (GM (d + 3) 135 [xR 61, xI l1] μ (gI (fun r8 m7 => wb r8 2 (Q (xI r8) m7)))) else (if μ 66 l1.toNat = 8 then (Q (xI 1) (xset (xset (xset μ 61 15 0) 61 16 0) 61 17 0)) else (if μ 66 l1.toNat = 9 then (GM (d + 3) 137 [xR 61, xI l1] μ (gI (fun r6 m5 => wb r6 2 (Q (xI r6) m5)))) else (if μ 66 l1.toNat = 10 then (GM (d + 3) 136 [xR 61, xI (iw (l1 + 1)), xI (iw ((μ 61 16) - 1))] μ (gI (fun r2 m1 => if r2 = 0 then (Q (xI 0) m1) else (GM (d + 3) 136 [xR 61, xI (iw (l1 + 2)), xI 9] m1 (gI (fun r4 m3 => if r4 = 0 then (Q (xI 0) m3) else (Q (xI 1) m3))))))) else (Q (xI 0) (xset μ 61 13 (μ 61 9))))))))))))))) : DW (d + 4) 131 95 [xR 61, xI l1, v2, v3] μ Q :=
  DW_wp (n := 400) (Nat.le_of_ble_eq_true rfl) h
set_option maxRecDepth 20000 in
theorem ge_M_nextToken {d : Nat} {μ : Mem} {Q : AV → Mem → Prop} (h : DW (d + 1) 132 0 [xR 61] μ Q) : GM (d + 1) 132 [xR 61] μ Q :=
  GM_wp (n := 400) (Nat.le_of_ble_eq_true rfl) (Nat.le_of_ble_eq_true rfl) rfl h
set_option maxRecDepth 20000 in
theorem sg_M_nextToken_0 {d : Nat} {μ : Mem} {Q : AV → Mem → Prop} (h : if μ 61 8 < μ 61 6 then (wb (μ 61 8) 160 (if μ 65 (μ 61 8).toNat = 32 then (DW (d + 1) 132 0 [xR 61] (xset μ 61 8 (iw ((μ 61 8) + 1))) Q) else (DW (d + 1) 132 20 [xR 61] μ Q))) else (DW (d + 1) 132 20 [xR 61] μ Q)) : DW (d + 1) 132 0 [xR 61] μ Q :=
  DW_wp (n := 400) (Nat.le_of_ble_eq_true rfl) h
set_option maxRecDepth 20000 in
theorem sg_M_nextToken_20 {d : Nat} {μ : Mem} {Q : AV → Mem → Prop} (h : if μ 61 8 = μ 61 6 then (Q (xI 0) (xset (xset (xset (xset μ 61 9 (μ 61 8)) 61 11 0) 61 12 0) 61 10 (-2))) else (wb (μ 61 8) 160 (if μ 65 (μ 61 8).toNat < 97 then (wb (μ 61 8) 160 (if μ 65 (μ 61 8).toNat < 48 then (wb (μ 61 8) 160 (if μ 65 (μ 61 8).toNat = 59 then (Q (xI 0) (xset (xset (xset (xset (xset μ 61 9 (μ 61 8)) 61 11 0) 61 12 0) 61 10 (-3)) 61 8 (iw ((μ 61 8) + 1)))) else (Q (xI 0) (xset (xset (xset (xset (xset μ 61 9 (μ 61 8)) 61 11 0) 61 12 0) 61 10 (-4)) 61 8 (iw ((μ 61 8) + 1)))))) else (if 57 < μ 65 (μ 61 8).toNat then (wb (μ 61 8) 160 (if μ 65 (μ 61 8).toNat = 59 then (Q (xI 0) (xset (xset (xset (xset (xset μ 61 9 (μ 61 8)) 61 11 0) 61 12 0) 61 10 (-3)) 61 8 (iw ((μ 61 8) + 1)))) else (Q (xI 0) (xset (xset (xset (xset (xset μ 61 9 (μ 61 8)) 61 11 0) 61 12 0) 61 10 (-4)) 61 8 (iw ((μ 61 8) + 1)))))) else (DW (d + 1) 132 122 [xR 61] (xset (xset (xset μ 61 9 (μ 61 8)) 61 11 0) 61 12 0) Q)))) else (if 122 < μ 65 (μ 61 8).toNat then (wb (μ 61 8) 160 (if μ 65 (μ 61 8).toNat < 48 then (wb (μ 61 8) 160 (if μ 65 (μ 61 8).toNat = 59 then (Q (xI 0) (xset (xset (xset (xset (xset μ 61 9 (μ 61 8)) 61 11 0) 61 12 0) 61 10 (-3)) 61 8 (iw ((μ 61 8) + 1)))) else (Q (xI 0) (xset (xset (xset (xset (xset μ 61 9 (μ 61 8)) 61 11 0) 61 12 0) 61 10 (-4)) 61 8 (iw ((μ 61 8) + 1)))))) else (if 57 < μ 65 (μ 61 8).toNat then (wb (μ 61 8) 160 (if μ 65 (μ 61 8).toNat = 59 then (Q (xI 0) (xset (xset (xset (xset (xset μ 61 9 (μ 61 8)) 61 11 0) 61 12 0) 61 10 (-3)) 61 8 (iw ((μ 61 8) + 1)))) else (Q (xI 0) (xset (xset (xset (xset (xset μ 61 9 (μ 61 8)) 61 11 0) 61 12 0) 61 10 (-4)) 61 8 (iw ((μ 61 8) + 1)))))) else (DW (d + 1) 132 122 [xR 61] (xset (xset (xset μ 61 9 (μ 61 8)) 61 11 0) 61 12 0) Q)))) else (DW (d + 1) 132 52 [xR 61] (xset (xset (xset (xset μ 61 9 (μ 61 8)) 61 11 0) 61 12 0) 61 10 0) Q))))) : DW (d + 1) 132 20 [xR 61] μ Q :=
  DW_wp (n := 400) (Nat.le_of_ble_eq_true rfl) h
set_option maxRecDepth 20000 in
theorem sg_M_nextToken_52 {d : Nat} {μ : Mem} {Q : AV → Mem → Prop} (h : if μ 61 8 < μ 61 6 then (wb (μ 61 8) 160 (if μ 65 (μ 61 8).toNat < 97 then (DW (d + 1) 132 98 [xR 61] μ Q) else (if 122 < μ 65 (μ 61 8).toNat then (DW (d + 1) 132 98 [xR 61] μ Q) else (if iw ((μ 61 8) - (μ 61 9)) < 9 then (wb (μ 61 8) 160 (DW (d + 1) 132 52 [xR 61] (xset (xset μ 61 10 (lw ((lw ((lw (27 * (μ 61 10))) + (μ 65 (μ 61 8).toNat))) - 96))) 61 8 (iw ((μ 61 8) + 1))) Q)) else (DW (d + 1) 132 52 [xR 61] (xset (xset μ 61 10 (-4)) 61 8 (iw ((μ 61 8) + 1))) Q))))) else (DW (d + 1) 132 98 [xR 61] μ Q)) : DW (d + 1) 132 52 [xR 61] μ Q :=
  DW_wp (n := 400) (Nat.le_of_ble_eq_true rfl) h
set_option maxRecDepth 20000 in
theorem sg_M_nextToken_98 {d : Nat} {μ : Mem} {Q : AV → Mem → Prop} (h : if 9 < iw ((μ 61 8) - (μ 61 9)) then (Q (xI 0) (xset μ 61 10 (-4))) else (Q (xI 0) (xset μ 61 10 (μ 61 10)))) : DW (d + 1) 132 98 [xR 61] μ Q :=
  DW_wp (n := 400) (Nat.le_of_ble_eq_true rfl) h
set_option maxRecDepth 20000 in
theorem sg_M_nextToken_122 {d : Nat} {μ : Mem} {Q : AV → Mem → Prop} (h : if μ 61 8 < μ 61 6 then (wb (μ 61 8) 160 (if μ 65 (μ 61 8).toNat < 48 then (DW (d + 1) 132 171 [xR 61] μ Q) else (if 57 < μ 65 (μ 61 8).toNat then (DW (d + 1) 132 171 [xR 61] μ Q) else (if μ 61 11 < 2 then (wb (μ 61 8) 160 (DW (d + 1) 132 122 [xR 61] (xset (xset (xset μ 61 12 (iw ((iw ((iw (10 * (μ 61 12))) + (μ 65 (μ 61 8).toNat))) - 48))) 61 11 (iw ((μ 61 11) + 1))) 61 8 (iw ((μ 61 8) + 1))) Q)) else (DW (d + 1) 132 122 [xR 61] (xset (xset (xset μ 61 12 (μ 61 12)) 61 11 (iw ((μ 61 11) + 1))) 61 8 (iw ((μ 61 8) + 1))) Q))))) else (DW (d + 1) 132 171 [xR 61] μ Q)) : DW (d + 1) 132 122 [xR 61] μ Q :=
  DW_wp (n := 400) (Nat.le_of_ble_eq_true rfl) h
set_option maxRecDepth 20000 in
theorem sg_M_nextToken_171 {d : Nat} {μ : Mem} {Q : AV → Mem → Prop} (h : if 2 < μ 61 11 then (Q (xI 0) (xset μ 61 10 (-4))) else (Q (xI 0) (xset μ 61 10 (-1)))) : DW (d + 1) 132 171 [xR 61] μ Q :=
  DW_wp (n := 400) (Nat.le_of_ble_eq_true rfl) h
set_option maxRecDepth 20000 in
theorem ge_M_isPersonLine {d : Nat} {μ : Mem} {Q : AV → Mem → Prop} (h : if μ 61 15 = 5 then (Q (xI 0) (xset μ 61 13 (μ 61 9))) else (Q (xI 1) (xset μ 61 15 (iw ((μ 61 15) + 1))))) : GM (d + 1) 133 [xR 61] μ Q :=
  GM_wp (n := 400) (Nat.le_of_ble_eq_true rfl) (Nat.le_of_ble_eq_true rfl) rfl h
set_option maxRecDepth 20000 in
theorem ge_M_isThingLine {d : Nat} {p1 : Int} {μ : Mem} {Q : AV → Mem → Prop} (h : if μ 61 16 = 6 then (Q (xI 0) (xset μ 61 13 (μ 61 9))) else (wb p1 70 (wb (iw (p1 + 3)) 70 (wb (iw (p1 + 4)) 70 (GM (d + 2) 136 [xR 61, xI (iw (p1 + 1)), xI 2] (xset (xset (xset μ 61 16 (iw ((μ 61 16) + 1))) 66 ((iw (p1 + 3)).toNat) 0) 66 ((iw (p1 + 4)).toNat) 0) (gI (fun r2 m1 => if r2 = 0 then (Q (xI 0) m1) else (GM (d + 2) 136 [xR 61, xI (iw (p1 + 2)), xI (iw ((m1 61 15) - 1))] m1 (gI (fun r4 m3 => if r4 = 0 then (Q (xI 0) m3) else (if iw ((μ 66 p1.toNat) - 4) = 0 then (Q (xI 1) m3) else (GM (d + 2) 136 [xR 61, xI (iw (p1 + 3)), xI 3] m3 (gI (fun r6 m5 => if r6 = 0 then (Q (xI 0) m5) else (if iw ((μ 66 p1.toNat) - 4) = 2 then (GM (d + 2) 136 [xR 61, xI (iw (p1 + 4)), xI 9] m5 (gI (fun r8 m7 => if r8 = 0 then (Q (xI 0) m7) else (Q (xI 1) m7)))) else (Q (xI 1) m5)))))))))))))))) : GM (d + 3) 135 [xR 61, xI p1] μ Q :=
  GM_wp (n := 400) (Nat.le_of_ble_eq_true rfl) (Nat.le_of_ble_eq_true rfl) rfl h
set_option maxRecDepth 20000 in
theorem ge_M_isNumber {d : Nat} {p1 p2 : Int} {μ : Mem} {Q : AV → Mem → Prop} (h : GM (d + 1) 132 [xR 61] μ (gV (fun m1 => if xcmp (m1 61 10) (-1) = 0 then (if p2 < m1 61 12 then (Q (xI 0) (xset m1 61 13 (m1 61 9))) else (wb p1 70 (Q (xI 1) (xset m1 66 p1.toNat (m1 61 12))))) else (Q (xI 0) (xset m1 61 13 (m1 61 9)))))) : GM (d + 2) 136 [xR 61, xI p1, xI p2] μ Q :=
  GM_wp (n := 400) (Nat.le_of_ble_eq_true rfl) (Nat.le_of_ble_eq_true rfl) rfl h
set_option maxRecDepth 20000 in
theorem ge_M_isNightLine {d : Nat} {p1 : Int} {μ : Mem} {Q : AV → Mem → Prop} (h : if μ 61 17 = 6 then (Q (xI 0) (xset μ 61 13 (μ 61 9))) else (GM (d + 2) 136 [xR 61, xI (iw (p1 + 1)), xI (iw ((xshl 1 (μ 61 15)) - 1))] (xset μ 61 17 (iw ((μ 61 17) + 1))) (gI (fun r2 m1 => wb r2 2 (Q (xI r2) m1))))) : GM (d + 3) 137 [xR 61, xI p1] μ Q :=
  GM_wp (n := 400) (Nat.le_of_ble_eq_true rfl) (Nat.le_of_ble_eq_true rfl) rfl h
set_option maxRecDepth 20000 in
theorem ge_M_inn {d : Nat} {μ : Mem} {Q : AV → Mem → Prop} (h : GM (d + 5) 130 [xR 61] μ (gI (fun r2 m1 => if r2 = 0 then (Q (xI (-4)) m1) else (DW (d + 6) 138 7 [xR 61, xI 0] m1 Q)))) : GM (d + 6) 138 [xR 61] μ Q :=
  GM_wp (n := 400) (Nat.le_of_ble_eq_true rfl) (Nat.le_of_ble_eq_true rfl) rfl h
set_option maxRecDepth 20000 in
theorem sg_M_inn_7 {d : Nat} {l1 : Int} {μ : Mem} {Q : AV → Mem → Prop} (h : if l1 < μ 61 14 then (GM (d + 5) 139 [xR 61, xI (iw (5 * l1))] μ (gV (fun m1 => DW (d + 6) 138 7 [xR 61, xI (iw (l1 + 1))] m1 Q))) else (DW (d + 6) 138 19 [xR 61, xI l1] μ Q)) : DW (d + 6) 138 7 [xR 61, xI l1] μ Q :=
  DW_wp (n := 400) (Nat.le_of_ble_eq_true rfl) h
set_option maxRecDepth 20000 in
theorem sg_M_inn_19 {d : Nat} {v1 : AV} {μ : Mem} {Q : AV → Mem → Prop} (h : DW (d + 6) 138 25 [xR 61, xI 0] (xset μ 61 6 0) Q) : DW (d + 6) 138 19 [xR 61, v1] μ Q :=
  DW_wp (n := 400) (Nat.le_of_ble_eq_true rfl) h
set_option maxRecDepth 20000 in
theorem sg_M_inn_25 {d : Nat} {l1 : Int} {μ : Mem} {Q : AV → Mem → Prop} (h : if l1 < 27 then (wb l1 27 (DW (d + 6) 138 25 [xR 61, xI (iw (l1 + 1))] (xset μ 67 l1.toNat 0) Q)) else (DW (d + 6) 138 36 [xR 61, xI l1] μ Q)) : DW (d + 6) 138 25 [xR 61, xI l1] μ Q :=
  DW_wp (n := 400) (Nat.le_of_ble_eq_true rfl) h
set_option maxRecDepth 20000 in
theorem sg_M_inn_36 {d : Nat} {v1 : AV} {μ : Mem} {Q : AV → Mem → Prop} (h : DW (d + 6) 138 39 [xR 61, xI 0] μ Q) : DW (d + 6) 138 36 [xR 61, v1] μ Q :=
  DW_wp (n := 400) (Nat.le_of_ble_eq_true rfl) h
set_option maxRecDepth 20000 in
theorem sg_M_inn_39 {d : Nat} {l1 : Int} {μ : Mem} {Q : AV → Mem → Prop} (h : if l1 < μ 61 2 then (wb l1 27 (wb (iw ((iw (5 * l1)) + 4)) 30 (wb (iw (6 + l1)) 27 (DW (d + 6) 138 39 [xR 61, xI (iw (l1 + 1))] (xset (xset μ 67 l1.toNat l1) 67 ((iw (6 + l1)).toNat) (μ 63 (iw ((iw (5 * l1)) + 4)).toNat)) Q)))) else (DW (d + 6) 138 65 [xR 61, xI l1] μ Q)) : DW (d + 6) 138 39 [xR 61, xI l1] μ Q :=
  DW_wp (n := 400) (Nat.le_of_ble_eq_true rfl) h
set_option maxRecDepth 20000 in
theorem sg_M_inn_65 {d : Nat} {v1 : AV} {μ : Mem} {Q : AV → Mem → Prop} (h : Q (xI (μ 61 14)) (xset (xset (xset μ 61 22 0) 69 0 0) 69 1 0)) : DW (d + 6) 138 65 [xR 61, v1] μ Q :=
  DW_wp (n := 400) (Nat.le_of_ble_eq_true rfl) h
set_option maxRecDepth 20000 in
theorem ge_M_doLine {d : Nat} {p1 : Int} {μ : Mem} {Q : AV → Mem → Prop} (h : wb p1 70 (if μ 66 p1.toNat < 4 then (wb (μ 61 0) 5 (Q (xI 0) (xset (xset μ 62 ((μ 61 0).toNat) (μ 66 p1.toNat)) 61 0 (iw ((μ 61 0) + 1))))) else (if μ 66 p1.toNat < 8 then (wb (iw (5 * (μ 61 2))) 30 (DW d 139 36 [xR 61, xI p1, xI (μ 66 p1.toNat), xI 1] (xset μ 63 ((iw (5 * (μ 61 2))).toNat) (iw ((μ 66 p1.toNat) - 4))) Q)) else (if μ 66 p1.toNat = 8 then (Q (xI 0) (xset (xset (xset μ 61 0 0) 61 2 0) 61 4 0)) else (if μ 66 p1.toNat = 9 then (wb (iw (p1 + 1)) 70 (wb (μ 61 4) 6 (Q (xI 0) (xset (xset μ 64 ((μ 61 4).toNat) (μ 66 (iw (p1 + 1)).toNat)) 61 4 (iw ((μ 61 4) + 1)))))) else (wb (iw (p1 + 1)) 70 (wb (iw (p1 + 2)) 70 (wb (iw ((iw (5 * (μ 66 (iw (p1 + 1)).toNat))) + 4)) 30 (Q (xI 0) (xset μ 63 ((iw ((iw (5 * (μ 66 (iw (p1 + 1)).toNat))) + 4)).toNat) (μ 66 (iw (p1 + 2)).toNat))))))))))) : GM d 139 [xR 61, xI p1] μ Q :=
  GM_wp (n := 400) (Nat.le_of_ble_eq_true rfl) (Nat.le_of_ble_eq_true rfl) rfl h
set_option maxRecDepth 20000 in
theorem sg_M_doLine_36 {d : Nat} {l1 l3 : Int} {v2 : AV} {μ : Mem} {Q : AV → Mem → Prop} (h : if l3 < 5 then (wb (iw (l1 + l3)) 70 (wb (iw ((iw (5 * (μ 61 2))) + l3)) 30 (DW d 139 36 [xR 61, xI l1, v2, xI (iw (l3 + 1))] (xset μ 63 ((iw ((iw (5 * (μ 61 2))) + l3)).toNat) (μ 66 (iw (l1 + l3)).toNat)) Q))) else (DW d 139 57 [xR 61, xI l1, v2, xI l3] μ Q)) : DW d 139 36 [xR 61, xI l1, v2, xI l3] μ Q :=
  DW_wp (n := 400) (Nat.le_of_ble_eq_true rfl) h
set_option maxRecDepth 20000 in
theorem sg_M_doLine_57 {d : Nat} {v1 v2 v3 : AV} {μ : Mem} {Q : AV → Mem → Prop} (h : Q (xI 0) (xset μ 61 2 (iw ((μ 61 2) + 1)))) : DW d 139 57 [xR 61, v1, v2, v3] μ Q :=
  DW_wp (n := 400) (Nat.le_of_ble_eq_true rfl) h
set_option maxRecDepth 20000 in
theorem ge_M_one {d : Nat} {p1 p2 : Int} {μ : Mem} {Q : AV → Mem → Prop} (h : if p1 < 0 then (Q (xI (-2)) μ) else (if iw ((μ 61 0) - 1) < p1 then (Q (xI (-2)) μ) else (DW (d + 2) 140 10 [xR 61, xI p1, xI p2, xI 0, xI 0] μ Q))) : GM (d + 2) 140 [xR 61, xI p1, xI p2] μ Q :=
  GM_wp (n := 400) (Nat.le_of_ble_eq_true rfl) (Nat.le_of_ble_eq_true rfl) rfl h
set_option maxRecDepth 20000 in
theorem sg_M_one_10 {d : Nat} {l1 l2 l3 l4 : Int} {μ : Mem} {Q : AV → Mem → Prop} (h : if l4 < μ 61 2 then (wb (iw ((iw (5 * l4)) + 2)) 30 (if μ 63 (iw ((iw (5 * l4)) + 2)).toNat = l1 then (DW (d + 2) 140 10 [xR 61, xI l1, xI l2, xI (xior l3 (xshl 1 l4)), xI (iw (l4 + 1))] μ Q) else (DW (d + 2) 140 10 [xR 61, xI l1, xI l2, xI (xior l3 0), xI (iw (l4 + 1))] μ Q))) else (DW (d + 2) 140 30 [xR 61, xI l1, xI l2, xI l3, xI l4] μ Q)) : DW (d + 2) 140 10 [xR 61, xI l1, xI l2, xI l3, xI l4] μ Q :=
  DW_wp (n := 400) (Nat.le_of_ble_eq_true rfl) h
set_option maxRecDepth 20000 in
theorem sg_M_one_30 {d : Nat} {l1 l2 l3 : Int} {v4 : AV} {μ : Mem} {Q : AV → Mem → Prop} (h : if l2 = 0 then (wb l1 5 (Q (xI (μ 62 l1.toNat)) μ)) else (if l2 = 1 then (Q (xI l3) μ) else (if l2 = 2 then (Q (xI (xand (xshr (μ 67 26) l1) 1)) μ) else (if l2 = 3 then (GM (d + 1) 143 [xR 61, xI l1] μ (gI (fun r2 m1 => Q (xI r2) m1))) else (Q (xI (-3)) μ))))) : DW (d + 2) 140 30 [xR 61, xI l1, xI l2, xI l3, v4] μ Q :=
  DW_wp (n := 400) (Nat.le_of_ble_eq_true rfl) h
set_option maxRecDepth 20000 in
theorem ge_M_nightsOf {d : Nat} {p1 : Int} {μ : Mem} {Q : AV → Mem → Prop} (h : DW (d + 1) 143 4 [xR 61, xI p1, xI 0, xI 0] μ Q) : GM (d + 1) 143 [xR 61, xI p1] μ Q :=
  GM_wp (n := 400) (Nat.le_of_ble_eq_true rfl) (Nat.le_of_ble_eq_true rfl) rfl h
set_option maxRecDepth 20000 in
theorem sg_M_nightsOf_4 {d : Nat} {l1 l2 l3 : Int} {μ : Mem} {Q : AV → Mem → Prop} (h : if l3 < μ 61 4 then (wb l1 5 (if μ 62 l1.toNat = 3 then (DW (d + 1) 143 4 [xR 61, xI l1, xI (xior l2 (xshl 1 l3)), xI (iw (l3 + 1))] μ Q) else (wb l3 6 (if xand (xshr (μ 64 l3.toNat) l1) 1 = 1 then (DW (d + 1) 143 4 [xR 61, xI l1, xI (xior l2 (xshl 1 l3)), xI (iw (l3 + 1))] μ Q) else (DW (d + 1) 143 4 [xR 61, xI l1, xI (xior l2 0), xI (iw (l3 + 1))] μ Q))))) else (Q (xI l2) μ)) : DW (d + 1) 143 4 [xR 61, xI l1, xI l2, xI l3] μ Q :=
  DW_wp (n := 400) (Nat.le_of_ble_eq_true rfl) h
set_option maxRecDepth 20000 in
theorem ge_M_as {d : Nat} {p1 p2 : Int} {μ : Mem} {Q : AV → Mem → Prop} (h : if p1 < 0 then (Q (xI (-2)) μ) else (if iw ((μ 61 0) - 1) < p1 then (Q (xI (-2)) μ) else (if p2 < 0 then (Q (xI (-3)) μ) else (if 4 < p2 then (Q (xI (-3)) μ) else (wb p1 5 (if p2 = 0 then (DW (d + 2) 145 40 [xR 61, xI p1, xI p2, xI (μ 62 p1.toNat), xI 1, xI 0, xI 0] μ Q) else (if p2 = 1 then (if μ 62 p1.toNat = 3 then (DW (d + 2) 145 40 [xR 61, xI p1, xI p2, xI (μ 62 p1.toNat), xI 0, xI 0, xI 0] μ Q) else (DW (d + 2) 145 40 [xR 61, xI p1, xI p2, xI (μ 62 p1.toNat), xI 1, xI 0, xI 0] μ Q)) else (if μ 62 p1.toNat = iw (p2 - 1) then (DW (d + 2) 145 40 [xR 61, xI p1, xI p2, xI (μ 62 p1.toNat), xI 1, xI 0, xI 0] μ Q) else (DW (d + 2) 145 40 [xR 61, xI p1, xI p2, xI (μ 62 p1.toNat), xI 0, xI 0, xI 0] μ Q))))))))) : GM (d + 2) 145 [xR 61, xI p1, xI p2] μ Q :=
  GM_wp (n := 400) (Nat.le_of_ble_eq_true rfl) (Nat.le_of_ble_eq_true rfl) rfl h
set_option maxRecDepth 20000 in
theorem sg_M_as_40 {d : Nat} {l1 l4 l5 l6 : Int} {v2 v3 : AV} {μ : Mem} {Q : AV → Mem → Prop} (h : if l6 < μ 61 2 then (wb (iw ((iw (5 * l6)) + 2)) 30 (if μ 63 (iw ((iw (5 * l6)) + 2)).toNat = l1 then (wb l6 27 (wb (iw ((iw (5 * (μ 67 l6.toNat))) + 2)) 30 (if μ 63 (iw ((iw (5 * (μ 67 l6.toNat))) + 2)).toNat = l1 then (DW (d + 2) 145 40 [xR 61, xI l1, v2, v3, xI l4, xI (iw (l5 + 1)), xI (iw (l6 + 1))] μ Q) else (DW (d + 2) 145 40 [xR 61, xI l1, v2, v3, xI l4, xI (iw (l5 + 0)), xI (iw (l6 + 1))] μ Q)))) else (DW (d + 2) 145 40 [xR 61, xI l1, v2, v3, xI l4, xI (iw (l5 + 0)), xI (iw (l6 + 1))] μ Q))) else (DW (d + 2) 145 66 [xR 61, xI l1, v2, v3, xI l4, xI l5, xI l6] μ Q)) : DW (d + 2) 145 40 [xR 61, xI l1, v2, v3, xI l4, xI l5, xI l6] μ Q :=
  DW_wp (n := 400) (Nat.le_of_ble_eq_true rfl) h
set_option maxRecDepth 20000 in
theorem sg_M_as_66 {d : Nat} {l4 l5 : Int} {v0 v1 v2 v3 v6 : AV} {μ : Mem} {Q : AV → Mem → Prop} (h : if l4 = 0 then (Q (xI (-4)) μ) else (Q (xI l5) μ)) : DW (d + 2) 145 66 [v0, v1, v2, v3, xI l4, xI l5, v6] μ Q :=
  DW_wp (n := 400) (Nat.le_of_ble_eq_true rfl) h
set_option maxRecDepth 20000 in
theorem ge_M_thing {d : Nat} {p1 p2 : Int} {μ : Mem} {Q : AV → Mem → Prop} (h : if p1 < 0 then (Q (xI (-2)) μ) else (if iw ((μ 61 2) - 1) < p1 then (Q (xI (-2)) μ) else (if p2 = 0 then (wb (iw (5 * p1)) 30 (Q (xI (μ 63 (iw (5 * p1)).toNat)) μ)) else (if p2 = 1 then (wb (iw ((iw (5 * p1)) + 1)) 30 (Q (xI (μ 63 (iw ((iw (5 * p1)) + 1)).toNat)) μ)) else (if p2 = 2 then (wb (iw ((iw (5 * p1)) + 3)) 30 (Q (xI (μ 63 (iw ((iw (5 * p1)) + 3)).toNat)) μ)) else (if p2 = 3 then (wb (iw (6 + p1)) 27 (Q (xI (μ 67 (iw (6 + p1)).toNat)) μ)) else (if p2 = 4 then (GM (d + 1) 151 [xR 61, xI p1] μ (gI (fun r2 m1 => Q (xI r2) m1))) else (if p2 = 5 then (wb (iw (12 + p1)) 27 (Q (xI (μ 67 (iw (12 + p1)).toNat)) μ)) else (Q (xI (-3)) μ))))))))) : GM (d + 2) 146 [xR 61, xI p1, xI p2] μ Q :=
  GM_wp (n := 400) (Nat.le_of_ble_eq_true rfl) (Nat.le_of_ble_eq_true rfl) rfl h
set_option maxRecDepth 20000 in
theorem ge_M_whereIs {d : Nat} {p1 : Int} {μ : Mem} {Q : AV → Mem → Prop} (h : DW d 151 2 [xR 61, xI p1, xI 0] μ Q) : GM d 151 [xR 61, xI p1] μ Q :=
  GM_wp (n := 400) (Nat.le_of_ble_eq_true rfl) (Nat.le_of_ble_eq_true rfl) rfl h
set_option maxRecDepth 20000 in
theorem sg_M_whereIs_2 {d : Nat} {l1 l2 : Int} {μ : Mem} {Q : AV → Mem → Prop} (h : if l2 < μ 61 2 then (wb l2 27 (if μ 67 l2.toNat = l1 then (Q (xI l2) μ) else (DW d 151 2 [xR 61, xI l1, xI (iw (l2 + 1))] μ Q))) else (Q (xI (-1)) μ)) : DW d 151 2 [xR 61, xI l1, xI l2] μ Q :=
  DW_wp (n := 400) (Nat.le_of_ble_eq_true rfl) h
set_option maxRecDepth 20000 in
theorem ge_M_thingAs {d : Nat} {p1 p2 : Int} {μ : Mem} {Q : AV → Mem → Prop} (h : if p1 < 0 then (Q (xI (-2)) μ) else (if iw ((μ 61 2) - 1) < p1 then (Q (xI (-2)) μ) else (if p2 < 0 then (Q (xI (-3)) μ) else (if 5 < p2 then (Q (xI (-3)) μ) else (wb (iw (5 * p1)) 30 (if p2 = 0 then (DW (d + 3) 152 55 [xR 61, xI p1, xI p2, xI (μ 63 (iw (5 * p1)).toNat), xI 1] μ Q) else (if p2 = 1 then (if μ 63 (iw (5 * p1)).toNat = 0 then (DW (d + 3) 152 55 [xR 61, xI p1, xI p2, xI (μ 63 (iw (5 * p1)).toNat), xI 1] μ Q) else (DW (d + 3) 152 55 [xR 61, xI p1, xI p2, xI (μ 63 (iw (5 * p1)).toNat), xI 0] μ Q)) else (if p2 = 2 then (if 0 < μ 63 (iw (5 * p1)).toNat then (DW (d + 3) 152 55 [xR 61, xI p1, xI p2, xI (μ 63 (iw (5 * p1)).toNat), xI 1] μ Q) else (DW (d + 3) 152 55 [xR 61, xI p1, xI p2, xI (μ 63 (iw (5 * p1)).toNat), xI 0] μ Q)) else (if p2 = 3 then (if μ 63 (iw (5 * p1)).toNat = 1 then (DW (d + 3) 152 55 [xR 61, xI p1, xI p2, xI (μ 63 (iw (5 * p1)).toNat), xI 1] μ Q) else (if μ 63 (iw (5 * p1)).toNat = 3 then (DW (d + 3) 152 55 [xR 61, xI p1, xI p2, xI (μ 63 (iw (5 * p1)).toNat), xI 1] μ Q) else (DW (d + 3) 152 55 [xR 61, xI p1, xI p2, xI (μ 63 (iw (5 * p1)).toNat), xI 0] μ Q))) else (if p2 = 4 then (if μ 63 (iw (5 * p1)).toNat = 2 then (DW (d + 3) 152 55 [xR 61, xI p1, xI p2, xI (μ 63 (iw (5 * p1)).toNat), xI 1] μ Q) else (DW (d + 3) 152 55 [xR 61, xI p1, xI p2, xI (μ 63 (iw (5 * p1)).toNat), xI 0] μ Q)) else (if μ 63 (iw (5 * p1)).toNat = 3 then (DW (d + 3) 152 55 [xR 61, xI p1, xI p2, xI (μ 63 (iw (5 * p1)).toNat), xI 1] μ Q) else (DW (d + 3) 152 55 [xR 61, xI p1, xI p2, xI (μ 63 (iw (5 * p1)).toNat), xI 0] μ Q)))))))))))) : GM (d + 3) 152 [xR 61, xI p1, xI p2] μ Q :=
  GM_wp (n := 400) (Nat.le_of_ble_eq_true rfl) (Nat.le_of_ble_eq_true rfl) rfl h
set_option maxRecDepth 20000 in
theorem sg_M_thingAs_55 {d : Nat} {l1 l4 : Int} {v2 v3 : AV} {μ : Mem} {Q : AV → Mem → Prop} (h : if l4 = 0 then (Q (xI (-4)) μ) else (GM (d + 2) 151 [xR 61, xI l1] μ (gI (fun r2 m1 => wb (iw ((iw (5 * l1)) + 3)) 30 (GM (d + 2) 153 [xR 61, xI l1, xI r2, xI (m1 63 (iw ((iw (5 * l1)) + 3)).toNat)] m1 (gI (fun r4 m3 => if r4 = 0 then (Q (xI 0) m3) else (Q (xI 1) m3)))))))) : DW (d + 3) 152 55 [xR 61, xI l1, v2, v3, xI l4] μ Q :=
  DW_wp (n := 400) (Nat.le_of_ble_eq_true rfl) h
set_option maxRecDepth 20000 in
theorem ge_M_works {d : Nat} {p1 p2 p3 : Int} {μ : Mem} {Q : AV → Mem → Prop} (h : wb (iw ((iw (5 * p1)) + 3)) 30 (if p3 = μ 63 (iw ((iw (5 * p1)) + 3)).toNat then (wb (iw (5 * p1)) 30 (if μ 63 (iw (5 * p1)).toNat = 0 then (Q (xI 0) μ) else (if μ 63 (iw (5 * p1)).toNat = 1 then (Q (xI 1) μ) else (if μ 63 (iw (5 * p1)).toNat = 2 then (wb (iw (6 + p1)) 27 (if 0 < μ 67 (iw (6 + p1)).toNat then (Q (xI 1) μ) else (Q (xI 0) μ))) else (wb (iw ((iw (5 * p2)) + 2)) 30 (wb (iw ((iw (5 * p1)) + 2)) 30 (if μ 63 (iw ((iw (5 * p2)) + 2)).toNat = μ 63 (iw ((iw (5 * p1)) + 2)).toNat then (Q (xI 1) μ) else (wb (iw ((iw (5 * p2)) + 2)) 30 (wb (μ 63 (iw ((iw (5 * p2)) + 2)).toNat) 5 (if μ 62 (μ 63 (iw ((iw (5 * p2)) + 2)).toNat).toNat = 2 then (Q (xI 1) μ) else (Q (xI 0) μ))))))))))) else (Q (xI 0) μ))) : GM (d + 2) 153 [xR 61, xI p1, xI p2, xI p3] μ Q :=
  GM_wp (n := 400) (Nat.le_of_ble_eq_true rfl) (Nat.le_of_ble_eq_true rfl) rfl h
set_option maxRecDepth 20000 in
theorem ge_M_place {d : Nat} {p1 p2 : Int} {μ : Mem} {Q : AV → Mem → Prop} (h : if p1 < 0 then (Q (xI (-2)) μ) else (if iw ((μ 61 2) - 1) < p1 then (Q (xI (-2)) μ) else (if p2 = 0 then (wb (iw ((iw (5 * p1)) + 2)) 30 (Q (xI (μ 63 (iw ((iw (5 * p1)) + 2)).toNat)) μ)) else (if p2 = 1 then (wb p1 27 (Q (xI (μ 67 p1.toNat)) μ)) else (if p2 = 2 then (wb (iw (18 + p1)) 27 (Q (xI (μ 67 (iw (18 + p1)).toNat)) μ)) else (Q (xI (-3)) μ)))))) : GM (d + 2) 155 [xR 61, xI p1, xI p2] μ Q :=
  GM_wp (n := 400) (Nat.le_of_ble_eq_true rfl) (Nat.le_of_ble_eq_true rfl) rfl h
set_option maxRecDepth 20000 in
theorem ge_M_may {d : Nat} {p1 p2 p3 : Int} {μ : Mem} {Q : AV → Mem → Prop} (h : if p1 < 0 then (Q (xI (-2)) μ) else (if iw ((μ 61 4) - 1) < p1 then (Q (xI (-2)) μ) else (if p2 < 0 then (Q (xI (-2)) μ) else (if iw ((μ 61 2) - 1) < p2 then (Q (xI (-2)) μ) else (if p3 < 0 then (Q (xI (-2)) μ) else (if iw ((μ 61 2) - 1) < p3 then (Q (xI (-2)) μ) else (if p2 = p3 then (Q (xI (-3)) μ) else (GM (d + 3) 157 [xR 61, xI p1, xI p2, xI p3] μ (gI (fun r2 m1 => if r2 = 0 then (Q (xI 0) m1) else (Q (xI 1) m1))))))))))) : GM (d + 4) 156 [xR 61, xI p1, xI p2, xI p3] μ Q :=
  GM_wp (n := 400) (Nat.le_of_ble_eq_true rfl) (Nat.le_of_ble_eq_true rfl) rfl h
set_option maxRecDepth 20000 in
theorem ge_M_mayBe {d : Nat} {p1 p2 p3 : Int} {μ : Mem} {Q : AV → Mem → Prop} (h : if p2 = p3 then (Q (xI 0) μ) else (wb (iw ((iw (5 * p2)) + 1)) 30 (wb (iw ((iw (5 * p3)) + 1)) 30 (if μ 63 (iw ((iw (5 * p2)) + 1)).toNat = μ 63 (iw ((iw (5 * p3)) + 1)).toNat then (GM (d + 2) 158 [xR 61, xI p1, xI p2] μ (gI (fun r2 m1 => if r2 = 0 then (Q (xI 0) m1) else (GM (d + 2) 158 [xR 61, xI p1, xI p3] m1 (gI (fun r4 m3 => if r4 = 0 then (Q (xI 0) m3) else (Q (xI 1) m3))))))) else (Q (xI 0) μ))))) : GM (d + 3) 157 [xR 61, xI p1, xI p2, xI p3] μ Q :=
  GM_wp (n := 400) (Nat.le_of_ble_eq_true rfl) (Nat.le_of_ble_eq_true rfl) rfl h
set_option maxRecDepth 20000 in
theorem ge_M_isOpen {d : Nat} {p1 p2 : Int} {μ : Mem} {Q : AV → Mem → Prop} (h : wb (iw ((iw (5 * p2)) + 2)) 30 (wb (μ 63 (iw ((iw (5 * p2)) + 2)).toNat) 5 (if μ 62 (μ 63 (iw ((iw (5 * p2)) + 2)).toNat).toNat = 3 then (Q (xI 1) μ) else (wb p1 6 (wb (iw ((iw (5 * p2)) + 2)) 30 (if xand (xshr (μ 64 p1.toNat) (μ 63 (iw ((iw (5 * p2)) + 2)).toNat)) 1 = 1 then (wb (iw ((iw (5 * p2)) + 2)) 30 (wb (μ 63 (iw ((iw (5 * p2)) + 2)).toNat) 5 (if μ 62 (μ 63 (iw ((iw (5 * p2)) + 2)).toNat).toNat = 1 then (Q (xI 0) μ) else (Q (xI 1) μ)))) else (Q (xI 0) μ))))))) : GM (d + 2) 158 [xR 61, xI p1, xI p2] μ Q :=
  GM_wp (n := 400) (Nat.le_of_ble_eq_true rfl) (Nat.le_of_ble_eq_true rfl) rfl h
set_option maxRecDepth 20000 in
theorem ge_M_pass {d : Nat} {p1 p2 : Int} {μ : Mem} {Q : AV → Mem → Prop} (h : if p1 = (-1) then (if p2 = (-1) then (if p1 = (-1) then (if p2 = (-1) then (DW (d + 4) 159 26 [xR 61, xI p1, xI p2, xI 1, xL 0] μ Q) else (DW (d + 4) 159 26 [xR 61, xI p1, xI p2, xI 0, xL 0] μ Q)) else (DW (d + 4) 159 26 [xR 61, xI p1, xI p2, xI 0, xL 0] μ Q)) else (if p2 < 0 then (Q (xI (-2)) μ) else (if iw ((μ 61 2) - 1) < p2 then (Q (xI (-2)) μ) else (if p1 = (-1) then (if p2 = (-1) then (DW (d + 4) 159 26 [xR 61, xI p1, xI p2, xI 1, xL 0] μ Q) else (DW (d + 4) 159 26 [xR 61, xI p1, xI p2, xI 0, xL 0] μ Q)) else (DW (d + 4) 159 26 [xR 61, xI p1, xI p2, xI 0, xL 0] μ Q))))) else (if p1 < 0 then (Q (xI (-2)) μ) else (if iw ((μ 61 2) - 1) < p1 then (Q (xI (-2)) μ) else (if p2 = (-1) then (if p1 = (-1) then (if p2 = (-1) then (DW (d + 4) 159 26 [xR 61, xI p1, xI p2, xI 1, xL 0] μ Q) else (DW (d + 4) 159 26 [xR 61, xI p1, xI p2, xI 0, xL 0] μ Q)) else (DW (d + 4) 159 26 [xR 61, xI p1, xI p2, xI 0, xL 0] μ Q)) else (if p2 < 0 then (Q (xI (-2)) μ) else (if iw ((μ 61 2) - 1) < p2 then (Q (xI (-2)) μ) else (if p1 = (-1) then (if p2 = (-1) then (DW (d + 4) 159 26 [xR 61, xI p1, xI p2, xI 1, xL 0] μ Q) else (DW (d + 4) 159 26 [xR 61, xI p1, xI p2, xI 0, xL 0] μ Q)) else (DW (d + 4) 159 26 [xR 61, xI p1, xI p2, xI 0, xL 0] μ Q)))))))) : GM (d + 4) 159 [xR 61, xI p1, xI p2] μ Q :=
  GM_wp (n := 400) (Nat.le_of_ble_eq_true rfl) (Nat.le_of_ble_eq_true rfl) rfl h
set_option maxRecDepth 20000 in
theorem sg_M_pass_26 {d : Nat} {l1 l2 l3 : Int} {v4 : AV} {μ : Mem} {Q : AV → Mem → Prop} (h : if l3 = 0 then (if l1 = l2 then (Q (xI (-3)) μ) else (if l1 = (-1) then (Q (xI (-3)) μ) else (if l2 = (-1) then (Q (xI (-3)) μ) else (DW (d + 4) 159 40 [xR 61, xI l1, xI l2, xI l3, v4] μ Q)))) else (DW (d + 4) 159 40 [xR 61, xI l1, xI l2, xI l3, v4] μ Q)) : DW (d + 4) 159 26 [xR 61, xI l1, xI l2, xI l3, v4] μ Q :=
  DW_wp (n := 400) (Nat.le_of_ble_eq_true rfl) h
set_option maxRecDepth 20000 in
theorem sg_M_pass_40 {d : Nat} {l1 l2 l3 : Int} {v4 : AV} {μ : Mem} {Q : AV → Mem → Prop} (h : if μ 67 24 = μ 61 4 then (Q (xI (-4)) μ) else (if l3 = 0 then (GM (d + 3) 157 [xR 61, xI (μ 67 24), xI l1, xI l2] μ (gI (fun r2 m1 => if r2 = 0 then (Q (xI (-4)) m1) else (DW (d + 4) 159 61 [xR 61, xI l1, xI l2, xI l3, v4] m1 Q)))) else (DW (d + 4) 159 61 [xR 61, xI l1, xI l2, xI l3, v4] μ Q))) : DW (d + 4) 159 40 [xR 61, xI l1, xI l2, xI l3, v4] μ Q :=
  DW_wp (n := 400) (Nat.le_of_ble_eq_true rfl) h
set_option maxRecDepth 20000 in
theorem sg_M_pass_61 {d : Nat} {l1 l2 l3 : Int} {v4 : AV} {μ : Mem} {Q : AV → Mem → Prop} (h : if l3 = 0 then (wb l1 27 (wb l2 27 (wb l1 27 (wb l2 27 (wb (iw (18 + l1)) 27 (wb (iw (18 + l1)) 27 (wb (iw (18 + l2)) 27 (wb (iw (18 + l2)) 27 (DW (d + 4) 159 118 [xR 61, xI l1, xI l2, xI l3, xI ((xset μ 67 24 (iw ((μ 67 24) + 1))) 67 l1.toNat)] (xset (xset (xset (xset (xset (xset μ 67 24 (iw ((μ 67 24) + 1))) 67 l1.toNat ((xset μ 67 24 (iw ((μ 67 24) + 1))) 67 l2.toNat)) 67 l2.toNat ((xset μ 67 24 (iw ((μ 67 24) + 1))) 67 l1.toNat)) 67 25 (iw (((xset (xset (xset μ 67 24 (iw ((μ 67 24) + 1))) 67 l1.toNat ((xset μ 67 24 (iw ((μ 67 24) + 1))) 67 l2.toNat)) 67 l2.toNat ((xset μ 67 24 (iw ((μ 67 24) + 1))) 67 l1.toNat)) 67 25) + 1))) 67 ((iw (18 + l1)).toNat) (iw (((xset (xset (xset (xset μ 67 24 (iw ((μ 67 24) + 1))) 67 l1.toNat ((xset μ 67 24 (iw ((μ 67 24) + 1))) 67 l2.toNat)) 67 l2.toNat ((xset μ 67 24 (iw ((μ 67 24) + 1))) 67 l1.toNat)) 67 25 (iw (((xset (xset (xset μ 67 24 (iw ((μ 67 24) + 1))) 67 l1.toNat ((xset μ 67 24 (iw ((μ 67 24) + 1))) 67 l2.toNat)) 67 l2.toNat ((xset μ 67 24 (iw ((μ 67 24) + 1))) 67 l1.toNat)) 67 25) + 1))) 67 (iw (18 + l1)).toNat) + 1))) 67 ((iw (18 + l2)).toNat) (iw (((xset (xset (xset (xset (xset μ 67 24 (iw ((μ 67 24) + 1))) 67 l1.toNat ((xset μ 67 24 (iw ((μ 67 24) + 1))) 67 l2.toNat)) 67 l2.toNat ((xset μ 67 24 (iw ((μ 67 24) + 1))) 67 l1.toNat)) 67 25 (iw (((xset (xset (xset μ 67 24 (iw ((μ 67 24) + 1))) 67 l1.toNat ((xset μ 67 24 (iw ((μ 67 24) + 1))) 67 l2.toNat)) 67 l2.toNat ((xset μ 67 24 (iw ((μ 67 24) + 1))) 67 l1.toNat)) 67 25) + 1))) 67 ((iw (18 + l1)).toNat) (iw (((xset (xset (xset (xset μ 67 24 (iw ((μ 67 24) + 1))) 67 l1.toNat ((xset μ 67 24 (iw ((μ 67 24) + 1))) 67 l2.toNat)) 67 l2.toNat ((xset μ 67 24 (iw ((μ 67 24) + 1))) 67 l1.toNat)) 67 25 (iw (((xset (xset (xset μ 67 24 (iw ((μ 67 24) + 1))) 67 l1.toNat ((xset μ 67 24 (iw ((μ 67 24) + 1))) 67 l2.toNat)) 67 l2.toNat ((xset μ 67 24 (iw ((μ 67 24) + 1))) 67 l1.toNat)) 67 25) + 1))) 67 (iw (18 + l1)).toNat) + 1))) 67 (iw (18 + l2)).toNat) + 1))) Q))))))))) else (DW (d + 4) 159 118 [xR 61, xI l1, xI l2, xI l3, v4] (xset μ 67 24 (iw ((μ 67 24) + 1))) Q)) : DW (d + 4) 159 61 [xR 61, xI l1, xI l2, xI l3, v4] μ Q :=
  DW_wp (n := 400) (Nat.le_of_ble_eq_true rfl) h
set_option maxRecDepth 20000 in
theorem sg_M_pass_118 {d : Nat} {v1 v2 v3 v4 : AV} {μ : Mem} {Q : AV → Mem → Prop} (h : Q (xI (μ 67 24)) μ) : DW (d + 4) 159 118 [xR 61, v1, v2, v3, v4] μ Q :=
  DW_wp (n := 400) (Nat.le_of_ble_eq_true rfl) h
end
section
set_option maxRecDepth 20000 in
theorem ge_M_say {d : Nat} {p1 p2 : Int} {μ : Mem} {Q : AV → Mem → Prop} (h : if p1 < 0 then (Q (xI (-2)) μ) else (if iw ((μ 61 2) - 1) < p1 then (Q (xI (-2)) μ) else (if p2 < 0 then (Q (xI (-3)) μ) else (if 3 < p2 then (Q (xI (-3)) μ) else (wb p1 27 (GM (d + 2) 153 [xR 61, xI (μ 67 p1.toNat), xI p1, xI p2] μ (gI (fun r2 m1 => if r2 = 0 then (wb (iw ((iw (5 * p1)) + 2)) 30 (wb (m1 63 (iw ((iw (5 * p1)) + 2)).toNat) 5 (if m1 62 (m1 63 (iw ((iw (5 * p1)) + 2)).toNat).toNat = 3 then (DW (d + 3) 160 82 [xR 61, xI p1, xI p2, xI (μ 67 p1.toNat), xI r2] m1 Q) else (wb (iw (5 * p1)) 30 (if 0 < m1 63 (iw (5 * p1)).toNat then (wb (iw ((iw (5 * p1)) + 3)) 30 (if m1 63 (iw ((iw (5 * p1)) + 3)).toNat = p2 then (wb (iw ((iw (5 * p1)) + 2)) 30 (DW (d + 3) 160 82 [xR 61, xI p1, xI p2, xI (μ 67 p1.toNat), xI r2] (xset m1 67 26 (xior (m1 67 26) (xshl 1 (m1 63 (iw ((iw (5 * p1)) + 2)).toNat)))) Q)) else (DW (d + 3) 160 82 [xR 61, xI p1, xI p2, xI (μ 67 p1.toNat), xI r2] m1 Q))) else (DW (d + 3) 160 82 [xR 61, xI p1, xI p2, xI (μ 67 p1.toNat), xI r2] m1 Q)))))) else (wb (iw (12 + (μ 67 p1.toNat))) 27 (wb (iw (12 + (μ 67 p1.toNat))) 27 (wb (iw (6 + (μ 67 p1.toNat))) 27 (wb (iw (5 * (μ 67 p1.toNat))) 30 (if m1 63 (iw (5 * (μ 67 p1.toNat))).toNat = 2 then (wb (iw (6 + (μ 67 p1.toNat))) 27 (DW (d + 3) 160 82 [xR 61, xI p1, xI p2, xI (μ 67 p1.toNat), xI r2] (xset (xset m1 67 ((iw (12 + (μ 67 p1.toNat))).toNat) (iw ((m1 67 (iw (12 + (μ 67 p1.toNat))).toNat) + 1))) 67 ((iw (6 + (μ 67 p1.toNat))).toNat) (iw (((xset m1 67 ((iw (12 + (μ 67 p1.toNat))).toNat) (iw ((m1 67 (iw (12 + (μ 67 p1.toNat))).toNat) + 1))) 67 (iw (6 + (μ 67 p1.toNat))).toNat) - 1))) Q)) else (wb (iw (6 + (μ 67 p1.toNat))) 27 (DW (d + 3) 160 82 [xR 61, xI p1, xI p2, xI (μ 67 p1.toNat), xI r2] (xset (xset m1 67 ((iw (12 + (μ 67 p1.toNat))).toNat) (iw ((m1 67 (iw (12 + (μ 67 p1.toNat))).toNat) + 1))) 67 ((iw (6 + (μ 67 p1.toNat))).toNat) (iw (((xset m1 67 ((iw (12 + (μ 67 p1.toNat))).toNat) (iw ((m1 67 (iw (12 + (μ 67 p1.toNat))).toNat) + 1))) 67 (iw (6 + (μ 67 p1.toNat))).toNat) - 0))) Q))))))))))))))) : GM (d + 3) 160 [xR 61, xI p1, xI p2] μ Q :=
  GM_wp (n := 400) (Nat.le_of_ble_eq_true rfl) (Nat.le_of_ble_eq_true rfl) rfl h
set_option maxRecDepth 20000 in
theorem sg_M_say_82 {d : Nat} {l4 : Int} {v0 v1 v2 v3 : AV} {μ : Mem} {Q : AV → Mem → Prop} (h : if l4 = 0 then (Q (xI 0) μ) else (Q (xI 1) μ)) : DW (d + 3) 160 82 [v0, v1, v2, v3, xI l4] μ Q :=
  DW_wp (n := 400) (Nat.le_of_ble_eq_true rfl) h
set_option maxRecDepth 20000 in
theorem ge_M_keep {d : Nat} {p1 : Int} {μ : Mem} {Q : AV → Mem → Prop} (h : if p1 < 0 then (Q (xI (-2)) μ) else (if 1 < p1 then (Q (xI (-2)) μ) else (DW (d + 1) 161 9 [xR 61, xI p1, xI 0] μ Q))) : GM (d + 1) 161 [xR 61, xI p1] μ Q :=
  GM_wp (n := 400) (Nat.le_of_ble_eq_true rfl) (Nat.le_of_ble_eq_true rfl) rfl h
set_option maxRecDepth 20000 in
theorem sg_M_keep_9 {d : Nat} {l1 l2 : Int} {μ : Mem} {Q : AV → Mem → Prop} (h : if l2 < 27 then (wb l2 27 (wb (iw ((iw (27 * l1)) + l2)) 54 (DW (d + 1) 161 9 [xR 61, xI l1, xI (iw (l2 + 1))] (xset μ 68 ((iw ((iw (27 * l1)) + l2)).toNat) (μ 67 l2.toNat)) Q))) else (DW (d + 1) 161 27 [xR 61, xI l1, xI l2] μ Q)) : DW (d + 1) 161 9 [xR 61, xI l1, xI l2] μ Q :=
  DW_wp (n := 400) (Nat.le_of_ble_eq_true rfl) h
set_option maxRecDepth 20000 in
theorem sg_M_keep_27 {d : Nat} {l1 : Int} {v2 : AV} {μ : Mem} {Q : AV → Mem → Prop} (h : wb l1 2 (Q (xI (μ 67 24)) (xset μ 69 l1.toNat 1))) : DW (d + 1) 161 27 [xR 61, xI l1, v2] μ Q :=
  DW_wp (n := 400) (Nat.le_of_ble_eq_true rfl) h
set_option maxRecDepth 20000 in
theorem ge_M_back {d : Nat} {p1 : Int} {μ : Mem} {Q : AV → Mem → Prop} (h : if p1 < 0 then (Q (xI (-2)) μ) else (if 1 < p1 then (Q (xI (-2)) μ) else (wb p1 2 (if μ 69 p1.toNat = 0 then (Q (xI (-4)) μ) else (DW (d + 1) 162 16 [xR 61, xI p1, xI 0] μ Q))))) : GM (d + 1) 162 [xR 61, xI p1] μ Q :=
  GM_wp (n := 400) (Nat.le_of_ble_eq_true rfl) (Nat.le_of_ble_eq_true rfl) rfl h
set_option maxRecDepth 20000 in
theorem sg_M_back_16 {d : Nat} {l1 l2 : Int} {μ : Mem} {Q : AV → Mem → Prop} (h : if l2 < 27 then (wb (iw ((iw (27 * l1)) + l2)) 54 (wb l2 27 (DW (d + 1) 162 16 [xR 61, xI l1, xI (iw (l2 + 1))] (xset μ 67 l2.toNat (μ 68 (iw ((iw (27 * l1)) + l2)).toNat)) Q))) else (DW (d + 1) 162 34 [xR 61, xI l1, xI l2] μ Q)) : DW (d + 1) 162 16 [xR 61, xI l1, xI l2] μ Q :=
  DW_wp (n := 400) (Nat.le_of_ble_eq_true rfl) h
set_option maxRecDepth 20000 in
theorem sg_M_back_34 {d : Nat} {v1 v2 : AV} {μ : Mem} {Q : AV → Mem → Prop} (h : Q (xI (μ 67 24)) μ) : DW (d + 1) 162 34 [xR 61, v1, v2] μ Q :=
  DW_wp (n := 400) (Nat.le_of_ble_eq_true rfl) h
set_option maxRecDepth 20000 in
theorem ge_M_rings {d : Nat} {μ : Mem} {Q : AV → Mem → Prop} (h : DW (d + 1) 163 6 [xR 61, xI 0, xI 0, xI 0, xL 0] μ Q) : GM (d + 1) 163 [xR 61] μ Q :=
  GM_wp (n := 400) (Nat.le_of_ble_eq_true rfl) (Nat.le_of_ble_eq_true rfl) rfl h
set_option maxRecDepth 20000 in
theorem sg_M_rings_6 {d : Nat} {l1 l2 l3 : Int} {v4 : AV} {μ : Mem} {Q : AV → Mem → Prop} (h : if l3 < μ 61 2 then (if xand (xshr l1 l3) 1 = 1 then (DW (d + 1) 163 23 [xR 61, xI l1, xI (iw (l2 + 0)), xI l3, xI l3] μ Q) else (DW (d + 1) 163 23 [xR 61, xI l1, xI (iw (l2 + 1)), xI l3, xI l3] μ Q)) else (Q (xI l2) μ)) : DW (d + 1) 163 6 [xR 61, xI l1, xI l2, xI l3, v4] μ Q :=
  DW_wp (n := 400) (Nat.le_of_ble_eq_true rfl) h
set_option maxRecDepth 20000 in
theorem sg_M_rings_23 {d : Nat} {l1 l2 l3 l4 : Int} {μ : Mem} {Q : AV → Mem → Prop} (h : if xand (xshr l1 l4) 1 = 1 then (DW (d + 1) 163 40 [xR 61, xI l1, xI l2, xI l3, xI l4] μ Q) else (wb l4 27 (DW (d + 1) 163 23 [xR 61, xI (xior l1 (xshl 1 l4)), xI l2, xI l3, xI (μ 67 l4.toNat)] μ Q))) : DW (d + 1) 163 23 [xR 61, xI l1, xI l2, xI l3, xI l4] μ Q :=
  DW_wp (n := 400) (Nat.le_of_ble_eq_true rfl) h
set_option maxRecDepth 20000 in
theorem sg_M_rings_40 {d : Nat} {l1 l2 l3 : Int} {v4 : AV} {μ : Mem} {Q : AV → Mem → Prop} (h : DW (d + 1) 163 6 [xR 61, xI l1, xI l2, xI (iw (l3 + 1)), v4] μ Q) : DW (d + 1) 163 40 [xR 61, xI l1, xI l2, xI l3, v4] μ Q :=
  DW_wp (n := 400) (Nat.le_of_ble_eq_true rfl) h
set_option maxRecDepth 20000 in
theorem ge_M_mend {d : Nat} {p1 p2 : Int} {μ : Mem} {Q : AV → Mem → Prop} (h : if p1 < (-1) then (Q (xI (-3)) μ) else (if p2 < 0 then (Q (xI (-3)) μ) else (if 1 < p2 then (Q (xI (-3)) μ) else (DW (d + 2) 164 12 [xR 61, xI p1, xI p2, xI 0, xL 0, xL 0] μ Q)))) : GM (d + 2) 164 [xR 61, xI p1, xI p2] μ Q :=
  GM_wp (n := 400) (Nat.le_of_ble_eq_true rfl) (Nat.le_of_ble_eq_true rfl) rfl h
set_option maxRecDepth 20000 in
theorem sg_M_mend_12 {d : Nat} {l1 l2 l3 : Int} {v4 v5 : AV} {μ : Mem} {Q : AV → Mem → Prop} (h : if l3 < μ 61 2 then (wb l3 27 (wb l3 6 (wb (iw ((iw (5 * l3)) + 2)) 30 (wb (μ 63 (iw ((iw (5 * l3)) + 2)).toNat) 5 (if μ 62 (μ 63 (iw ((iw (5 * l3)) + 2)).toNat).toNat = 1 then (wb l3 27 (if μ 67 l3.toNat = l3 then (DW (d + 2) 164 12 [xR 61, xI l1, xI l2, xI (iw (l3 + 1)), v4, v5] (xset μ 71 l3.toNat (μ 67 l3.toNat)) Q) else (Q (xI (-1)) (xset μ 71 l3.toNat (μ 67 l3.toNat))))) else (DW (d + 2) 164 12 [xR 61, xI l1, xI l2, xI (iw (l3 + 1)), v4, v5] (xset μ 71 l3.toNat (μ 67 l3.toNat)) Q)))))) else (DW (d + 2) 164 40 [xR 61, xI l1, xI l2, xI l3, v4, v5] μ Q)) : DW (d + 2) 164 12 [xR 61, xI l1, xI l2, xI l3, v4, v5] μ Q :=
  DW_wp (n := 400) (Nat.le_of_ble_eq_true rfl) h
set_option maxRecDepth 20000 in
theorem sg_M_mend_40 {d : Nat} {l1 l2 : Int} {v3 v4 v5 : AV} {μ : Mem} {Q : AV → Mem → Prop} (h : DW (d + 2) 164 45 [xR 61, xI l1, xI l2, xI 0, xI 0, v5] μ Q) : DW (d + 2) 164 40 [xR 61, xI l1, xI l2, v3, v4, v5] μ Q :=
  DW_wp (n := 400) (Nat.le_of_ble_eq_true rfl) h
set_option maxRecDepth 20000 in
theorem sg_M_mend_45 {d : Nat} {l1 l2 l3 l4 : Int} {v5 : AV} {μ : Mem} {Q : AV → Mem → Prop} (h : if l4 < μ 61 2 then (wb l4 6 (if μ 71 l4.toNat = l4 then (DW (d + 2) 164 45 [xR 61, xI l1, xI l2, xI l3, xI (iw (l4 + 1)), v5] μ Q) else (DW (d + 2) 164 60 [xR 61, xI l1, xI l2, xI l3, xI l4, xI (iw (l4 + 1))] μ Q))) else (DW (d + 2) 164 95 [xR 61, xI l1, xI l2, xI l3, xI l4, v5] μ Q)) : DW (d + 2) 164 45 [xR 61, xI l1, xI l2, xI l3, xI l4, v5] μ Q :=
  DW_wp (n := 400) (Nat.le_of_ble_eq_true rfl) h
set_option maxRecDepth 20000 in
theorem sg_M_mend_60 {d : Nat} {l1 l2 l3 l4 l5 : Int} {μ : Mem} {Q : AV → Mem → Prop} (h : wb l5 6 (if μ 71 l5.toNat = l4 then (DW (d + 2) 164 69 [xR 61, xI l1, xI l2, xI l3, xI l4, xI l5] μ Q) else (DW (d + 2) 164 60 [xR 61, xI l1, xI l2, xI l3, xI l4, xI (iw (l5 + 1))] μ Q))) : DW (d + 2) 164 60 [xR 61, xI l1, xI l2, xI l3, xI l4, xI l5] μ Q :=
  DW_wp (n := 400) (Nat.le_of_ble_eq_true rfl) h
set_option maxRecDepth 20000 in
theorem sg_M_mend_69 {d : Nat} {l1 l2 l3 l4 l5 : Int} {μ : Mem} {Q : AV → Mem → Prop} (h : if l3 = l1 then (if l2 = 0 then (Q (xI l4) μ) else (Q (xI l5) μ)) else (wb l4 6 (wb l5 6 (wb l4 6 (DW (d + 2) 164 45 [xR 61, xI l1, xI l2, xI (iw (l3 + 1)), xI (iw (l4 + 1)), xI l5] (xset (xset μ 71 l5.toNat (μ 71 l4.toNat)) 71 l4.toNat l4) Q))))) : DW (d + 2) 164 69 [xR 61, xI l1, xI l2, xI l3, xI l4, xI l5] μ Q :=
  DW_wp (n := 400) (Nat.le_of_ble_eq_true rfl) h
set_option maxRecDepth 20000 in
theorem sg_M_mend_95 {d : Nat} {l1 l3 : Int} {v0 v2 v4 v5 : AV} {μ : Mem} {Q : AV → Mem → Prop} (h : if l1 = (-1) then (Q (xI l3) μ) else (Q (xI (-1)) μ)) : DW (d + 2) 164 95 [v0, xI l1, v2, xI l3, v4, v5] μ Q :=
  DW_wp (n := 400) (Nat.le_of_ble_eq_true rfl) h
set_option maxRecDepth 20000 in
theorem ge_M_show {d : Nat} {p1 : Int} {μ : Mem} {Q : AV → Mem → Prop} (h : if p1 < 0 then (Q (xI (-2)) μ) else (if iw ((μ 61 0) - 1) < p1 then (Q (xI (-2)) μ) else (DW (d + 3) 165 10 [xR 61, xI p1, xI 0, xI 0] μ Q))) : GM (d + 3) 165 [xR 61, xI p1] μ Q :=
  GM_wp (n := 400) (Nat.le_of_ble_eq_true rfl) (Nat.le_of_ble_eq_true rfl) rfl h
set_option maxRecDepth 20000 in
theorem sg_M_show_10 {d : Nat} {l1 l2 l3 : Int} {μ : Mem} {Q : AV → Mem → Prop} (h : if l3 < μ 61 2 then (wb (iw ((iw (5 * l3)) + 2)) 30 (if μ 63 (iw ((iw (5 * l3)) + 2)).toNat = l1 then (wb l3 27 (wb (iw ((iw (5 * l3)) + 3)) 30 (GM (d + 2) 153 [xR 61, xI (μ 67 l3.toNat), xI l3, xI (μ 63 (iw ((iw (5 * l3)) + 3)).toNat)] μ (gI (fun r2 m1 => if r2 = 0 then (DW (d + 3) 165 10 [xR 61, xI l1, xI (iw (l2 + 0)), xI (iw (l3 + 1))] m1 Q) else (DW (d + 3) 165 10 [xR 61, xI l1, xI (iw (l2 + 1)), xI (iw (l3 + 1))] m1 Q)))))) else (DW (d + 3) 165 10 [xR 61, xI l1, xI (iw (l2 + 0)), xI (iw (l3 + 1))] μ Q))) else (Q (xI l2) μ)) : DW (d + 3) 165 10 [xR 61, xI l1, xI l2, xI l3] μ Q :=
  DW_wp (n := 400) (Nat.le_of_ble_eq_true rfl) h
set_option maxRecDepth 20000 in
theorem ge_M_plan {d : Nat} {p1 : Int} {μ : Mem} {Q : AV → Mem → Prop} (h : if p1 < 0 then (Q (xI (-3)) μ) else (if 1 < p1 then (Q (xI (-3)) μ) else (GM (d + 4) 167 [xR 61] μ (gV (fun m1 => GM (d + 4) 174 [xR 61] m1 (gV (fun m2 => GM (d + 4) 173 [xR 61] m2 (gI (fun r4 m3 => wb (iw ((iw (720 * (m2 67 24))) + r4)) 5040 (if p1 = 0 then (Q (xI (xdiv (iw ((m3 73 (iw ((iw (720 * (m2 67 24))) + r4)).toNat) + 99)) 100)) m3) else (Q (xI (iw ((iw (100 * (xdiv (iw ((m3 73 (iw ((iw (720 * (m2 67 24))) + r4)).toNat) + 99)) 100))) - (m3 73 (iw ((iw (720 * (m2 67 24))) + r4)).toNat)))) m3))))))))))) : GM (d + 5) 166 [xR 61, xI p1] μ Q :=
  GM_wp (n := 400) (Nat.le_of_ble_eq_true rfl) (Nat.le_of_ble_eq_true rfl) rfl h
set_option maxRecDepth 20000 in
theorem ge_M_layPlan {d : Nat} {μ : Mem} {Q : AV → Mem → Prop} (h : DW (d + 4) 167 3 [xR 61, xI (μ 61 4), xL 0, xL 0, xL 0, xL 0, xL 0] μ Q) : GM (d + 4) 167 [xR 61] μ Q :=
  GM_wp (n := 400) (Nat.le_of_ble_eq_true rfl) (Nat.le_of_ble_eq_true rfl) rfl h
set_option maxRecDepth 20000 in
theorem sg_M_layPlan_3 {d : Nat} {l1 : Int} {v2 v3 v4 v5 v6 : AV} {μ : Mem} {Q : AV → Mem → Prop} (h : if l1 < μ 67 24 then (Q (xI 0) μ) else (DW (d + 4) 167 12 [xR 61, xI l1, xI 0, v3, v4, v5, v6] μ Q)) : DW (d + 4) 167 3 [xR 61, xI l1, v2, v3, v4, v5, v6] μ Q :=
  DW_wp (n := 400) (Nat.le_of_ble_eq_true rfl) h
set_option maxRecDepth 20000 in
theorem sg_M_layPlan_12 {d : Nat} {l1 l2 : Int} {v3 v4 v5 v6 : AV} {μ : Mem} {Q : AV → Mem → Prop} (h : GM (d + 3) 168 [xR 61] μ (gI (fun r2 m1 => if l2 < r2 then (GM (d + 3) 169 [xR 61, xI l2] m1 (gV (fun m3 => GM (d + 3) 170 [xR 61] m3 (gI (fun r5 m4 => if r5 = 0 then (DW (d + 4) 167 114 [xR 61, xI l1, xI l2, xI (-1000), v4, v5, v6] m4 Q) else (if l1 = m4 61 4 then (DW (d + 4) 167 34 [xR 61, xI l1, xI l2, xI 0, xI 0, v5, v6] m4 Q) else (wb (iw ((iw (720 * (iw (l1 + 1)))) + l2)) 5040 (DW (d + 4) 167 74 [xR 61, xI l1, xI l2, xI (m4 73 (iw ((iw (720 * (iw (l1 + 1)))) + l2)).toNat), xI 0, v5, v6] m4 Q)))))))) else (DW (d + 4) 167 126 [xR 61, xI l1, xI l2, v3, v4, v5, v6] m1 Q)))) : DW (d + 4) 167 12 [xR 61, xI l1, xI l2, v3, v4, v5, v6] μ Q :=
  DW_wp (n := 400) (Nat.le_of_ble_eq_true rfl) h
set_option maxRecDepth 20000 in
theorem sg_M_layPlan_34 {d : Nat} {l1 l2 l3 l4 : Int} {v5 v6 : AV} {μ : Mem} {Q : AV → Mem → Prop} (h : if l4 < μ 61 2 then (wb (iw ((iw (5 * l4)) + 2)) 30 (wb (μ 63 (iw ((iw (5 * l4)) + 2)).toNat) 5 (if μ 62 (μ 63 (iw ((iw (5 * l4)) + 2)).toNat).toNat = 3 then (wb l4 6 (wb (iw (5 * (μ 71 l4.toNat))) 30 (if 0 < μ 63 (iw (5 * (μ 71 l4.toNat))).toNat then (DW (d + 4) 167 34 [xR 61, xI l1, xI l2, xI (iw (l3 + 100)), xI (iw (l4 + 1)), v5, v6] μ Q) else (DW (d + 4) 167 34 [xR 61, xI l1, xI l2, xI (iw (l3 + 0)), xI (iw (l4 + 1)), v5, v6] μ Q)))) else (DW (d + 4) 167 34 [xR 61, xI l1, xI l2, xI (iw (l3 + 0)), xI (iw (l4 + 1)), v5, v6] μ Q)))) else (DW (d + 4) 167 59 [xR 61, xI l1, xI l2, xI l3, xI l4, v5, v6] μ Q)) : DW (d + 4) 167 34 [xR 61, xI l1, xI l2, xI l3, xI l4, v5, v6] μ Q :=
  DW_wp (n := 400) (Nat.le_of_ble_eq_true rfl) h
set_option maxRecDepth 20000 in
theorem sg_M_layPlan_59 {d : Nat} {l1 l2 l3 : Int} {v4 v5 v6 : AV} {μ : Mem} {Q : AV → Mem → Prop} (h : DW (d + 4) 167 114 [xR 61, xI l1, xI l2, xI l3, v4, v5, v6] μ Q) : DW (d + 4) 167 59 [xR 61, xI l1, xI l2, xI l3, v4, v5, v6] μ Q :=
  DW_wp (n := 400) (Nat.le_of_ble_eq_true rfl) h
set_option maxRecDepth 20000 in
theorem sg_M_layPlan_74 {d : Nat} {l1 l2 l3 l4 : Int} {v5 v6 : AV} {μ : Mem} {Q : AV → Mem → Prop} (h : if l4 < μ 61 2 then (DW (d + 4) 167 83 [xR 61, xI l1, xI l2, xI l3, xI l4, xI (iw (l4 + 1)), v6] μ Q) else (DW (d + 4) 167 114 [xR 61, xI l1, xI l2, xI l3, xI l4, v5, v6] μ Q)) : DW (d + 4) 167 74 [xR 61, xI l1, xI l2, xI l3, xI l4, v5, v6] μ Q :=
  DW_wp (n := 400) (Nat.le_of_ble_eq_true rfl) h
set_option maxRecDepth 20000 in
theorem sg_M_layPlan_83 {d : Nat} {l1 l2 l3 l4 l5 : Int} {v6 : AV} {μ : Mem} {Q : AV → Mem → Prop} (h : if l5 < μ 61 2 then (GM (d + 3) 157 [xR 61, xI l1, xI l4, xI l5] μ (gI (fun r2 m1 => if r2 = 0 then (if l3 < (-1000) then (DW (d + 4) 167 83 [xR 61, xI l1, xI l2, xI (-1000), xI l4, xI (iw (l5 + 1)), xI (-1000)] m1 Q) else (DW (d + 4) 167 83 [xR 61, xI l1, xI l2, xI l3, xI l4, xI (iw (l5 + 1)), xI (-1000)] m1 Q)) else (GM (d + 3) 171 [xR 61, xI l1, xI l4, xI l5] m1 (gI (fun r4 m3 => if l3 < r4 then (DW (d + 4) 167 83 [xR 61, xI l1, xI l2, xI r4, xI l4, xI (iw (l5 + 1)), xI r4] m3 Q) else (DW (d + 4) 167 83 [xR 61, xI l1, xI l2, xI l3, xI l4, xI (iw (l5 + 1)), xI r4] m3 Q))))))) else (DW (d + 4) 167 111 [xR 61, xI l1, xI l2, xI l3, xI l4, xI l5, v6] μ Q)) : DW (d + 4) 167 83 [xR 61, xI l1, xI l2, xI l3, xI l4, xI l5, v6] μ Q :=
  DW_wp (n := 400) (Nat.le_of_ble_eq_true rfl) h
set_option maxRecDepth 20000 in
theorem sg_M_layPlan_111 {d : Nat} {l1 l2 l3 l4 : Int} {v5 v6 : AV} {μ : Mem} {Q : AV → Mem → Prop} (h : DW (d + 4) 167 74 [xR 61, xI l1, xI l2, xI l3, xI (iw (l4 + 1)), v5, v6] μ Q) : DW (d + 4) 167 111 [xR 61, xI l1, xI l2, xI l3, xI l4, v5, v6] μ Q :=
  DW_wp (n := 400) (Nat.le_of_ble_eq_true rfl) h
set_option maxRecDepth 20000 in
theorem sg_M_layPlan_114 {d : Nat} {l1 l2 l3 : Int} {v4 v5 v6 : AV} {μ : Mem} {Q : AV → Mem → Prop} (h : wb (iw ((iw (720 * l1)) + l2)) 5040 (DW (d + 4) 167 12 [xR 61, xI l1, xI (iw (l2 + 1)), xI l3, v4, v5, v6] (xset μ 73 ((iw ((iw (720 * l1)) + l2)).toNat) l3) Q)) : DW (d + 4) 167 114 [xR 61, xI l1, xI l2, xI l3, v4, v5, v6] μ Q :=
  DW_wp (n := 400) (Nat.le_of_ble_eq_true rfl) h
set_option maxRecDepth 20000 in
theorem sg_M_layPlan_126 {d : Nat} {l1 : Int} {v2 v3 v4 v5 v6 : AV} {μ : Mem} {Q : AV → Mem → Prop} (h : DW (d + 4) 167 3 [xR 61, xI (iw (l1 + (-1))), v2, v3, v4, v5, v6] μ Q) : DW (d + 4) 167 126 [xR 61, xI l1, v2, v3, v4, v5, v6] μ Q :=
  DW_wp (n := 400) (Nat.le_of_ble_eq_true rfl) h
set_option maxRecDepth 20000 in
theorem ge_M_rowMany {d : Nat} {μ : Mem} {Q : AV → Mem → Prop} (h : DW d 168 4 [xR 61, xI 1, xI 2] μ Q) : GM d 168 [xR 61] μ Q :=
  GM_wp (n := 400) (Nat.le_of_ble_eq_true rfl) (Nat.le_of_ble_eq_true rfl) rfl h
set_option maxRecDepth 20000 in
theorem sg_M_rowMany_4 {d : Nat} {l1 l2 : Int} {μ : Mem} {Q : AV → Mem → Prop} (h : if μ 61 2 < l2 then (Q (xI l1) μ) else (DW d 168 4 [xR 61, xI (iw (l1 * l2)), xI (iw (l2 + 1))] μ Q)) : DW d 168 4 [xR 61, xI l1, xI l2] μ Q :=
  DW_wp (n := 400) (Nat.le_of_ble_eq_true rfl) h
set_option maxRecDepth 20000 in
theorem ge_M_lay {d : Nat} {p1 : Int} {μ : Mem} {Q : AV → Mem → Prop} (h : GM d 168 [xR 61] μ (gI (fun r2 m1 => DW (d + 1) 169 9 [xR 61, xI p1, xI p1, xI 0, xI r2, xI 0, xL 0, xL 0] m1 Q))) : GM (d + 1) 169 [xR 61, xI p1] μ Q :=
  GM_wp (n := 400) (Nat.le_of_ble_eq_true rfl) (Nat.le_of_ble_eq_true rfl) rfl h
set_option maxRecDepth 20000 in
theorem sg_M_lay_9 {d : Nat} {l2 l3 l4 l5 : Int} {v1 v6 v7 : AV} {μ : Mem} {Q : AV → Mem → Prop} (h : if l5 < μ 61 2 then (wz (iw ((μ 61 2) - l5)) (wz (xdiv l4 (iw ((μ 61 2) - l5))) (wz (xdiv l4 (iw ((μ 61 2) - l5))) (DW (d + 1) 169 31 [xR 61, v1, xI (xrem l2 (xdiv l4 (iw ((μ 61 2) - l5)))), xI l3, xI (xdiv l4 (iw ((μ 61 2) - l5))), xI l5, xI (xdiv l2 (xdiv l4 (iw ((μ 61 2) - l5)))), xI 0] μ Q)))) else (Q (xI 0) μ)) : DW (d + 1) 169 9 [xR 61, v1, xI l2, xI l3, xI l4, xI l5, v6, v7] μ Q :=
  DW_wp (n := 400) (Nat.le_of_ble_eq_true rfl) h
set_option maxRecDepth 20000 in
theorem sg_M_lay_31 {d : Nat} {l2 l3 l4 l5 l6 l7 : Int} {v1 : AV} {μ : Mem} {Q : AV → Mem → Prop} (h : if xand (xshr l3 l7) 1 = 1 then (if xand (xshr l3 l7) 1 = 1 then (DW (d + 1) 169 31 [xR 61, v1, xI l2, xI l3, xI l4, xI l5, xI (iw (l6 - 0)), xI (iw (l7 + 1))] μ Q) else (DW (d + 1) 169 31 [xR 61, v1, xI l2, xI l3, xI l4, xI l5, xI (iw (l6 - 1)), xI (iw (l7 + 1))] μ Q)) else (if 0 < l6 then (if xand (xshr l3 l7) 1 = 1 then (DW (d + 1) 169 31 [xR 61, v1, xI l2, xI l3, xI l4, xI l5, xI (iw (l6 - 0)), xI (iw (l7 + 1))] μ Q) else (DW (d + 1) 169 31 [xR 61, v1, xI l2, xI l3, xI l4, xI l5, xI (iw (l6 - 1)), xI (iw (l7 + 1))] μ Q)) else (DW (d + 1) 169 50 [xR 61, v1, xI l2, xI l3, xI l4, xI l5, xI l6, xI l7] μ Q))) : DW (d + 1) 169 31 [xR 61, v1, xI l2, xI l3, xI l4, xI l5, xI l6, xI l7] μ Q :=
  DW_wp (n := 400) (Nat.le_of_ble_eq_true rfl) h
set_option maxRecDepth 20000 in
theorem sg_M_lay_50 {d : Nat} {l2 l3 l4 l5 l7 : Int} {v1 v6 : AV} {μ : Mem} {Q : AV → Mem → Prop} (h : wb l5 6 (DW (d + 1) 169 9 [xR 61, v1, xI l2, xI (xior l3 (xshl 1 l7)), xI l4, xI (iw (l5 + 1)), v6, xI l7] (xset μ 71 l5.toNat l7) Q)) : DW (d + 1) 169 50 [xR 61, v1, xI l2, xI l3, xI l4, xI l5, v6, xI l7] μ Q :=
  DW_wp (n := 400) (Nat.le_of_ble_eq_true rfl) h
set_option maxRecDepth 20000 in
theorem ge_M_isLawful {d : Nat} {μ : Mem} {Q : AV → Mem → Prop} (h : DW (d + 1) 170 4 [xR 61, xI 1, xI 0] μ Q) : GM (d + 1) 170 [xR 61] μ Q :=
  GM_wp (n := 400) (Nat.le_of_ble_eq_true rfl) (Nat.le_of_ble_eq_true rfl) rfl h
set_option maxRecDepth 20000 in
theorem sg_M_isLawful_4 {d : Nat} {l1 l2 : Int} {μ : Mem} {Q : AV → Mem → Prop} (h : if l2 < μ 61 2 then (if l1 = 0 then (DW (d + 1) 170 4 [xR 61, xI 0, xI (iw (l2 + 1))] μ Q) else (wb (iw ((iw (5 * l2)) + 1)) 30 (wb l2 6 (wb (iw ((iw (5 * (μ 71 l2.toNat))) + 1)) 30 (if μ 63 (iw ((iw (5 * l2)) + 1)).toNat = μ 63 (iw ((iw (5 * (μ 71 l2.toNat))) + 1)).toNat then (DW (d + 1) 170 4 [xR 61, xI 1, xI (iw (l2 + 1))] μ Q) else (DW (d + 1) 170 4 [xR 61, xI 0, xI (iw (l2 + 1))] μ Q)))))) else (wb l1 2 (Q (xI l1) μ))) : DW (d + 1) 170 4 [xR 61, xI l1, xI l2] μ Q :=
  DW_wp (n := 400) (Nat.le_of_ble_eq_true rfl) h
set_option maxRecDepth 20000 in
theorem ge_M_by {d : Nat} {p1 p2 p3 : Int} {μ : Mem} {Q : AV → Mem → Prop} (h : wb p2 6 (wb p3 6 (wb p2 6 (wb p3 6 (GM (d + 1) 173 [xR 61] (xset (xset μ 71 p2.toNat (μ 71 p3.toNat)) 71 p3.toNat (μ 71 p2.toNat)) (gI (fun r2 m1 => wb (iw ((iw (720 * (iw (p1 + 1)))) + r2)) 5040 (wb p2 6 (wb p3 6 (wb p2 6 (wb p3 6 (Q (xI (iw ((m1 73 (iw ((iw (720 * (iw (p1 + 1)))) + r2)).toNat) - 1))) (xset (xset m1 71 p2.toNat (m1 71 p3.toNat)) 71 p3.toNat (m1 71 p2.toNat)))))))))))))) : GM (d + 2) 171 [xR 61, xI p1, xI p2, xI p3] μ Q :=
  GM_wp (n := 400) (Nat.le_of_ble_eq_true rfl) (Nat.le_of_ble_eq_true rfl) rfl h
set_option maxRecDepth 20000 in
theorem ge_M_rowOf {d : Nat} {μ : Mem} {Q : AV → Mem → Prop} (h : DW (d + 1) 173 6 [xR 61, xI 0, xI 0, xI 0, xL 0, xL 0] μ Q) : GM (d + 1) 173 [xR 61] μ Q :=
  GM_wp (n := 400) (Nat.le_of_ble_eq_true rfl) (Nat.le_of_ble_eq_true rfl) rfl h
set_option maxRecDepth 20000 in
theorem sg_M_rowOf_6 {d : Nat} {l1 l2 l3 : Int} {v4 v5 : AV} {μ : Mem} {Q : AV → Mem → Prop} (h : if l3 < μ 61 2 then (DW (d + 1) 173 15 [xR 61, xI l1, xI l2, xI l3, xI 0, xI 0] μ Q) else (Q (xI l1) μ)) : DW (d + 1) 173 6 [xR 61, xI l1, xI l2, xI l3, v4, v5] μ Q :=
  DW_wp (n := 400) (Nat.le_of_ble_eq_true rfl) h
set_option maxRecDepth 20000 in
theorem sg_M_rowOf_15 {d : Nat} {l1 l2 l3 l4 l5 : Int} {μ : Mem} {Q : AV → Mem → Prop} (h : wb l3 6 (if l5 < μ 71 l3.toNat then (if xand (xshr l2 l5) 1 = 1 then (DW (d + 1) 173 15 [xR 61, xI l1, xI l2, xI l3, xI (iw (l4 + 0)), xI (iw (l5 + 1))] μ Q) else (DW (d + 1) 173 15 [xR 61, xI l1, xI l2, xI l3, xI (iw (l4 + 1)), xI (iw (l5 + 1))] μ Q)) else (DW (d + 1) 173 34 [xR 61, xI l1, xI l2, xI l3, xI l4, xI l5] μ Q))) : DW (d + 1) 173 15 [xR 61, xI l1, xI l2, xI l3, xI l4, xI l5] μ Q :=
  DW_wp (n := 400) (Nat.le_of_ble_eq_true rfl) h
set_option maxRecDepth 20000 in
theorem sg_M_rowOf_34 {d : Nat} {l1 l2 l3 l4 : Int} {v5 : AV} {μ : Mem} {Q : AV → Mem → Prop} (h : wb l3 6 (DW (d + 1) 173 6 [xR 61, xI (iw ((iw (l1 * (iw ((μ 61 2) - l3)))) + l4)), xI (xior l2 (xshl 1 (μ 71 l3.toNat))), xI (iw (l3 + 1)), xI l4, v5] μ Q)) : DW (d + 1) 173 34 [xR 61, xI l1, xI l2, xI l3, xI l4, v5] μ Q :=
  DW_wp (n := 400) (Nat.le_of_ble_eq_true rfl) h
set_option maxRecDepth 20000 in
theorem ge_M_layNow {d : Nat} {μ : Mem} {Q : AV → Mem → Prop} (h : DW d 174 2 [xR 61, xI 0] μ Q) : GM d 174 [xR 61] μ Q :=
  GM_wp (n := 400) (Nat.le_of_ble_eq_true rfl) (Nat.le_of_ble_eq_true rfl) rfl h
set_option maxRecDepth 20000 in
theorem sg_M_layNow_2 {d : Nat} {l1 : Int} {μ : Mem} {Q : AV → Mem → Prop} (h : if l1 < μ 61 2 then (wb l1 27 (wb l1 6 (DW d 174 2 [xR 61, xI (iw (l1 + 1))] (xset μ 71 l1.toNat (μ 67 l1.toNat)) Q))) else (Q (xI 0) μ)) : DW d 174 2 [xR 61, xI l1] μ Q :=
  DW_wp (n := 400) (Nat.le_of_ble_eq_true rfl) h
set_option maxRecDepth 20000 in
theorem ge_M_planned {d : Nat} {p1 p2 : Int} {μ : Mem} {Q : AV → Mem → Prop} (h : if p1 < μ 67 24 then (Q (xI (-2)) μ) else (if iw ((μ 61 4) - 1) < p1 then (Q (xI (-2)) μ) else (if p2 < 0 then (Q (xI (-3)) μ) else (if 1 < p2 then (Q (xI (-3)) μ) else (GM (d + 4) 167 [xR 61] μ (gV (fun m1 => GM (d + 4) 174 [xR 61] m1 (gV (fun m2 => DW (d + 5) 175 33 [xR 61, xI p1, xI p2, xI (-1), xI (-1), xI (m2 67 24), xL 0, xL 0, xL 0, xL 0] m2 Q))))))))) : GM (d + 5) 175 [xR 61, xI p1, xI p2] μ Q :=
  GM_wp (n := 400) (Nat.le_of_ble_eq_true rfl) (Nat.le_of_ble_eq_true rfl) rfl h
set_option maxRecDepth 20000 in
theorem sg_M_planned_33 {d : Nat} {l1 l2 l3 l4 l5 : Int} {v6 v7 v8 v9 : AV} {μ : Mem} {Q : AV → Mem → Prop} (h : if l1 < l5 then (DW (d + 5) 175 122 [xR 61, xI l1, xI l2, xI l3, xI l4, xI l5, v6, v7, v8, v9] μ Q) else (GM (d + 4) 173 [xR 61] μ (gI (fun r2 m1 => wb (iw ((iw (720 * l5)) + r2)) 5040 (GM (d + 4) 173 [xR 61] m1 (gI (fun r4 m3 => wb (iw ((iw (720 * (iw (l5 + 1)))) + r4)) 5040 (if m3 73 (iw ((iw (720 * (iw (l5 + 1)))) + r4)).toNat = m1 73 (iw ((iw (720 * l5)) + r2)).toNat then (DW (d + 5) 175 70 [xR 61, xI l1, xI l2, xI (-1), xI (-1), xI l5, xI (m1 73 (iw ((iw (720 * l5)) + r2)).toNat), xI 1, xI 0, v9] m3 Q) else (DW (d + 5) 175 70 [xR 61, xI l1, xI l2, xI (-1), xI (-1), xI l5, xI (m1 73 (iw ((iw (720 * l5)) + r2)).toNat), xI 0, xI 0, v9] m3 Q))))))))) : DW (d + 5) 175 33 [xR 61, xI l1, xI l2, xI l3, xI l4, xI l5, v6, v7, v8, v9] μ Q :=
  DW_wp (n := 400) (Nat.le_of_ble_eq_true rfl) h
set_option maxRecDepth 20000 in
theorem sg_M_planned_70 {d : Nat} {l1 l2 l3 l4 l5 l6 l7 l8 : Int} {v9 : AV} {μ : Mem} {Q : AV → Mem → Prop} (h : if l8 < μ 61 2 then (if l7 = 0 then (DW (d + 5) 175 81 [xR 61, xI l1, xI l2, xI l3, xI l4, xI l5, xI l6, xI l7, xI l8, xI (iw (l8 + 1))] μ Q) else (DW (d + 5) 175 112 [xR 61, xI l1, xI l2, xI l3, xI l4, xI l5, xI l6, xI l7, xI l8, v9] μ Q)) else (DW (d + 5) 175 112 [xR 61, xI l1, xI l2, xI l3, xI l4, xI l5, xI l6, xI l7, xI l8, v9] μ Q)) : DW (d + 5) 175 70 [xR 61, xI l1, xI l2, xI l3, xI l4, xI l5, xI l6, xI l7, xI l8, v9] μ Q :=
  DW_wp (n := 400) (Nat.le_of_ble_eq_true rfl) h
set_option maxRecDepth 20000 in
theorem sg_M_planned_81 {d : Nat} {l1 l2 l3 l4 l5 l6 l7 l8 l9 : Int} {μ : Mem} {Q : AV → Mem → Prop} (h : if l9 < μ 61 2 then (if l7 = 0 then (GM (d + 4) 157 [xR 61, xI l5, xI l8, xI l9] μ (gI (fun r2 m1 => if r2 = 0 then (DW (d + 5) 175 81 [xR 61, xI l1, xI l2, xI l3, xI l4, xI l5, xI l6, xI l7, xI l8, xI (iw (l9 + 1))] m1 Q) else (GM (d + 4) 171 [xR 61, xI l5, xI l8, xI l9] m1 (gI (fun r4 m3 => if r4 = l6 then (DW (d + 5) 175 81 [xR 61, xI l1, xI l2, xI l8, xI l9, xI l5, xI l6, xI 1, xI l8, xI (iw (l9 + 1))] m3 Q) else (DW (d + 5) 175 81 [xR 61, xI l1, xI l2, xI l3, xI l4, xI l5, xI l6, xI l7, xI l8, xI (iw (l9 + 1))] m3 Q))))))) else (DW (d + 5) 175 109 [xR 61, xI l1, xI l2, xI l3, xI l4, xI l5, xI l6, xI l7, xI l8, xI l9] μ Q)) else (DW (d + 5) 175 109 [xR 61, xI l1, xI l2, xI l3, xI l4, xI l5, xI l6, xI l7, xI l8, xI l9] μ Q)) : DW (d + 5) 175 81 [xR 61, xI l1, xI l2, xI l3, xI l4, xI l5, xI l6, xI l7, xI l8, xI l9] μ Q :=
  DW_wp (n := 400) (Nat.le_of_ble_eq_true rfl) h
set_option maxRecDepth 20000 in
theorem sg_M_planned_109 {d : Nat} {l1 l2 l3 l4 l5 l6 l7 l8 : Int} {v9 : AV} {μ : Mem} {Q : AV → Mem → Prop} (h : DW (d + 5) 175 70 [xR 61, xI l1, xI l2, xI l3, xI l4, xI l5, xI l6, xI l7, xI (iw (l8 + 1)), v9] μ Q) : DW (d + 5) 175 109 [xR 61, xI l1, xI l2, xI l3, xI l4, xI l5, xI l6, xI l7, xI l8, v9] μ Q :=
  DW_wp (n := 400) (Nat.le_of_ble_eq_true rfl) h
set_option maxRecDepth 20000 in
theorem sg_M_planned_112 {d : Nat} {l1 l2 l3 l4 l5 : Int} {v6 v7 v8 v9 : AV} {μ : Mem} {Q : AV → Mem → Prop} (h : if l3 = (-1) then (DW (d + 5) 175 33 [xR 61, xI l1, xI l2, xI l3, xI l4, xI (iw (l5 + 1)), v6, v7, v8, v9] μ Q) else (wb l3 6 (wb l4 6 (wb l3 6 (wb l4 6 (DW (d + 5) 175 33 [xR 61, xI l1, xI l2, xI l3, xI l4, xI (iw (l5 + 1)), v6, v7, v8, v9] (xset (xset μ 71 l3.toNat (μ 71 l4.toNat)) 71 l4.toNat (μ 71 l3.toNat)) Q)))))) : DW (d + 5) 175 112 [xR 61, xI l1, xI l2, xI l3, xI l4, xI l5, v6, v7, v8, v9] μ Q :=
  DW_wp (n := 400) (Nat.le_of_ble_eq_true rfl) h
set_option maxRecDepth 20000 in
theorem sg_M_planned_122 {d : Nat} {l2 l3 l4 : Int} {v0 v1 v5 v6 v7 v8 v9 : AV} {μ : Mem} {Q : AV → Mem → Prop} (h : if l2 = 0 then (Q (xI l3) μ) else (Q (xI l4) μ)) : DW (d + 5) 175 122 [v0, v1, xI l2, xI l3, xI l4, v5, v6, v7, v8, v9] μ Q :=
  DW_wp (n := 400) (Nat.le_of_ble_eq_true rfl) h
set_option maxRecDepth 20000 in
theorem ge_M_seen {d : Nat} {p1 p2 p3 : Int} {μ : Mem} {Q : AV → Mem → Prop} (h : if p1 < 0 then (Q (xI (-2)) μ) else (if iw ((μ 61 2) - 1) < p1 then (Q (xI (-2)) μ) else (if p2 < 0 then (Q (xI (-3)) μ) else (if 3 < p2 then (Q (xI (-3)) μ) else (if p3 < 0 then (Q (xI (-3)) μ) else (if 1 < p3 then (Q (xI (-3)) μ) else (if μ 61 22 = 10 then (Q (xI (-5)) μ) else (wb (iw (3 * (μ 61 22))) 30 (wb (iw ((iw (3 * (μ 61 22))) + 1)) 30 (wb (iw ((iw (3 * (μ 61 22))) + 2)) 30 (Q (xI (iw ((μ 61 22) + 1))) (xset (xset (xset (xset μ 70 ((iw (3 * (μ 61 22))).toNat) p1) 70 ((iw ((iw (3 * (μ 61 22))) + 1)).toNat) p2) 70 ((iw ((iw (3 * (μ 61 22))) + 2)).toNat) p3) 61 22 (iw ((μ 61 22) + 1)))))))))))))) : GM (d + 2) 176 [xR 61, xI p1, xI p2, xI p3] μ Q :=
  GM_wp (n := 400) (Nat.le_of_ble_eq_true rfl) (Nat.le_of_ble_eq_true rfl) rfl h
set_option maxRecDepth 20000 in
theorem ge_M_forget {d : Nat} {μ : Mem} {Q : AV → Mem → Prop} (h : Q (xI (μ 61 22)) (xset μ 61 22 0)) : GM d 177 [xR 61] μ Q :=
  GM_wp (n := 400) (Nat.le_of_ble_eq_true rfl) (Nat.le_of_ble_eq_true rfl) rfl h
set_option maxRecDepth 20000 in
theorem ge_M_fit {d : Nat} {μ : Mem} {Q : AV → Mem → Prop} (h : GM (d + 4) 179 [xR 61] μ (gV (fun m1 => Q (xI (m1 61 26)) m1))) : GM (d + 5) 178 [xR 61] μ Q :=
  GM_wp (n := 400) (Nat.le_of_ble_eq_true rfl) (Nat.le_of_ble_eq_true rfl) rfl h
set_option maxRecDepth 20000 in
theorem ge_M_layFitting {d : Nat} {μ : Mem} {Q : AV → Mem → Prop} (h : DW (d + 4) 179 5 [xR 61, xI 0] (xset μ 61 26 0) Q) : GM (d + 4) 179 [xR 61] μ Q :=
  GM_wp (n := 400) (Nat.le_of_ble_eq_true rfl) (Nat.le_of_ble_eq_true rfl) rfl h
set_option maxRecDepth 20000 in
theorem sg_M_layFitting_5 {d : Nat} {l1 : Int} {μ : Mem} {Q : AV → Mem → Prop} (h : GM (d + 3) 168 [xR 61] μ (gI (fun r2 m1 => if l1 < r2 then (GM (d + 3) 169 [xR 61, xI l1] m1 (gV (fun m3 => GM (d + 3) 170 [xR 61] m3 (gI (fun r5 m4 => if r5 = 0 then (DW (d + 4) 179 5 [xR 61, xI (iw (l1 + 1))] m4 Q) else (GM (d + 3) 180 [xR 61] m4 (gI (fun r7 m6 => if r7 = 0 then (DW (d + 4) 179 5 [xR 61, xI (iw (l1 + 1))] m6 Q) else (wb (m6 61 26) 720 (DW (d + 4) 179 5 [xR 61, xI (iw (l1 + 1))] (xset (xset m6 72 ((m6 61 26).toNat) l1) 61 26 (iw ((m6 61 26) + 1))) Q)))))))))) else (Q (xI 0) m1)))) : DW (d + 4) 179 5 [xR 61, xI l1] μ Q :=
  DW_wp (n := 400) (Nat.le_of_ble_eq_true rfl) h
set_option maxRecDepth 20000 in
theorem ge_M_isAsSeen {d : Nat} {μ : Mem} {Q : AV → Mem → Prop} (h : DW (d + 3) 180 4 [xR 61, xI 1, xI 0, xL 0] μ Q) : GM (d + 3) 180 [xR 61] μ Q :=
  GM_wp (n := 400) (Nat.le_of_ble_eq_true rfl) (Nat.le_of_ble_eq_true rfl) rfl h
set_option maxRecDepth 20000 in
theorem sg_M_isAsSeen_4 {d : Nat} {l1 l2 : Int} {v3 : AV} {μ : Mem} {Q : AV → Mem → Prop} (h : if l2 < μ 61 22 then (wb (iw (3 * l2)) 30 (if l1 = 0 then (DW (d + 3) 180 4 [xR 61, xI 0, xI (iw (l2 + 1)), xI (μ 70 (iw (3 * l2)).toNat)] μ Q) else (wb (μ 70 (iw (3 * l2)).toNat) 6 (wb (iw ((iw (3 * l2)) + 1)) 30 (GM (d + 2) 153 [xR 61, xI (μ 71 (μ 70 (iw (3 * l2)).toNat).toNat), xI (μ 70 (iw (3 * l2)).toNat), xI (μ 70 (iw ((iw (3 * l2)) + 1)).toNat)] μ (gI (fun r2 m1 => wb (iw ((iw (3 * l2)) + 2)) 30 (if m1 70 (iw ((iw (3 * l2)) + 2)).toNat = 1 then (if r2 = 1 then (DW (d + 3) 180 4 [xR 61, xI 1, xI (iw (l2 + 1)), xI (μ 70 (iw (3 * l2)).toNat)] m1 Q) else (DW (d + 3) 180 4 [xR 61, xI 0, xI (iw (l2 + 1)), xI (μ 70 (iw (3 * l2)).toNat)] m1 Q)) else (if r2 = 0 then (DW (d + 3) 180 4 [xR 61, xI 1, xI (iw (l2 + 1)), xI (μ 70 (iw (3 * l2)).toNat)] m1 Q) else (DW (d + 3) 180 4 [xR 61, xI 0, xI (iw (l2 + 1)), xI (μ 70 (iw (3 * l2)).toNat)] m1 Q)))))))))) else (wb l1 2 (Q (xI l1) μ))) : DW (d + 3) 180 4 [xR 61, xI l1, xI l2, v3] μ Q :=
  DW_wp (n := 400) (Nat.le_of_ble_eq_true rfl) h
set_option maxRecDepth 20000 in
theorem ge_M_lies {d : Nat} {p1 : Int} {μ : Mem} {Q : AV → Mem → Prop} (h : if p1 < 0 then (Q (xI (-2)) μ) else (if iw ((μ 61 2) - 1) < p1 then (Q (xI (-2)) μ) else (GM (d + 4) 179 [xR 61] μ (gV (fun m1 => GM (d + 4) 182 [xR 61, xI p1] m1 (gI (fun r3 m2 => Q (xI r3) m2))))))) : GM (d + 5) 181 [xR 61, xI p1] μ Q :=
  GM_wp (n := 400) (Nat.le_of_ble_eq_true rfl) (Nat.le_of_ble_eq_true rfl) rfl h
set_option maxRecDepth 20000 in
theorem ge_M_liesIn {d : Nat} {p1 : Int} {μ : Mem} {Q : AV → Mem → Prop} (h : DW (d + 2) 182 4 [xR 61, xI p1, xI 0, xI 0] μ Q) : GM (d + 2) 182 [xR 61, xI p1] μ Q :=
  GM_wp (n := 400) (Nat.le_of_ble_eq_true rfl) (Nat.le_of_ble_eq_true rfl) rfl h
set_option maxRecDepth 20000 in
theorem sg_M_liesIn_4 {d : Nat} {l1 l2 l3 : Int} {μ : Mem} {Q : AV → Mem → Prop} (h : if l3 < μ 61 26 then (wb l3 720 (GM (d + 1) 169 [xR 61, xI (μ 72 l3.toNat)] μ (gV (fun m1 => wb l1 6 (DW (d + 2) 182 4 [xR 61, xI l1, xI (xior l2 (xshl 1 (m1 71 l1.toNat))), xI (iw (l3 + 1))] m1 Q))))) else (Q (xI l2) μ)) : DW (d + 2) 182 4 [xR 61, xI l1, xI l2, xI l3] μ Q :=
  DW_wp (n := 400) (Nat.le_of_ble_eq_true rfl) h
set_option maxRecDepth 20000 in
theorem ge_M_sure {d : Nat} {μ : Mem} {Q : AV → Mem → Prop} (h : GM (d + 4) 179 [xR 61] μ (gV (fun m1 => DW (d + 5) 183 6 [xR 61, xI 0, xI 0, xL 0] m1 Q))) : GM (d + 5) 183 [xR 61] μ Q :=
  GM_wp (n := 400) (Nat.le_of_ble_eq_true rfl) (Nat.le_of_ble_eq_true rfl) rfl h
set_option maxRecDepth 20000 in
theorem sg_M_sure_6 {d : Nat} {l1 l2 : Int} {v3 : AV} {μ : Mem} {Q : AV → Mem → Prop} (h : if l2 < μ 61 2 then (GM (d + 4) 182 [xR 61, xI l2] μ (gI (fun r2 m1 => if r2 = 0 then (DW (d + 5) 183 6 [xR 61, xI (xior l1 0), xI (iw (l2 + 1)), xI r2] m1 Q) else (if xand r2 (iw (r2 - 1)) = 0 then (DW (d + 5) 183 6 [xR 61, xI (xior l1 (xshl 1 l2)), xI (iw (l2 + 1)), xI r2] m1 Q) else (DW (d + 5) 183 6 [xR 61, xI (xior l1 0), xI (iw (l2 + 1)), xI r2] m1 Q))))) else (Q (xI l1) μ)) : DW (d + 5) 183 6 [xR 61, xI l1, xI l2, v3] μ Q :=
  DW_wp (n := 400) (Nat.le_of_ble_eq_true rfl) h
set_option maxRecDepth 20000 in
theorem ge_M_odds {d : Nat} {p1 p2 : Int} {μ : Mem} {Q : AV → Mem → Prop} (h : if p1 < 0 then (Q (xI (-2)) μ) else (if iw ((μ 61 2) - 1) < p1 then (Q (xI (-2)) μ) else (if p2 < 0 then (Q (xI (-3)) μ) else (if 1 < p2 then (Q (xI (-3)) μ) else (GM (d + 4) 179 [xR 61] μ (gV (fun m1 => if m1 61 26 = 0 then (Q (xI (-4)) m1) else (DW (d + 5) 184 24 [xR 61, xI p1, xI p2, xI 0, xI 0, xL 0, xL 0] m1 Q)))))))) : GM (d + 5) 184 [xR 61, xI p1, xI p2] μ Q :=
  GM_wp (n := 400) (Nat.le_of_ble_eq_true rfl) (Nat.le_of_ble_eq_true rfl) rfl h
set_option maxRecDepth 20000 in
theorem sg_M_odds_24 {d : Nat} {l1 l2 l3 l4 : Int} {v5 v6 : AV} {μ : Mem} {Q : AV → Mem → Prop} (h : if l4 < μ 61 26 then (wb l4 720 (GM (d + 4) 169 [xR 61, xI (μ 72 l4.toNat)] μ (gV (fun m1 => wb l1 6 (wb (iw (5 * (m1 71 l1.toNat))) 30 (if 0 < m1 63 (iw (5 * (m1 71 l1.toNat))).toNat then (DW (d + 5) 184 24 [xR 61, xI l1, xI l2, xI (iw (l3 + 1)), xI (iw (l4 + 1)), v5, v6] m1 Q) else (DW (d + 5) 184 24 [xR 61, xI l1, xI l2, xI (iw (l3 + 0)), xI (iw (l4 + 1)), v5, v6] m1 Q))))))) else (DW (d + 5) 184 50 [xR 61, xI l1, xI l2, xI l3, xI l4, v5, v6] μ Q)) : DW (d + 5) 184 24 [xR 61, xI l1, xI l2, xI l3, xI l4, v5, v6] μ Q :=
  DW_wp (n := 400) (Nat.le_of_ble_eq_true rfl) h
set_option maxRecDepth 20000 in
theorem sg_M_odds_50 {d : Nat} {l2 l3 : Int} {v1 v4 v5 v6 : AV} {μ : Mem} {Q : AV → Mem → Prop} (h : DW (d + 5) 184 56 [xR 61, v1, xI l2, xI l3, xI l3, xI (μ 61 26), v6] μ Q) : DW (d + 5) 184 50 [xR 61, v1, xI l2, xI l3, v4, v5, v6] μ Q :=
  DW_wp (n := 400) (Nat.le_of_ble_eq_true rfl) h
set_option maxRecDepth 20000 in
theorem sg_M_odds_56 {d : Nat} {l2 l3 l4 l5 : Int} {v1 v6 : AV} {μ : Mem} {Q : AV → Mem → Prop} (h : if 0 < l5 then (wz l5 (DW (d + 5) 184 56 [xR 61, v1, xI l2, xI l3, xI l5, xI (xrem l4 l5), xI (xrem l4 l5)] μ Q)) else (DW (d + 5) 184 68 [xR 61, v1, xI l2, xI l3, xI l4, xI l5, v6] μ Q)) : DW (d + 5) 184 56 [xR 61, v1, xI l2, xI l3, xI l4, xI l5, v6] μ Q :=
  DW_wp (n := 400) (Nat.le_of_ble_eq_true rfl) h
set_option maxRecDepth 20000 in
theorem sg_M_odds_68 {d : Nat} {l2 l3 l4 : Int} {v1 v5 v6 : AV} {μ : Mem} {Q : AV → Mem → Prop} (h : if l2 = 0 then (wz l4 (Q (xI (xdiv l3 l4)) μ)) else (wz l4 (Q (xI (xdiv (μ 61 26) l4)) μ))) : DW (d + 5) 184 68 [xR 61, v1, xI l2, xI l3, xI l4, v5, v6] μ Q :=
  DW_wp (n := 400) (Nat.le_of_ble_eq_true rfl) h
set_option maxRecDepth 20000 in
theorem ge_M_next {d : Nat} {p1 : Int} {μ : Mem} {Q : AV → Mem → Prop} (h : if p1 < 0 then (Q (xI (-3)) μ) else (if 2 < p1 then (Q (xI (-3)) μ) else (GM (d + 4) 179 [xR 61] μ (gV (fun m1 => DW (d + 5) 185 15 [xR 61, xI p1, xI (-1), xI (-1), xI 0, xL 0, xL 0, xL 0] m1 Q))))) : GM (d + 5) 185 [xR 61, xI p1] μ Q :=
  GM_wp (n := 400) (Nat.le_of_ble_eq_true rfl) (Nat.le_of_ble_eq_true rfl) rfl h
set_option maxRecDepth 20000 in
theorem sg_M_next_15 {d : Nat} {l1 l2 l3 l4 : Int} {v5 v6 v7 : AV} {μ : Mem} {Q : AV → Mem → Prop} (h : if l4 < iw (4 * (μ 61 2)) then (if 0 < μ 61 26 then (DW (d + 5) 185 29 [xR 61, xI l1, xI l2, xI l3, xI l4, xI 0, xI 0, v7] μ Q) else (DW (d + 5) 185 101 [xR 61, xI l1, xI l2, xI l3, xI l4, v5, v6, v7] μ Q)) else (DW (d + 5) 185 101 [xR 61, xI l1, xI l2, xI l3, xI l4, v5, v6, v7] μ Q)) : DW (d + 5) 185 15 [xR 61, xI l1, xI l2, xI l3, xI l4, v5, v6, v7] μ Q :=
  DW_wp (n := 400) (Nat.le_of_ble_eq_true rfl) h
set_option maxRecDepth 20000 in
theorem sg_M_next_29 {d : Nat} {l1 l2 l3 l4 l5 l6 : Int} {v7 : AV} {μ : Mem} {Q : AV → Mem → Prop} (h : if l6 < μ 61 26 then (wb l6 720 (GM (d + 4) 169 [xR 61, xI (μ 72 l6.toNat)] μ (gV (fun m1 => wb (xdiv l4 4) 6 (GM (d + 4) 153 [xR 61, xI (m1 71 (xdiv l4 4).toNat), xI (xdiv l4 4), xI (xrem l4 4)] m1 (gI (fun r3 m2 => if r3 = 0 then (DW (d + 5) 185 29 [xR 61, xI l1, xI l2, xI l3, xI l4, xI (iw (l5 + 0)), xI (iw (l6 + 1)), v7] m2 Q) else (DW (d + 5) 185 29 [xR 61, xI l1, xI l2, xI l3, xI l4, xI (iw (l5 + 1)), xI (iw (l6 + 1)), v7] m2 Q)))))))) else (DW (d + 5) 185 63 [xR 61, xI l1, xI l2, xI l3, xI l4, xI l5, xI l6, v7] μ Q)) : DW (d + 5) 185 29 [xR 61, xI l1, xI l2, xI l3, xI l4, xI l5, xI l6, v7] μ Q :=
  DW_wp (n := 400) (Nat.le_of_ble_eq_true rfl) h
set_option maxRecDepth 20000 in
theorem sg_M_next_63 {d : Nat} {l1 l2 l3 l4 l5 : Int} {v6 v7 : AV} {μ : Mem} {Q : AV → Mem → Prop} (h : if iw ((μ 61 26) - l5) < l5 then (if l2 = (-1) then (DW (d + 5) 185 15 [xR 61, xI l1, xI l4, xI l5, xI (iw (l4 + 1)), xI l5, xI l5, xI 1] μ Q) else (if l5 < l3 then (DW (d + 5) 185 15 [xR 61, xI l1, xI l4, xI l5, xI (iw (l4 + 1)), xI l5, xI l5, xI 1] μ Q) else (DW (d + 5) 185 15 [xR 61, xI l1, xI l2, xI l3, xI (iw (l4 + 1)), xI l5, xI l5, xI 0] μ Q))) else (if l2 = (-1) then (DW (d + 5) 185 15 [xR 61, xI l1, xI l4, xI (iw ((μ 61 26) - l5)), xI (iw (l4 + 1)), xI l5, xI (iw ((μ 61 26) - l5)), xI 1] μ Q) else (if iw ((μ 61 26) - l5) < l3 then (DW (d + 5) 185 15 [xR 61, xI l1, xI l4, xI (iw ((μ 61 26) - l5)), xI (iw (l4 + 1)), xI l5, xI (iw ((μ 61 26) - l5)), xI 1] μ Q) else (DW (d + 5) 185 15 [xR 61, xI l1, xI l2, xI l3, xI (iw (l4 + 1)), xI l5, xI (iw ((μ 61 26) - l5)), xI 0] μ Q)))) : DW (d + 5) 185 63 [xR 61, xI l1, xI l2, xI l3, xI l4, xI l5, v6, v7] μ Q :=
  DW_wp (n := 400) (Nat.le_of_ble_eq_true rfl) h
set_option maxRecDepth 20000 in
theorem sg_M_next_101 {d : Nat} {l1 l2 l3 : Int} {v0 v4 v5 v6 v7 : AV} {μ : Mem} {Q : AV → Mem → Prop} (h : if l2 = (-1) then (Q (xI l3) μ) else (if l1 = 2 then (Q (xI l3) μ) else (if l1 = 0 then (Q (xI (xdiv l2 4)) μ) else (Q (xI (xrem l2 4)) μ)))) : DW (d + 5) 185 101 [v0, xI l1, xI l2, xI l3, v4, v5, v6, v7] μ Q :=
  DW_wp (n := 400) (Nat.le_of_ble_eq_true rfl) h
set_option maxRecDepth 20000 in
theorem ge_M_apart {d : Nat} {p1 : Int} {μ : Mem} {Q : AV → Mem → Prop} (h : if p1 < (-1) then (Q (xI (-3)) μ) else (GM (d + 5) 187 [xR 61] μ (gV (fun m1 => DW (d + 6) 186 13 [xR 61, xI p1, xI 0, xI (-1), xI 1, xL 0, xL 0] m1 Q)))) : GM (d + 6) 186 [xR 61, xI p1] μ Q :=
  GM_wp (n := 400) (Nat.le_of_ble_eq_true rfl) (Nat.le_of_ble_eq_true rfl) rfl h
set_option maxRecDepth 20000 in
theorem sg_M_apart_13 {d : Nat} {l1 l2 l3 l4 : Int} {v5 v6 : AV} {μ : Mem} {Q : AV → Mem → Prop} (h : if l2 < 5 then (if l3 = (-1) then (if l4 < μ 61 26 then (DW (d + 6) 186 13 [xR 61, xI l1, xI (iw (l2 + 1)), xI (-1), xI (iw (l4 * 2)), v5, v6] μ Q) else (GM (d + 5) 188 [xR 61, xI l2] μ (gI (fun r2 m1 => DW (d + 6) 186 13 [xR 61, xI l1, xI (iw (l2 + 1)), xI r2, xI (iw (l4 * 2)), v5, v6] m1 Q)))) else (DW (d + 6) 186 36 [xR 61, xI l1, xI l2, xI l3, xI l4, v5, v6] μ Q)) else (DW (d + 6) 186 36 [xR 61, xI l1, xI l2, xI l3, xI l4, v5, v6] μ Q)) : DW (d + 6) 186 13 [xR 61, xI l1, xI l2, xI l3, xI l4, v5, v6] μ Q :=
  DW_wp (n := 400) (Nat.le_of_ble_eq_true rfl) h
set_option maxRecDepth 20000 in
theorem sg_M_apart_36 {d : Nat} {l1 l2 l3 : Int} {v4 v5 v6 : AV} {μ : Mem} {Q : AV → Mem → Prop} (h : if l3 = (-1) then (Q (xI (-1)) μ) else (if l1 = (-1) then (Q (xI (iw (l2 - 1))) μ) else (DW (d + 6) 186 53 [xR 61, xI l1, xI l2, xI l3, v4, xI l1, xI 0] μ Q))) : DW (d + 6) 186 36 [xR 61, xI l1, xI l2, xI l3, v4, v5, v6] μ Q :=
  DW_wp (n := 400) (Nat.le_of_ble_eq_true rfl) h
set_option maxRecDepth 20000 in
theorem sg_M_apart_53 {d : Nat} {l3 l5 l6 : Int} {v1 v2 v4 : AV} {μ : Mem} {Q : AV → Mem → Prop} (h : if l6 < iw (4 * (μ 61 2)) then (if xand (xshr l3 l6) 1 = 1 then (if l5 = 0 then (Q (xI l6) μ) else (DW (d + 6) 186 53 [xR 61, v1, v2, xI l3, v4, xI (iw (l5 + (-1))), xI (iw (l6 + 1))] μ Q)) else (DW (d + 6) 186 53 [xR 61, v1, v2, xI l3, v4, xI l5, xI (iw (l6 + 1))] μ Q)) else (Q (xI (-1)) μ)) : DW (d + 6) 186 53 [xR 61, v1, v2, xI l3, v4, xI l5, xI l6] μ Q :=
  DW_wp (n := 400) (Nat.le_of_ble_eq_true rfl) h
set_option maxRecDepth 20000 in
theorem ge_M_layAnswers {d : Nat} {μ : Mem} {Q : AV → Mem → Prop} (h : GM (d + 4) 179 [xR 61] μ (gV (fun m1 => DW (d + 5) 187 4 [xR 61, xI 0, xL 0] m1 Q))) : GM (d + 5) 187 [xR 61] μ Q :=
  GM_wp (n := 400) (Nat.le_of_ble_eq_true rfl) (Nat.le_of_ble_eq_true rfl) rfl h
set_option maxRecDepth 20000 in
theorem sg_M_layAnswers_4 {d : Nat} {l1 : Int} {v2 : AV} {μ : Mem} {Q : AV → Mem → Prop} (h : if l1 < μ 61 26 then (wb l1 720 (GM (d + 4) 169 [xR 61, xI (μ 72 l1.toNat)] μ (gV (fun m1 => wb l1 720 (DW (d + 5) 187 22 [xR 61, xI l1, xI 0] (xset m1 74 l1.toNat 0) Q))))) else (Q (xI 0) μ)) : DW (d + 5) 187 4 [xR 61, xI l1, v2] μ Q :=
  DW_wp (n := 400) (Nat.le_of_ble_eq_true rfl) h
set_option maxRecDepth 20000 in
theorem sg_M_layAnswers_22 {d : Nat} {l1 l2 : Int} {μ : Mem} {Q : AV → Mem → Prop} (h : if l2 < iw (4 * (μ 61 2)) then (wb l1 720 (wb (xdiv l2 4) 6 (GM (d + 4) 153 [xR 61, xI (μ 71 (xdiv l2 4).toNat), xI (xdiv l2 4), xI (xrem l2 4)] μ (gI (fun r2 m1 => if r2 = 0 then (wb l1 720 (DW (d + 5) 187 22 [xR 61, xI l1, xI (iw (l2 + 1))] (xset m1 74 l1.toNat (xior (μ 74 l1.toNat) 0)) Q)) else (wb l1 720 (DW (d + 5) 187 22 [xR 61, xI l1, xI (iw (l2 + 1))] (xset m1 74 l1.toNat (xior (μ 74 l1.toNat) (xshl 1 l2))) Q))))))) else (DW (d + 5) 187 60 [xR 61, xI l1, xI l2] μ Q)) : DW (d + 5) 187 22 [xR 61, xI l1, xI l2] μ Q :=
  DW_wp (n := 400) (Nat.le_of_ble_eq_true rfl) h
set_option maxRecDepth 20000 in
theorem sg_M_layAnswers_60 {d : Nat} {l1 : Int} {v2 : AV} {μ : Mem} {Q : AV → Mem → Prop} (h : DW (d + 5) 187 4 [xR 61, xI (iw (l1 + 1)), v2] μ Q) : DW (d + 5) 187 60 [xR 61, xI l1, v2] μ Q :=
  DW_wp (n := 400) (Nat.le_of_ble_eq_true rfl) h
set_option maxRecDepth 20000 in
theorem ge_M_leastOf_61_n0 {d : Nat} {μ : Mem} {Q : AV → Mem → Prop} (h : DW (d + 1) 188 13 [xR 61, xI 0, xI (iw (4 * (μ 61 2))), xI 1, xI 0, xL 0, xL 0, xL 0, xL 0] μ Q) : GM (d + 1) 188 [xR 61, xI 0] μ Q :=
  GM_wp (n := 400) (Nat.le_of_ble_eq_true rfl) (Nat.le_of_ble_eq_true rfl) rfl h
set_option maxRecDepth 20000 in
theorem sg_M_leastOf_61_n0_13 {d : Nat} {l2 l3 l4 : Int} {v5 v6 v7 v8 : AV} {μ : Mem} {Q : AV → Mem → Prop} (h : if l4 < l3 then (DW (d + 1) 188 26 [xR 61, xI 0, xI l2, xI l3, xI l4, xI 0, v6, v7, v8] μ Q) else (Q (xI (-1)) μ)) : DW (d + 1) 188 13 [xR 61, xI 0, xI l2, xI l3, xI l4, v5, v6, v7, v8] μ Q :=
  DW_wp (n := 400) (Nat.le_of_ble_eq_true rfl) h
set_option maxRecDepth 20000 in
theorem sg_M_leastOf_61_n0_26 {d : Nat} {l2 l3 l4 l5 : Int} {v6 v7 v8 : AV} {μ : Mem} {Q : AV → Mem → Prop} (h : if l5 < 1 then (DW (d + 1) 188 44 [xR 61, xI 0, xI l2, xI l3, xI l4, xI l5, xI 0, v7, v8] μ Q) else (DW (d + 1) 188 120 [xR 61, xI 0, xI l2, xI l3, xI l4, xI l5, v6, v7, v8] μ Q)) : DW (d + 1) 188 26 [xR 61, xI 0, xI l2, xI l3, xI l4, xI l5, v6, v7, v8] μ Q :=
  DW_wp (n := 400) (Nat.le_of_ble_eq_true rfl) h
set_option maxRecDepth 20000 in
theorem sg_M_leastOf_61_n0_44 {d : Nat} {l2 l3 l4 l5 l6 : Int} {v7 v8 : AV} {μ : Mem} {Q : AV → Mem → Prop} (h : if l6 < 1 then (DW (d + 1) 188 62 [xR 61, xI 0, xI l2, xI l3, xI l4, xI l5, xI l6, xI 0, v8] μ Q) else (DW (d + 1) 188 117 [xR 61, xI 0, xI l2, xI l3, xI l4, xI l5, xI l6, v7, v8] μ Q)) : DW (d + 1) 188 44 [xR 61, xI 0, xI l2, xI l3, xI l4, xI l5, xI l6, v7, v8] μ Q :=
  DW_wp (n := 400) (Nat.le_of_ble_eq_true rfl) h
set_option maxRecDepth 20000 in
theorem sg_M_leastOf_61_n0_62 {d : Nat} {l2 l3 l4 l5 l6 l7 : Int} {v8 : AV} {μ : Mem} {Q : AV → Mem → Prop} (h : if l7 < 1 then (GM d 189 [xR 61, xI 0] μ (gI (fun r2 m1 => if r2 = 0 then (DW (d + 1) 188 62 [xR 61, xI 0, xI l2, xI l3, xI l4, xI l5, xI l6, xI (iw (l7 + 1)), xI 0] m1 Q) else (Q (xI 0) m1)))) else (DW (d + 1) 188 114 [xR 61, xI 0, xI l2, xI l3, xI l4, xI l5, xI l6, xI l7, v8] μ Q)) : DW (d + 1) 188 62 [xR 61, xI 0, xI l2, xI l3, xI l4, xI l5, xI l6, xI l7, v8] μ Q :=
  DW_wp (n := 400) (Nat.le_of_ble_eq_true rfl) h
set_option maxRecDepth 20000 in
theorem sg_M_leastOf_61_n0_114 {d : Nat} {l2 l3 l4 l5 l6 : Int} {v7 v8 : AV} {μ : Mem} {Q : AV → Mem → Prop} (h : DW (d + 1) 188 44 [xR 61, xI 0, xI l2, xI l3, xI l4, xI l5, xI (iw (l6 + 1)), v7, v8] μ Q) : DW (d + 1) 188 114 [xR 61, xI 0, xI l2, xI l3, xI l4, xI l5, xI l6, v7, v8] μ Q :=
  DW_wp (n := 400) (Nat.le_of_ble_eq_true rfl) h
set_option maxRecDepth 20000 in
theorem sg_M_leastOf_61_n0_117 {d : Nat} {l2 l3 l4 l5 : Int} {v6 v7 v8 : AV} {μ : Mem} {Q : AV → Mem → Prop} (h : DW (d + 1) 188 26 [xR 61, xI 0, xI l2, xI l3, xI l4, xI (iw (l5 + 1)), v6, v7, v8] μ Q) : DW (d + 1) 188 117 [xR 61, xI 0, xI l2, xI l3, xI l4, xI l5, v6, v7, v8] μ Q :=
  DW_wp (n := 400) (Nat.le_of_ble_eq_true rfl) h
set_option maxRecDepth 20000 in
theorem sg_M_leastOf_61_n0_120 {d : Nat} {l2 l3 l4 : Int} {v5 v6 v7 v8 : AV} {μ : Mem} {Q : AV → Mem → Prop} (h : DW (d + 1) 188 13 [xR 61, xI 0, xI l2, xI l3, xI (iw (l4 + 1)), v5, v6, v7, v8] μ Q) : DW (d + 1) 188 120 [xR 61, xI 0, xI l2, xI l3, xI l4, v5, v6, v7, v8] μ Q :=
  DW_wp (n := 400) (Nat.le_of_ble_eq_true rfl) h
set_option maxRecDepth 20000 in
theorem ge_M_leastOf_61_n1 {d : Nat} {μ : Mem} {Q : AV → Mem → Prop} (h : DW (d + 1) 188 13 [xR 61, xI 1, xI (iw (4 * (μ 61 2))), xI (iw (4 * (μ 61 2))), xI 0, xL 0, xL 0, xL 0, xL 0] μ Q) : GM (d + 1) 188 [xR 61, xI 1] μ Q :=
  GM_wp (n := 400) (Nat.le_of_ble_eq_true rfl) (Nat.le_of_ble_eq_true rfl) rfl h
set_option maxRecDepth 20000 in
theorem sg_M_leastOf_61_n1_13 {d : Nat} {l2 l3 l4 : Int} {v5 v6 v7 v8 : AV} {μ : Mem} {Q : AV → Mem → Prop} (h : if l4 < l3 then (DW (d + 1) 188 26 [xR 61, xI 1, xI l2, xI l3, xI l4, xI 0, v6, v7, v8] μ Q) else (Q (xI (-1)) μ)) : DW (d + 1) 188 13 [xR 61, xI 1, xI l2, xI l3, xI l4, v5, v6, v7, v8] μ Q :=
  DW_wp (n := 400) (Nat.le_of_ble_eq_true rfl) h
set_option maxRecDepth 20000 in
theorem sg_M_leastOf_61_n1_26 {d : Nat} {l2 l3 l4 l5 : Int} {v6 v7 v8 : AV} {μ : Mem} {Q : AV → Mem → Prop} (h : if l5 < 1 then (DW (d + 1) 188 44 [xR 61, xI 1, xI l2, xI l3, xI l4, xI l5, xI 0, v7, v8] μ Q) else (DW (d + 1) 188 120 [xR 61, xI 1, xI l2, xI l3, xI l4, xI l5, v6, v7, v8] μ Q)) : DW (d + 1) 188 26 [xR 61, xI 1, xI l2, xI l3, xI l4, xI l5, v6, v7, v8] μ Q :=
  DW_wp (n := 400) (Nat.le_of_ble_eq_true rfl) h
set_option maxRecDepth 20000 in
theorem sg_M_leastOf_61_n1_44 {d : Nat} {l2 l3 l4 l5 l6 : Int} {v7 v8 : AV} {μ : Mem} {Q : AV → Mem → Prop} (h : if l6 < 1 then (DW (d + 1) 188 62 [xR 61, xI 1, xI l2, xI l3, xI l4, xI l5, xI l6, xI 0, v8] μ Q) else (DW (d + 1) 188 117 [xR 61, xI 1, xI l2, xI l3, xI l4, xI l5, xI l6, v7, v8] μ Q)) : DW (d + 1) 188 44 [xR 61, xI 1, xI l2, xI l3, xI l4, xI l5, xI l6, v7, v8] μ Q :=
  DW_wp (n := 400) (Nat.le_of_ble_eq_true rfl) h
set_option maxRecDepth 20000 in
theorem sg_M_leastOf_61_n1_62 {d : Nat} {l2 l3 l4 l5 l6 l7 : Int} {v8 : AV} {μ : Mem} {Q : AV → Mem → Prop} (h : if l7 < 1 then (GM d 189 [xR 61, xI (xior (xior (xior (xshl 1 l4) 0) 0) 0)] μ (gI (fun r2 m1 => if r2 = 0 then (DW (d + 1) 188 62 [xR 61, xI 1, xI l2, xI l3, xI l4, xI l5, xI l6, xI (iw (l7 + 1)), xI (xior (xior (xior (xshl 1 l4) 0) 0) 0)] m1 Q) else (Q (xI (xior (xior (xior (xshl 1 l4) 0) 0) 0)) m1)))) else (DW (d + 1) 188 114 [xR 61, xI 1, xI l2, xI l3, xI l4, xI l5, xI l6, xI l7, v8] μ Q)) : DW (d + 1) 188 62 [xR 61, xI 1, xI l2, xI l3, xI l4, xI l5, xI l6, xI l7, v8] μ Q :=
  DW_wp (n := 400) (Nat.le_of_ble_eq_true rfl) h
set_option maxRecDepth 20000 in
theorem sg_M_leastOf_61_n1_114 {d : Nat} {l2 l3 l4 l5 l6 : Int} {v7 v8 : AV} {μ : Mem} {Q : AV → Mem → Prop} (h : DW (d + 1) 188 44 [xR 61, xI 1, xI l2, xI l3, xI l4, xI l5, xI (iw (l6 + 1)), v7, v8] μ Q) : DW (d + 1) 188 114 [xR 61, xI 1, xI l2, xI l3, xI l4, xI l5, xI l6, v7, v8] μ Q :=
  DW_wp (n := 400) (Nat.le_of_ble_eq_true rfl) h
set_option maxRecDepth 20000 in
theorem sg_M_leastOf_61_n1_117 {d : Nat} {l2 l3 l4 l5 : Int} {v6 v7 v8 : AV} {μ : Mem} {Q : AV → Mem → Prop} (h : DW (d + 1) 188 26 [xR 61, xI 1, xI l2, xI l3, xI l4, xI (iw (l5 + 1)), v6, v7, v8] μ Q) : DW (d + 1) 188 117 [xR 61, xI 1, xI l2, xI l3, xI l4, xI l5, v6, v7, v8] μ Q :=
  DW_wp (n := 400) (Nat.le_of_ble_eq_true rfl) h
set_option maxRecDepth 20000 in
theorem sg_M_leastOf_61_n1_120 {d : Nat} {l2 l3 l4 : Int} {v5 v6 v7 v8 : AV} {μ : Mem} {Q : AV → Mem → Prop} (h : DW (d + 1) 188 13 [xR 61, xI 1, xI l2, xI l3, xI (iw (l4 + 1)), v5, v6, v7, v8] μ Q) : DW (d + 1) 188 120 [xR 61, xI 1, xI l2, xI l3, xI l4, v5, v6, v7, v8] μ Q :=
  DW_wp (n := 400) (Nat.le_of_ble_eq_true rfl) h
set_option maxRecDepth 20000 in
theorem ge_M_leastOf_61_n2 {d : Nat} {μ : Mem} {Q : AV → Mem → Prop} (h : DW (d + 1) 188 13 [xR 61, xI 2, xI (iw (4 * (μ 61 2))), xI (iw (4 * (μ 61 2))), xI 0, xL 0, xL 0, xL 0, xL 0] μ Q) : GM (d + 1) 188 [xR 61, xI 2] μ Q :=
  GM_wp (n := 400) (Nat.le_of_ble_eq_true rfl) (Nat.le_of_ble_eq_true rfl) rfl h
set_option maxRecDepth 20000 in
theorem sg_M_leastOf_61_n2_13 {d : Nat} {l2 l3 l4 : Int} {v5 v6 v7 v8 : AV} {μ : Mem} {Q : AV → Mem → Prop} (h : if l4 < l3 then (DW (d + 1) 188 26 [xR 61, xI 2, xI l2, xI l3, xI l4, xI (iw (l4 + 1)), v6, v7, v8] μ Q) else (Q (xI (-1)) μ)) : DW (d + 1) 188 13 [xR 61, xI 2, xI l2, xI l3, xI l4, v5, v6, v7, v8] μ Q :=
  DW_wp (n := 400) (Nat.le_of_ble_eq_true rfl) h
set_option maxRecDepth 20000 in
theorem sg_M_leastOf_61_n2_26 {d : Nat} {l2 l3 l4 l5 : Int} {v6 v7 v8 : AV} {μ : Mem} {Q : AV → Mem → Prop} (h : if l5 < l2 then (DW (d + 1) 188 44 [xR 61, xI 2, xI l2, xI l3, xI l4, xI l5, xI 0, v7, v8] μ Q) else (DW (d + 1) 188 120 [xR 61, xI 2, xI l2, xI l3, xI l4, xI l5, v6, v7, v8] μ Q)) : DW (d + 1) 188 26 [xR 61, xI 2, xI l2, xI l3, xI l4, xI l5, v6, v7, v8] μ Q :=
  DW_wp (n := 400) (Nat.le_of_ble_eq_true rfl) h
set_option maxRecDepth 20000 in
theorem sg_M_leastOf_61_n2_44 {d : Nat} {l2 l3 l4 l5 l6 : Int} {v7 v8 : AV} {μ : Mem} {Q : AV → Mem → Prop} (h : if l6 < 1 then (DW (d + 1) 188 62 [xR 61, xI 2, xI l2, xI l3, xI l4, xI l5, xI l6, xI 0, v8] μ Q) else (DW (d + 1) 188 117 [xR 61, xI 2, xI l2, xI l3, xI l4, xI l5, xI l6, v7, v8] μ Q)) : DW (d + 1) 188 44 [xR 61, xI 2, xI l2, xI l3, xI l4, xI l5, xI l6, v7, v8] μ Q :=
  DW_wp (n := 400) (Nat.le_of_ble_eq_true rfl) h
set_option maxRecDepth 20000 in
theorem sg_M_leastOf_61_n2_62 {d : Nat} {l2 l3 l4 l5 l6 l7 : Int} {v8 : AV} {μ : Mem} {Q : AV → Mem → Prop} (h : if l7 < 1 then (GM d 189 [xR 61, xI (xior (xior (xior (xshl 1 l4) (xshl 1 l5)) 0) 0)] μ (gI (fun r2 m1 => if r2 = 0 then (DW (d + 1) 188 62 [xR 61, xI 2, xI l2, xI l3, xI l4, xI l5, xI l6, xI (iw (l7 + 1)), xI (xior (xior (xior (xshl 1 l4) (xshl 1 l5)) 0) 0)] m1 Q) else (Q (xI (xior (xior (xior (xshl 1 l4) (xshl 1 l5)) 0) 0)) m1)))) else (DW (d + 1) 188 114 [xR 61, xI 2, xI l2, xI l3, xI l4, xI l5, xI l6, xI l7, v8] μ Q)) : DW (d + 1) 188 62 [xR 61, xI 2, xI l2, xI l3, xI l4, xI l5, xI l6, xI l7, v8] μ Q :=
  DW_wp (n := 400) (Nat.le_of_ble_eq_true rfl) h
set_option maxRecDepth 20000 in
theorem sg_M_leastOf_61_n2_114 {d : Nat} {l2 l3 l4 l5 l6 : Int} {v7 v8 : AV} {μ : Mem} {Q : AV → Mem → Prop} (h : DW (d + 1) 188 44 [xR 61, xI 2, xI l2, xI l3, xI l4, xI l5, xI (iw (l6 + 1)), v7, v8] μ Q) : DW (d + 1) 188 114 [xR 61, xI 2, xI l2, xI l3, xI l4, xI l5, xI l6, v7, v8] μ Q :=
  DW_wp (n := 400) (Nat.le_of_ble_eq_true rfl) h
set_option maxRecDepth 20000 in
theorem sg_M_leastOf_61_n2_117 {d : Nat} {l2 l3 l4 l5 : Int} {v6 v7 v8 : AV} {μ : Mem} {Q : AV → Mem → Prop} (h : DW (d + 1) 188 26 [xR 61, xI 2, xI l2, xI l3, xI l4, xI (iw (l5 + 1)), v6, v7, v8] μ Q) : DW (d + 1) 188 117 [xR 61, xI 2, xI l2, xI l3, xI l4, xI l5, v6, v7, v8] μ Q :=
  DW_wp (n := 400) (Nat.le_of_ble_eq_true rfl) h
set_option maxRecDepth 20000 in
theorem sg_M_leastOf_61_n2_120 {d : Nat} {l2 l3 l4 : Int} {v5 v6 v7 v8 : AV} {μ : Mem} {Q : AV → Mem → Prop} (h : DW (d + 1) 188 13 [xR 61, xI 2, xI l2, xI l3, xI (iw (l4 + 1)), v5, v6, v7, v8] μ Q) : DW (d + 1) 188 120 [xR 61, xI 2, xI l2, xI l3, xI l4, v5, v6, v7, v8] μ Q :=
  DW_wp (n := 400) (Nat.le_of_ble_eq_true rfl) h
set_option maxRecDepth 20000 in
theorem ge_M_leastOf_61_n3 {d : Nat} {μ : Mem} {Q : AV → Mem → Prop} (h : DW (d + 1) 188 13 [xR 61, xI 3, xI (iw (4 * (μ 61 2))), xI (iw (4 * (μ 61 2))), xI 0, xL 0, xL 0, xL 0, xL 0] μ Q) : GM (d + 1) 188 [xR 61, xI 3] μ Q :=
  GM_wp (n := 400) (Nat.le_of_ble_eq_true rfl) (Nat.le_of_ble_eq_true rfl) rfl h
set_option maxRecDepth 20000 in
theorem sg_M_leastOf_61_n3_13 {d : Nat} {l2 l3 l4 : Int} {v5 v6 v7 v8 : AV} {μ : Mem} {Q : AV → Mem → Prop} (h : if l4 < l3 then (DW (d + 1) 188 26 [xR 61, xI 3, xI l2, xI l3, xI l4, xI (iw (l4 + 1)), v6, v7, v8] μ Q) else (Q (xI (-1)) μ)) : DW (d + 1) 188 13 [xR 61, xI 3, xI l2, xI l3, xI l4, v5, v6, v7, v8] μ Q :=
  DW_wp (n := 400) (Nat.le_of_ble_eq_true rfl) h
set_option maxRecDepth 20000 in
theorem sg_M_leastOf_61_n3_26 {d : Nat} {l2 l3 l4 l5 : Int} {v6 v7 v8 : AV} {μ : Mem} {Q : AV → Mem → Prop} (h : if l5 < l2 then (DW (d + 1) 188 44 [xR 61, xI 3, xI l2, xI l3, xI l4, xI l5, xI (iw (l5 + 1)), v7, v8] μ Q) else (DW (d + 1) 188 120 [xR 61, xI 3, xI l2, xI l3, xI l4, xI l5, v6, v7, v8] μ Q)) : DW (d + 1) 188 26 [xR 61, xI 3, xI l2, xI l3, xI l4, xI l5, v6, v7, v8] μ Q :=
  DW_wp (n := 400) (Nat.le_of_ble_eq_true rfl) h
set_option maxRecDepth 20000 in
theorem sg_M_leastOf_61_n3_44 {d : Nat} {l2 l3 l4 l5 l6 : Int} {v7 v8 : AV} {μ : Mem} {Q : AV → Mem → Prop} (h : if l6 < l2 then (DW (d + 1) 188 62 [xR 61, xI 3, xI l2, xI l3, xI l4, xI l5, xI l6, xI 0, v8] μ Q) else (DW (d + 1) 188 117 [xR 61, xI 3, xI l2, xI l3, xI l4, xI l5, xI l6, v7, v8] μ Q)) : DW (d + 1) 188 44 [xR 61, xI 3, xI l2, xI l3, xI l4, xI l5, xI l6, v7, v8] μ Q :=
  DW_wp (n := 400) (Nat.le_of_ble_eq_true rfl) h
set_option maxRecDepth 20000 in
theorem sg_M_leastOf_61_n3_62 {d : Nat} {l2 l3 l4 l5 l6 l7 : Int} {v8 : AV} {μ : Mem} {Q : AV → Mem → Prop} (h : if l7 < 1 then (GM d 189 [xR 61, xI (xior (xior (xior (xshl 1 l4) (xshl 1 l5)) (xshl 1 l6)) 0)] μ (gI (fun r2 m1 => if r2 = 0 then (DW (d + 1) 188 62 [xR 61, xI 3, xI l2, xI l3, xI l4, xI l5, xI l6, xI (iw (l7 + 1)), xI (xior (xior (xior (xshl 1 l4) (xshl 1 l5)) (xshl 1 l6)) 0)] m1 Q) else (Q (xI (xior (xior (xior (xshl 1 l4) (xshl 1 l5)) (xshl 1 l6)) 0)) m1)))) else (DW (d + 1) 188 114 [xR 61, xI 3, xI l2, xI l3, xI l4, xI l5, xI l6, xI l7, v8] μ Q)) : DW (d + 1) 188 62 [xR 61, xI 3, xI l2, xI l3, xI l4, xI l5, xI l6, xI l7, v8] μ Q :=
  DW_wp (n := 400) (Nat.le_of_ble_eq_true rfl) h
set_option maxRecDepth 20000 in
theorem sg_M_leastOf_61_n3_114 {d : Nat} {l2 l3 l4 l5 l6 : Int} {v7 v8 : AV} {μ : Mem} {Q : AV → Mem → Prop} (h : DW (d + 1) 188 44 [xR 61, xI 3, xI l2, xI l3, xI l4, xI l5, xI (iw (l6 + 1)), v7, v8] μ Q) : DW (d + 1) 188 114 [xR 61, xI 3, xI l2, xI l3, xI l4, xI l5, xI l6, v7, v8] μ Q :=
  DW_wp (n := 400) (Nat.le_of_ble_eq_true rfl) h
set_option maxRecDepth 20000 in
theorem sg_M_leastOf_61_n3_117 {d : Nat} {l2 l3 l4 l5 : Int} {v6 v7 v8 : AV} {μ : Mem} {Q : AV → Mem → Prop} (h : DW (d + 1) 188 26 [xR 61, xI 3, xI l2, xI l3, xI l4, xI (iw (l5 + 1)), v6, v7, v8] μ Q) : DW (d + 1) 188 117 [xR 61, xI 3, xI l2, xI l3, xI l4, xI l5, v6, v7, v8] μ Q :=
  DW_wp (n := 400) (Nat.le_of_ble_eq_true rfl) h
set_option maxRecDepth 20000 in
theorem sg_M_leastOf_61_n3_120 {d : Nat} {l2 l3 l4 : Int} {v5 v6 v7 v8 : AV} {μ : Mem} {Q : AV → Mem → Prop} (h : DW (d + 1) 188 13 [xR 61, xI 3, xI l2, xI l3, xI (iw (l4 + 1)), v5, v6, v7, v8] μ Q) : DW (d + 1) 188 120 [xR 61, xI 3, xI l2, xI l3, xI l4, v5, v6, v7, v8] μ Q :=
  DW_wp (n := 400) (Nat.le_of_ble_eq_true rfl) h
set_option maxRecDepth 20000 in
theorem ge_M_leastOf_61_n4 {d : Nat} {μ : Mem} {Q : AV → Mem → Prop} (h : DW (d + 1) 188 13 [xR 61, xI 4, xI (iw (4 * (μ 61 2))), xI (iw (4 * (μ 61 2))), xI 0, xL 0, xL 0, xL 0, xL 0] μ Q) : GM (d + 1) 188 [xR 61, xI 4] μ Q :=
  GM_wp (n := 400) (Nat.le_of_ble_eq_true rfl) (Nat.le_of_ble_eq_true rfl) rfl h
set_option maxRecDepth 20000 in
theorem sg_M_leastOf_61_n4_13 {d : Nat} {l2 l3 l4 : Int} {v5 v6 v7 v8 : AV} {μ : Mem} {Q : AV → Mem → Prop} (h : if l4 < l3 then (DW (d + 1) 188 26 [xR 61, xI 4, xI l2, xI l3, xI l4, xI (iw (l4 + 1)), v6, v7, v8] μ Q) else (Q (xI (-1)) μ)) : DW (d + 1) 188 13 [xR 61, xI 4, xI l2, xI l3, xI l4, v5, v6, v7, v8] μ Q :=
  DW_wp (n := 400) (Nat.le_of_ble_eq_true rfl) h
set_option maxRecDepth 20000 in
theorem sg_M_leastOf_61_n4_26 {d : Nat} {l2 l3 l4 l5 : Int} {v6 v7 v8 : AV} {μ : Mem} {Q : AV → Mem → Prop} (h : if l5 < l2 then (DW (d + 1) 188 44 [xR 61, xI 4, xI l2, xI l3, xI l4, xI l5, xI (iw (l5 + 1)), v7, v8] μ Q) else (DW (d + 1) 188 120 [xR 61, xI 4, xI l2, xI l3, xI l4, xI l5, v6, v7, v8] μ Q)) : DW (d + 1) 188 26 [xR 61, xI 4, xI l2, xI l3, xI l4, xI l5, v6, v7, v8] μ Q :=
  DW_wp (n := 400) (Nat.le_of_ble_eq_true rfl) h
set_option maxRecDepth 20000 in
theorem sg_M_leastOf_61_n4_44 {d : Nat} {l2 l3 l4 l5 l6 : Int} {v7 v8 : AV} {μ : Mem} {Q : AV → Mem → Prop} (h : if l6 < l2 then (DW (d + 1) 188 62 [xR 61, xI 4, xI l2, xI l3, xI l4, xI l5, xI l6, xI (iw (l6 + 1)), v8] μ Q) else (DW (d + 1) 188 117 [xR 61, xI 4, xI l2, xI l3, xI l4, xI l5, xI l6, v7, v8] μ Q)) : DW (d + 1) 188 44 [xR 61, xI 4, xI l2, xI l3, xI l4, xI l5, xI l6, v7, v8] μ Q :=
  DW_wp (n := 400) (Nat.le_of_ble_eq_true rfl) h
set_option maxRecDepth 20000 in
theorem sg_M_leastOf_61_n4_62 {d : Nat} {l2 l3 l4 l5 l6 l7 : Int} {v8 : AV} {μ : Mem} {Q : AV → Mem → Prop} (h : if l7 < l2 then (GM d 189 [xR 61, xI (xior (xior (xior (xshl 1 l4) (xshl 1 l5)) (xshl 1 l6)) (xshl 1 l7))] μ (gI (fun r2 m1 => if r2 = 0 then (DW (d + 1) 188 62 [xR 61, xI 4, xI l2, xI l3, xI l4, xI l5, xI l6, xI (iw (l7 + 1)), xI (xior (xior (xior (xshl 1 l4) (xshl 1 l5)) (xshl 1 l6)) (xshl 1 l7))] m1 Q) else (Q (xI (xior (xior (xior (xshl 1 l4) (xshl 1 l5)) (xshl 1 l6)) (xshl 1 l7))) m1)))) else (DW (d + 1) 188 114 [xR 61, xI 4, xI l2, xI l3, xI l4, xI l5, xI l6, xI l7, v8] μ Q)) : DW (d + 1) 188 62 [xR 61, xI 4, xI l2, xI l3, xI l4, xI l5, xI l6, xI l7, v8] μ Q :=
  DW_wp (n := 400) (Nat.le_of_ble_eq_true rfl) h
set_option maxRecDepth 20000 in
theorem sg_M_leastOf_61_n4_114 {d : Nat} {l2 l3 l4 l5 l6 : Int} {v7 v8 : AV} {μ : Mem} {Q : AV → Mem → Prop} (h : DW (d + 1) 188 44 [xR 61, xI 4, xI l2, xI l3, xI l4, xI l5, xI (iw (l6 + 1)), v7, v8] μ Q) : DW (d + 1) 188 114 [xR 61, xI 4, xI l2, xI l3, xI l4, xI l5, xI l6, v7, v8] μ Q :=
  DW_wp (n := 400) (Nat.le_of_ble_eq_true rfl) h
set_option maxRecDepth 20000 in
theorem sg_M_leastOf_61_n4_117 {d : Nat} {l2 l3 l4 l5 : Int} {v6 v7 v8 : AV} {μ : Mem} {Q : AV → Mem → Prop} (h : DW (d + 1) 188 26 [xR 61, xI 4, xI l2, xI l3, xI l4, xI (iw (l5 + 1)), v6, v7, v8] μ Q) : DW (d + 1) 188 117 [xR 61, xI 4, xI l2, xI l3, xI l4, xI l5, v6, v7, v8] μ Q :=
  DW_wp (n := 400) (Nat.le_of_ble_eq_true rfl) h
set_option maxRecDepth 20000 in
theorem sg_M_leastOf_61_n4_120 {d : Nat} {l2 l3 l4 : Int} {v5 v6 v7 v8 : AV} {μ : Mem} {Q : AV → Mem → Prop} (h : DW (d + 1) 188 13 [xR 61, xI 4, xI l2, xI l3, xI (iw (l4 + 1)), v5, v6, v7, v8] μ Q) : DW (d + 1) 188 120 [xR 61, xI 4, xI l2, xI l3, xI l4, v5, v6, v7, v8] μ Q :=
  DW_wp (n := 400) (Nat.le_of_ble_eq_true rfl) h
set_option maxRecDepth 20000 in
theorem ge_M_parts {d : Nat} {p1 : Int} {μ : Mem} {Q : AV → Mem → Prop} (h : DW d 189 2 [xR 61, xI p1, xI 0, xL 0] μ Q) : GM d 189 [xR 61, xI p1] μ Q :=
  GM_wp (n := 400) (Nat.le_of_ble_eq_true rfl) (Nat.le_of_ble_eq_true rfl) rfl h
set_option maxRecDepth 20000 in
theorem sg_M_parts_2 {d : Nat} {l1 l2 : Int} {v3 : AV} {μ : Mem} {Q : AV → Mem → Prop} (h : if l2 < μ 61 26 then (DW d 189 9 [xR 61, xI l1, xI l2, xI 0] μ Q) else (Q (xI 1) μ)) : DW d 189 2 [xR 61, xI l1, xI l2, v3] μ Q :=
  DW_wp (n := 400) (Nat.le_of_ble_eq_true rfl) h
set_option maxRecDepth 20000 in
theorem sg_M_parts_9 {d : Nat} {l1 l2 l3 : Int} {μ : Mem} {Q : AV → Mem → Prop} (h : if l3 < l2 then (wb l2 720 (wb l3 720 (if xand (xxor (μ 74 l2.toNat) (μ 74 l3.toNat)) l1 = 0 then (Q (xI 0) μ) else (DW d 189 9 [xR 61, xI l1, xI l2, xI (iw (l3 + 1))] μ Q)))) else (DW d 189 29 [xR 61, xI l1, xI l2, xI l3] μ Q)) : DW d 189 9 [xR 61, xI l1, xI l2, xI l3] μ Q :=
  DW_wp (n := 400) (Nat.le_of_ble_eq_true rfl) h
set_option maxRecDepth 20000 in
theorem sg_M_parts_29 {d : Nat} {l1 l2 : Int} {v3 : AV} {μ : Mem} {Q : AV → Mem → Prop} (h : DW d 189 2 [xR 61, xI l1, xI (iw (l2 + 1)), v3] μ Q) : DW d 189 29 [xR 61, xI l1, xI l2, v3] μ Q :=
  DW_wp (n := 400) (Nat.le_of_ble_eq_true rfl) h
set_option maxRecDepth 20000 in
theorem ge_M_came {d : Nat} {p1 : Int} {μ : Mem} {Q : AV → Mem → Prop} (h : if p1 < 0 then (Q (xI (-3)) μ) else (if 1 < p1 then (Q (xI (-3)) μ) else (GM (d + 4) 179 [xR 61] μ (gV (fun m1 => GM (d + 4) 191 [xR 61] m1 (gV (fun m2 => DW (d + 5) 190 17 [xR 61, xI p1, xI 99, xI 0, xI 0, xL 0] m2 Q))))))) : GM (d + 5) 190 [xR 61, xI p1] μ Q :=
  GM_wp (n := 400) (Nat.le_of_ble_eq_true rfl) (Nat.le_of_ble_eq_true rfl) rfl h
set_option maxRecDepth 20000 in
theorem sg_M_came_17 {d : Nat} {l1 l2 l3 l4 : Int} {v5 : AV} {μ : Mem} {Q : AV → Mem → Prop} (h : if l4 < μ 61 26 then (wb l4 720 (wb (μ 72 l4.toNat) 5040 (if μ 73 (μ 72 l4.toNat).toNat < l2 then (if μ 73 (μ 72 l4.toNat).toNat < 99 then (DW (d + 5) 190 17 [xR 61, xI l1, xI (μ 73 (μ 72 l4.toNat).toNat), xI (iw (l3 + 1)), xI (iw (l4 + 1)), xI (μ 73 (μ 72 l4.toNat).toNat)] μ Q) else (DW (d + 5) 190 17 [xR 61, xI l1, xI (μ 73 (μ 72 l4.toNat).toNat), xI (iw (l3 + 0)), xI (iw (l4 + 1)), xI (μ 73 (μ 72 l4.toNat).toNat)] μ Q)) else (if μ 73 (μ 72 l4.toNat).toNat < 99 then (DW (d + 5) 190 17 [xR 61, xI l1, xI l2, xI (iw (l3 + 1)), xI (iw (l4 + 1)), xI (μ 73 (μ 72 l4.toNat).toNat)] μ Q) else (DW (d + 5) 190 17 [xR 61, xI l1, xI l2, xI (iw (l3 + 0)), xI (iw (l4 + 1)), xI (μ 73 (μ 72 l4.toNat).toNat)] μ Q))))) else (DW (d + 5) 190 48 [xR 61, xI l1, xI l2, xI l3, xI l4, v5] μ Q)) : DW (d + 5) 190 17 [xR 61, xI l1, xI l2, xI l3, xI l4, v5] μ Q :=
  DW_wp (n := 400) (Nat.le_of_ble_eq_true rfl) h
set_option maxRecDepth 20000 in
theorem sg_M_came_48 {d : Nat} {l1 l2 l3 : Int} {v0 v4 v5 : AV} {μ : Mem} {Q : AV → Mem → Prop} (h : if l3 = 0 then (Q (xI (-1)) μ) else (if l1 = 0 then (Q (xI l2) μ) else (Q (xI l3) μ))) : DW (d + 5) 190 48 [v0, xI l1, xI l2, xI l3, v4, v5] μ Q :=
  DW_wp (n := 400) (Nat.le_of_ble_eq_true rfl) h
set_option maxRecDepth 20000 in
theorem ge_M_layCame {d : Nat} {μ : Mem} {Q : AV → Mem → Prop} (h : DW (d + 4) 191 2 [xR 61, xI 0, xL 0, xL 0, xL 0, xL 0, xL 0] μ Q) : GM (d + 4) 191 [xR 61] μ Q :=
  GM_wp (n := 400) (Nat.le_of_ble_eq_true rfl) (Nat.le_of_ble_eq_true rfl) rfl h
set_option maxRecDepth 20000 in
theorem sg_M_layCame_2 {d : Nat} {l1 : Int} {v2 v3 v4 v5 v6 : AV} {μ : Mem} {Q : AV → Mem → Prop} (h : GM (d + 3) 168 [xR 61] μ (gI (fun r2 m1 => if l1 < r2 then (if l1 = 0 then (wb l1 5040 (DW (d + 4) 191 2 [xR 61, xI (iw (l1 + 1)), v2, v3, v4, v5, v6] (xset m1 73 l1.toNat 0) Q)) else (wb l1 5040 (DW (d + 4) 191 2 [xR 61, xI (iw (l1 + 1)), v2, v3, v4, v5, v6] (xset m1 73 l1.toNat 99) Q))) else (DW (d + 4) 191 18 [xR 61, xI l1, v2, v3, v4, v5, v6] m1 Q)))) : DW (d + 4) 191 2 [xR 61, xI l1, v2, v3, v4, v5, v6] μ Q :=
  DW_wp (n := 400) (Nat.le_of_ble_eq_true rfl) h
set_option maxRecDepth 20000 in
theorem sg_M_layCame_18 {d : Nat} {v1 v2 v3 v4 v5 v6 : AV} {μ : Mem} {Q : AV → Mem → Prop} (h : DW (d + 4) 191 21 [xR 61, xI 0, v2, v3, v4, v5, v6] μ Q) : DW (d + 4) 191 18 [xR 61, v1, v2, v3, v4, v5, v6] μ Q :=
  DW_wp (n := 400) (Nat.le_of_ble_eq_true rfl) h
set_option maxRecDepth 20000 in
theorem sg_M_layCame_21 {d : Nat} {l1 : Int} {v2 v3 v4 v5 v6 : AV} {μ : Mem} {Q : AV → Mem → Prop} (h : if l1 < μ 67 24 then (DW (d + 4) 191 30 [xR 61, xI l1, xI 0, v3, v4, v5, v6] μ Q) else (Q (xI 0) μ)) : DW (d + 4) 191 21 [xR 61, xI l1, v2, v3, v4, v5, v6] μ Q :=
  DW_wp (n := 400) (Nat.le_of_ble_eq_true rfl) h
set_option maxRecDepth 20000 in
theorem sg_M_layCame_30 {d : Nat} {l1 l2 : Int} {v3 v4 v5 v6 : AV} {μ : Mem} {Q : AV → Mem → Prop} (h : GM (d + 3) 168 [xR 61] μ (gI (fun r2 m1 => if l2 < r2 then (wb l2 5040 (wb (iw (720 + l2)) 5040 (DW (d + 4) 191 30 [xR 61, xI l1, xI (iw (l2 + 1)), v3, v4, v5, v6] (xset m1 73 ((iw (720 + l2)).toNat) (m1 73 l2.toNat)) Q))) else (DW (d + 4) 191 47 [xR 61, xI l1, xI l2, v3, v4, v5, v6] m1 Q)))) : DW (d + 4) 191 30 [xR 61, xI l1, xI l2, v3, v4, v5, v6] μ Q :=
  DW_wp (n := 400) (Nat.le_of_ble_eq_true rfl) h
set_option maxRecDepth 20000 in
theorem sg_M_layCame_47 {d : Nat} {l1 : Int} {v2 v3 v4 v5 v6 : AV} {μ : Mem} {Q : AV → Mem → Prop} (h : DW (d + 4) 191 50 [xR 61, xI l1, xI 0, v3, v4, v5, v6] μ Q) : DW (d + 4) 191 47 [xR 61, xI l1, v2, v3, v4, v5, v6] μ Q :=
  DW_wp (n := 400) (Nat.le_of_ble_eq_true rfl) h
set_option maxRecDepth 20000 in
theorem sg_M_layCame_50 {d : Nat} {l1 l2 : Int} {v3 v4 v5 v6 : AV} {μ : Mem} {Q : AV → Mem → Prop} (h : GM (d + 3) 168 [xR 61] μ (gI (fun r2 m1 => if l2 < r2 then (DW (d + 4) 191 57 [xR 61, xI l1, xI l2, xI 0, v4, v5, v6] m1 Q) else (DW (d + 4) 191 133 [xR 61, xI l1, xI l2, v3, v4, v5, v6] m1 Q)))) : DW (d + 4) 191 50 [xR 61, xI l1, xI l2, v3, v4, v5, v6] μ Q :=
  DW_wp (n := 400) (Nat.le_of_ble_eq_true rfl) h
set_option maxRecDepth 20000 in
theorem sg_M_layCame_57 {d : Nat} {l1 l2 l3 : Int} {v4 v5 v6 : AV} {μ : Mem} {Q : AV → Mem → Prop} (h : if l3 < iw ((μ 61 2) * (μ 61 2)) then (wb l2 5040 (if μ 73 l2.toNat < 99 then (wz (μ 61 2) (wz (μ 61 2) (if xdiv l3 (μ 61 2) < xrem l3 (μ 61 2) then (GM (d + 3) 157 [xR 61, xI l1, xI (xdiv l3 (μ 61 2)), xI (xrem l3 (μ 61 2))] μ (gI (fun r2 m1 => if r2 = 0 then (DW (d + 4) 191 57 [xR 61, xI l1, xI l2, xI (iw (l3 + 1)), xI (xdiv l3 (μ 61 2)), xI (xrem l3 (μ 61 2)), v6] m1 Q) else (GM (d + 3) 169 [xR 61, xI l2] m1 (gV (fun m3 => wb (xdiv l3 (μ 61 2)) 6 (wb (xrem l3 (μ 61 2)) 6 (wb (xdiv l3 (μ 61 2)) 6 (wb (xrem l3 (μ 61 2)) 6 (GM (d + 3) 173 [xR 61] (xset (xset m3 71 ((xdiv l3 (μ 61 2)).toNat) (m3 71 (xrem l3 (μ 61 2)).toNat)) 71 ((xrem l3 (μ 61 2)).toNat) (m3 71 (xdiv l3 (μ 61 2)).toNat)) (gI (fun r5 m4 => wb l2 5040 (wb (iw (720 + r5)) 5040 (if iw ((m4 73 l2.toNat) + 1) < m4 73 (iw (720 + r5)).toNat then (wb l2 5040 (wb (iw (720 + r5)) 5040 (DW (d + 4) 191 57 [xR 61, xI l1, xI l2, xI (iw (l3 + 1)), xI (xdiv l3 (μ 61 2)), xI (xrem l3 (μ 61 2)), xI (iw (720 + r5))] (xset m4 73 ((iw (720 + r5)).toNat) (iw ((m4 73 l2.toNat) + 1))) Q))) else (wb (iw (720 + r5)) 5040 (wb (iw (720 + r5)) 5040 (DW (d + 4) 191 57 [xR 61, xI l1, xI l2, xI (iw (l3 + 1)), xI (xdiv l3 (μ 61 2)), xI (xrem l3 (μ 61 2)), xI (iw (720 + r5))] (xset m4 73 ((iw (720 + r5)).toNat) (m4 73 (iw (720 + r5)).toNat)) Q))))))))))))))))) else (DW (d + 4) 191 57 [xR 61, xI l1, xI l2, xI (iw (l3 + 1)), xI (xdiv l3 (μ 61 2)), xI (xrem l3 (μ 61 2)), v6] μ Q)))) else (DW (d + 4) 191 130 [xR 61, xI l1, xI l2, xI l3, v4, v5, v6] μ Q))) else (DW (d + 4) 191 130 [xR 61, xI l1, xI l2, xI l3, v4, v5, v6] μ Q)) : DW (d + 4) 191 57 [xR 61, xI l1, xI l2, xI l3, v4, v5, v6] μ Q :=
  DW_wp (n := 400) (Nat.le_of_ble_eq_true rfl) h
set_option maxRecDepth 20000 in
theorem sg_M_layCame_130 {d : Nat} {l1 l2 : Int} {v3 v4 v5 v6 : AV} {μ : Mem} {Q : AV → Mem → Prop} (h : DW (d + 4) 191 50 [xR 61, xI l1, xI (iw (l2 + 1)), v3, v4, v5, v6] μ Q) : DW (d + 4) 191 130 [xR 61, xI l1, xI l2, v3, v4, v5, v6] μ Q :=
  DW_wp (n := 400) (Nat.le_of_ble_eq_true rfl) h
set_option maxRecDepth 20000 in
theorem sg_M_layCame_133 {d : Nat} {l1 : Int} {v2 v3 v4 v5 v6 : AV} {μ : Mem} {Q : AV → Mem → Prop} (h : DW (d + 4) 191 136 [xR 61, xI l1, xI 0, v3, v4, v5, v6] μ Q) : DW (d + 4) 191 133 [xR 61, xI l1, v2, v3, v4, v5, v6] μ Q :=
  DW_wp (n := 400) (Nat.le_of_ble_eq_true rfl) h
set_option maxRecDepth 20000 in
theorem sg_M_layCame_136 {d : Nat} {l1 l2 : Int} {v3 v4 v5 v6 : AV} {μ : Mem} {Q : AV → Mem → Prop} (h : GM (d + 3) 168 [xR 61] μ (gI (fun r2 m1 => if l2 < r2 then (wb (iw (720 + l2)) 5040 (wb l2 5040 (DW (d + 4) 191 136 [xR 61, xI l1, xI (iw (l2 + 1)), v3, v4, v5, v6] (xset m1 73 l2.toNat (m1 73 (iw (720 + l2)).toNat)) Q))) else (DW (d + 4) 191 153 [xR 61, xI l1, xI l2, v3, v4, v5, v6] m1 Q)))) : DW (d + 4) 191 136 [xR 61, xI l1, xI l2, v3, v4, v5, v6] μ Q :=
  DW_wp (n := 400) (Nat.le_of_ble_eq_true rfl) h
set_option maxRecDepth 20000 in
theorem sg_M_layCame_153 {d : Nat} {l1 : Int} {v2 v3 v4 v5 v6 : AV} {μ : Mem} {Q : AV → Mem → Prop} (h : DW (d + 4) 191 21 [xR 61, xI (iw (l1 + 1)), v2, v3, v4, v5, v6] μ Q) : DW (d + 4) 191 153 [xR 61, xI l1, v2, v3, v4, v5, v6] μ Q :=
  DW_wp (n := 400) (Nat.le_of_ble_eq_true rfl) h
set_option maxRecDepth 20000 in
theorem ge_M_count {d : Nat} {p1 : Int} {μ : Mem} {Q : AV → Mem → Prop} (h : DW (d + 2) 192 6 [xR 61, xI p1, xI 0, xI 0, xI 0] μ Q) : GM (d + 2) 192 [xR 61, xI p1] μ Q :=
  GM_wp (n := 400) (Nat.le_of_ble_eq_true rfl) (Nat.le_of_ble_eq_true rfl) rfl h
set_option maxRecDepth 20000 in
theorem sg_M_count_6 {d : Nat} {l1 l2 l3 l4 : Int} {μ : Mem} {Q : AV → Mem → Prop} (h : if l4 < μ 61 2 then (wb l4 27 (if μ 67 l4.toNat = l4 then (DW (d + 2) 192 6 [xR 61, xI l1, xI (xior l2 (xshl 1 l4)), xI l3, xI (iw (l4 + 1))] μ Q) else (DW (d + 2) 192 6 [xR 61, xI l1, xI (xior l2 0), xI l3, xI (iw (l4 + 1))] μ Q))) else (DW (d + 2) 192 27 [xR 61, xI l1, xI l2, xI l3, xI l4] μ Q)) : DW (d + 2) 192 6 [xR 61, xI l1, xI l2, xI l3, xI l4] μ Q :=
  DW_wp (n := 400) (Nat.le_of_ble_eq_true rfl) h
set_option maxRecDepth 20000 in
theorem sg_M_count_27 {d : Nat} {l1 l2 l3 : Int} {v4 : AV} {μ : Mem} {Q : AV → Mem → Prop} (h : if l1 = 0 then (Q (xI (μ 61 0)) μ) else (if l1 = 1 then (Q (xI (μ 61 2)) μ) else (if l1 = 2 then (Q (xI (μ 61 4)) μ) else (if l1 = 3 then (Q (xI (μ 67 24)) μ) else (if l1 = 4 then (Q (xI (μ 67 25)) μ) else (if l1 = 5 then (Q (xI (μ 67 26)) μ) else (if l1 = 6 then (Q (xI l2) μ) else (if l1 = 7 then (DW (d + 2) 192 58 [xR 61, xI l1, xI l2, xI l3, xI 0] μ Q) else (if l1 = 8 then (Q (xI (μ 61 22)) μ) else (if l1 = 9 then (Q (xI (μ 61 6)) μ) else (Q (xI (-3)) μ))))))))))) : DW (d + 2) 192 27 [xR 61, xI l1, xI l2, xI l3, v4] μ Q :=
  DW_wp (n := 400) (Nat.le_of_ble_eq_true rfl) h
set_option maxRecDepth 20000 in
theorem sg_M_count_58 {d : Nat} {l3 l4 : Int} {v1 v2 : AV} {μ : Mem} {Q : AV → Mem → Prop} (h : GM (d + 1) 168 [xR 61] μ (gI (fun r2 m1 => if l4 < r2 then (GM (d + 1) 169 [xR 61, xI l4] m1 (gV (fun m3 => GM (d + 1) 170 [xR 61] m3 (gI (fun r5 m4 => if r5 = 0 then (DW (d + 2) 192 58 [xR 61, v1, v2, xI (iw (l3 + 0)), xI (iw (l4 + 1))] m4 Q) else (DW (d + 2) 192 58 [xR 61, v1, v2, xI (iw (l3 + 1)), xI (iw (l4 + 1))] m4 Q)))))) else (Q (xI l3) m1)))) : DW (d + 2) 192 58 [xR 61, v1, v2, xI l3, xI l4] μ Q :=
  DW_wp (n := 400) (Nat.le_of_ble_eq_true rfl) h
end
section
set_option maxRecDepth 20000 in
theorem ge_X_write {d : Nat} {p1 : Int} {μ : Mem} {Q : AV → Mem → Prop} (h : if p1 < 0 then (Q (xI (-3)) μ) else (if 255 < p1 then (Q (xI (-3)) μ) else (GM d 1 [xR 1, xI p1] μ (gI (fun r2 m1 => if r2 = 0 then (Q (xI (-5)) m1) else (Q (xI (m1 1 1)) m1)))))) : GM (d + 1) 0 [xR 0, xI p1] μ Q :=
  GM_wp (n := 400) (Nat.le_of_ble_eq_true rfl) (Nat.le_of_ble_eq_true rfl) rfl h
set_option maxRecDepth 20000 in
theorem ge_Text_append {d : Nat} {p1 : Int} {μ : Mem} {Q : AV → Mem → Prop} (h : if μ 1 1 < 160 then (wb (μ 1 1) 160 (Q (xI 1) (xset (xset μ 13 ((μ 1 1).toNat) p1) 1 1 (iw ((μ 1 1) + 1))))) else (Q (xI 0) μ)) : GM d 1 [xR 1, xI p1] μ Q :=
  GM_wp (n := 400) (Nat.le_of_ble_eq_true rfl) (Nat.le_of_ble_eq_true rfl) rfl h
set_option maxRecDepth 20000 in
theorem ge_X_erase {d : Nat} {μ : Mem} {Q : AV → Mem → Prop} (h : Q (xI (μ 1 1)) (xset μ 1 1 0)) : GM d 2 [xR 0] μ Q :=
  GM_wp (n := 400) (Nat.le_of_ble_eq_true rfl) (Nat.le_of_ble_eq_true rfl) rfl h
set_option maxRecDepth 20000 in
theorem ge_X_fault {d : Nat} {μ : Mem} {Q : AV → Mem → Prop} (h : GM (d + 6) 4 [xR 1, xI (μ 2 0), xI (μ 2 1), xI (μ 2 2)] μ (gI (fun r2 m1 => Q (xI r2) m1))) : GM (d + 7) 3 [xR 0] μ Q :=
  GM_wp (n := 400) (Nat.le_of_ble_eq_true rfl) (Nat.le_of_ble_eq_true rfl) rfl h
set_option maxRecDepth 20000 in
theorem ge_Text_read {d : Nat} {p1 p2 p3 : Int} {μ : Mem} {Q : AV → Mem → Prop} (h : DW (d + 6) 4 17 [xR 1, xI p1, xI p2, xI p3, xI 0, xL 0] (xset (xset (xset (xset (xset μ 1 7 p1) 1 8 p2) 1 9 p3) 1 4 0) 1 6 0) Q) : GM (d + 6) 4 [xR 1, xI p1, xI p2, xI p3] μ Q :=
  GM_wp (n := 400) (Nat.le_of_ble_eq_true rfl) (Nat.le_of_ble_eq_true rfl) rfl h
set_option maxRecDepth 20000 in
theorem sg_Text_read_17 {d : Nat} {l4 : Int} {v1 v2 v3 v5 : AV} {μ : Mem} {Q : AV → Mem → Prop} (h : if l4 < 14 then (GM (d + 5) 5 [xR 1] μ (gV (fun m1 => GM (d + 5) 8 [xR 1] m1 (gI (fun r3 m2 => if r3 = (-1) then (Q (xI (m2 1 5)) m2) else (GM (d + 5) 18 [xR 1, xI r3] m2 (gI (fun r5 m4 => if r5 = 0 then (Q (xI (m4 1 5)) m4) else (wb l4 14 (if r3 = 5 then (GM (d + 5) 22 [xR 1, xI l4, xR 111] (xset m4 14 l4.toNat r3) (gI (fun r31 m30 => if r31 = 0 then (Q (xI (m30 1 5)) m30) else (GM (d + 5) 25 [xR 1, xI r3] m30 (gV (fun m32 => GM (d + 5) 5 [xR 1] (xset m32 1 4 (iw (l4 + 1))) (gV (fun m33 => if m33 1 5 < m33 1 1 then (wb (m33 1 5) 160 (if m33 13 (m33 1 5).toNat = 59 then (DW (d + 6) 4 17 [xR 1, v1, v2, v3, xI (iw (l4 + 1)), xI r3] m33 Q) else (Q (xI (m33 1 5)) m33))) else (Q (xI (-1)) m33))))))))) else (if r3 = 6 then (GM (d + 5) 22 [xR 1, xI l4, xR 112] (xset m4 14 l4.toNat r3) (gI (fun r27 m26 => if r27 = 0 then (Q (xI (m26 1 5)) m26) else (GM (d + 5) 25 [xR 1, xI r3] m26 (gV (fun m28 => GM (d + 5) 5 [xR 1] (xset m28 1 4 (iw (l4 + 1))) (gV (fun m29 => if m29 1 5 < m29 1 1 then (wb (m29 1 5) 160 (if m29 13 (m29 1 5).toNat = 59 then (DW (d + 6) 4 17 [xR 1, v1, v2, v3, xI (iw (l4 + 1)), xI r3] m29 Q) else (Q (xI (m29 1 5)) m29))) else (Q (xI (-1)) m29))))))))) else (if r3 = 7 then (GM (d + 5) 22 [xR 1, xI l4, xR 113] (xset m4 14 l4.toNat r3) (gI (fun r23 m22 => if r23 = 0 then (Q (xI (m22 1 5)) m22) else (GM (d + 5) 25 [xR 1, xI r3] m22 (gV (fun m24 => GM (d + 5) 5 [xR 1] (xset m24 1 4 (iw (l4 + 1))) (gV (fun m25 => if m25 1 5 < m25 1 1 then (wb (m25 1 5) 160 (if m25 13 (m25 1 5).toNat = 59 then (DW (d + 6) 4 17 [xR 1, v1, v2, v3, xI (iw (l4 + 1)), xI r3] m25 Q) else (Q (xI (m25 1 5)) m25))) else (Q (xI (-1)) m25))))))))) else (if r3 = 8 then (GM (d + 5) 22 [xR 1, xI l4, xR 112] (xset m4 14 l4.toNat r3) (gI (fun r19 m18 => if r19 = 0 then (Q (xI (m18 1 5)) m18) else (GM (d + 5) 25 [xR 1, xI r3] m18 (gV (fun m20 => GM (d + 5) 5 [xR 1] (xset m20 1 4 (iw (l4 + 1))) (gV (fun m21 => if m21 1 5 < m21 1 1 then (wb (m21 1 5) 160 (if m21 13 (m21 1 5).toNat = 59 then (DW (d + 6) 4 17 [xR 1, v1, v2, v3, xI (iw (l4 + 1)), xI r3] m21 Q) else (Q (xI (m21 1 5)) m21))) else (Q (xI (-1)) m21))))))))) else (if r3 = 9 then (GM (d + 5) 22 [xR 1, xI l4, xR 114] (xset m4 14 l4.toNat r3) (gI (fun r15 m14 => if r15 = 0 then (Q (xI (m14 1 5)) m14) else (GM (d + 5) 25 [xR 1, xI r3] m14 (gV (fun m16 => GM (d + 5) 5 [xR 1] (xset m16 1 4 (iw (l4 + 1))) (gV (fun m17 => if m17 1 5 < m17 1 1 then (wb (m17 1 5) 160 (if m17 13 (m17 1 5).toNat = 59 then (DW (d + 6) 4 17 [xR 1, v1, v2, v3, xI (iw (l4 + 1)), xI r3] m17 Q) else (Q (xI (m17 1 5)) m17))) else (Q (xI (-1)) m17))))))))) else (if r3 = 10 then (GM (d + 5) 22 [xR 1, xI l4, xR 115] (xset m4 14 l4.toNat r3) (gI (fun r11 m10 => if r11 = 0 then (Q (xI (m10 1 5)) m10) else (GM (d + 5) 25 [xR 1, xI r3] m10 (gV (fun m12 => GM (d + 5) 5 [xR 1] (xset m12 1 4 (iw (l4 + 1))) (gV (fun m13 => if m13 1 5 < m13 1 1 then (wb (m13 1 5) 160 (if m13 13 (m13 1 5).toNat = 59 then (DW (d + 6) 4 17 [xR 1, v1, v2, v3, xI (iw (l4 + 1)), xI r3] m13 Q) else (Q (xI (m13 1 5)) m13))) else (Q (xI (-1)) m13))))))))) else (GM (d + 5) 22 [xR 1, xI l4, xR 116] (xset m4 14 l4.toNat r3) (gI (fun r7 m6 => if r7 = 0 then (Q (xI (m6 1 5)) m6) else (GM (d + 5) 25 [xR 1, xI r3] m6 (gV (fun m8 => GM (d + 5) 5 [xR 1] (xset m8 1 4 (iw (l4 + 1))) (gV (fun m9 => if m9 1 5 < m9 1 1 then (wb (m9 1 5) 160 (if m9 13 (m9 1 5).toNat = 59 then (DW (d + 6) 4 17 [xR 1, v1, v2, v3, xI (iw (l4 + 1)), xI r3] m9 Q) else (Q (xI (m9 1 5)) m9))) else (Q (xI (-1)) m9)))))))))))))))))))))))) else (Q (xI (μ 1 5)) μ)) : DW (d + 6) 4 17 [xR 1, v1, v2, v3, xI l4, v5] μ Q :=
  DW_wp (n := 400) (Nat.le_of_ble_eq_true rfl) h
set_option maxRecDepth 20000 in
theorem ge_Text_step {d : Nat} {μ : Mem} {Q : AV → Mem → Prop} (h : DW (d + 1) 5 4 [xR 1] (xset μ 1 5 (μ 1 6)) Q) : GM (d + 1) 5 [xR 1] μ Q :=
  GM_wp (n := 400) (Nat.le_of_ble_eq_true rfl) (Nat.le_of_ble_eq_true rfl) rfl h
set_option maxRecDepth 20000 in
theorem sg_Text_step_4 {d : Nat} {μ : Mem} {Q : AV → Mem → Prop} (h : if μ 1 5 < μ 1 1 then (wb (μ 1 5) 160 (if μ 13 (μ 1 5).toNat = 32 then (DW (d + 1) 5 4 [xR 1] (xset μ 1 5 (iw ((μ 1 5) + 1))) Q) else (DW (d + 1) 5 24 [xR 1] μ Q))) else (DW (d + 1) 5 24 [xR 1] μ Q)) : DW (d + 1) 5 4 [xR 1] μ Q :=
  DW_wp (n := 400) (Nat.le_of_ble_eq_true rfl) h
set_option maxRecDepth 20000 in
theorem sg_Text_step_24 {d : Nat} {μ : Mem} {Q : AV → Mem → Prop} (h : if μ 1 5 < μ 1 1 then (wb (μ 1 5) 160 (if μ 13 (μ 1 5).toNat < 97 then (wb (μ 1 5) 160 (if μ 13 (μ 1 5).toNat < 48 then (Q (xI 0) (xset (xset μ 1 6 (μ 1 5)) 1 6 (iw ((μ 1 5) + 1)))) else (if 57 < μ 13 (μ 1 5).toNat then (Q (xI 0) (xset (xset μ 1 6 (μ 1 5)) 1 6 (iw ((μ 1 5) + 1)))) else (DW (d + 1) 5 69 [xR 1] (xset μ 1 6 (μ 1 5)) Q)))) else (if 122 < μ 13 (μ 1 5).toNat then (wb (μ 1 5) 160 (if μ 13 (μ 1 5).toNat < 48 then (Q (xI 0) (xset (xset μ 1 6 (μ 1 5)) 1 6 (iw ((μ 1 5) + 1)))) else (if 57 < μ 13 (μ 1 5).toNat then (Q (xI 0) (xset (xset μ 1 6 (μ 1 5)) 1 6 (iw ((μ 1 5) + 1)))) else (DW (d + 1) 5 69 [xR 1] (xset μ 1 6 (μ 1 5)) Q)))) else (DW (d + 1) 5 42 [xR 1] (xset μ 1 6 (μ 1 5)) Q)))) else (Q (xI 0) (xset μ 1 6 (μ 1 5)))) : DW (d + 1) 5 24 [xR 1] μ Q :=
  DW_wp (n := 400) (Nat.le_of_ble_eq_true rfl) h
set_option maxRecDepth 20000 in
theorem sg_Text_step_42 {d : Nat} {μ : Mem} {Q : AV → Mem → Prop} (h : if μ 1 6 < μ 1 1 then (wb (μ 1 6) 160 (if μ 13 (μ 1 6).toNat < 97 then (Q (xI 0) μ) else (if 122 < μ 13 (μ 1 6).toNat then (Q (xI 0) μ) else (DW (d + 1) 5 42 [xR 1] (xset μ 1 6 (iw ((μ 1 6) + 1))) Q)))) else (Q (xI 0) μ)) : DW (d + 1) 5 42 [xR 1] μ Q :=
  DW_wp (n := 400) (Nat.le_of_ble_eq_true rfl) h
set_option maxRecDepth 20000 in
theorem sg_Text_step_69 {d : Nat} {μ : Mem} {Q : AV → Mem → Prop} (h : if μ 1 6 < μ 1 1 then (wb (μ 1 6) 160 (if μ 13 (μ 1 6).toNat < 48 then (Q (xI 0) μ) else (if 57 < μ 13 (μ 1 6).toNat then (Q (xI 0) μ) else (DW (d + 1) 5 69 [xR 1] (xset μ 1 6 (iw ((μ 1 6) + 1))) Q)))) else (Q (xI 0) μ)) : DW (d + 1) 5 69 [xR 1] μ Q :=
  DW_wp (n := 400) (Nat.le_of_ble_eq_true rfl) h
set_option maxRecDepth 20000 in
theorem ge_Text_wordHere {d : Nat} {μ : Mem} {Q : AV → Mem → Prop} (h : DW (d + 5) 8 2 [xR 1, xI 0] μ Q) : GM (d + 5) 8 [xR 1] μ Q :=
  GM_wp (n := 400) (Nat.le_of_ble_eq_true rfl) (Nat.le_of_ble_eq_true rfl) rfl h
set_option maxRecDepth 20000 in
theorem sg_Text_wordHere_2 {d : Nat} {l1 : Int} {μ : Mem} {Q : AV → Mem → Prop} (h : if l1 < 11 then (if l1 = 0 then (GM (d + 4) 10 [xR 1, xR 100] μ (gI (fun r22 m21 => if r22 = 0 then (DW (d + 5) 8 2 [xR 1, xI (iw (l1 + 1))] m21 Q) else (Q (xI l1) m21)))) else (if l1 = 1 then (GM (d + 4) 10 [xR 1, xR 101] μ (gI (fun r20 m19 => if r20 = 0 then (DW (d + 5) 8 2 [xR 1, xI (iw (l1 + 1))] m19 Q) else (Q (xI l1) m19)))) else (if l1 = 2 then (GM (d + 4) 10 [xR 1, xR 102] μ (gI (fun r18 m17 => if r18 = 0 then (DW (d + 5) 8 2 [xR 1, xI (iw (l1 + 1))] m17 Q) else (Q (xI l1) m17)))) else (if l1 = 3 then (GM (d + 4) 10 [xR 1, xR 103] μ (gI (fun r16 m15 => if r16 = 0 then (DW (d + 5) 8 2 [xR 1, xI (iw (l1 + 1))] m15 Q) else (Q (xI l1) m15)))) else (if l1 = 4 then (GM (d + 4) 10 [xR 1, xR 104] μ (gI (fun r14 m13 => if r14 = 0 then (DW (d + 5) 8 2 [xR 1, xI (iw (l1 + 1))] m13 Q) else (Q (xI l1) m13)))) else (if l1 = 5 then (GM (d + 4) 10 [xR 1, xR 105] μ (gI (fun r12 m11 => if r12 = 0 then (DW (d + 5) 8 2 [xR 1, xI (iw (l1 + 1))] m11 Q) else (Q (xI l1) m11)))) else (if l1 = 6 then (GM (d + 4) 10 [xR 1, xR 106] μ (gI (fun r10 m9 => if r10 = 0 then (DW (d + 5) 8 2 [xR 1, xI (iw (l1 + 1))] m9 Q) else (Q (xI l1) m9)))) else (if l1 = 7 then (GM (d + 4) 10 [xR 1, xR 107] μ (gI (fun r8 m7 => if r8 = 0 then (DW (d + 5) 8 2 [xR 1, xI (iw (l1 + 1))] m7 Q) else (Q (xI l1) m7)))) else (if l1 = 8 then (GM (d + 4) 10 [xR 1, xR 108] μ (gI (fun r6 m5 => if r6 = 0 then (DW (d + 5) 8 2 [xR 1, xI (iw (l1 + 1))] m5 Q) else (Q (xI l1) m5)))) else (if l1 = 9 then (GM (d + 4) 10 [xR 1, xR 109] μ (gI (fun r4 m3 => if r4 = 0 then (DW (d + 5) 8 2 [xR 1, xI (iw (l1 + 1))] m3 Q) else (Q (xI l1) m3)))) else (GM (d + 4) 10 [xR 1, xR 110] μ (gI (fun r2 m1 => if r2 = 0 then (DW (d + 5) 8 2 [xR 1, xI (iw (l1 + 1))] m1 Q) else (Q (xI l1) m1)))))))))))))) else (Q (xI (-1)) μ)) : DW (d + 5) 8 2 [xR 1, xI l1] μ Q :=
  DW_wp (n := 400) (Nat.le_of_ble_eq_true rfl) h
set_option maxRecDepth 20000 in
theorem ge_Text_standsHere_1_100 {d : Nat} {μ : Mem} {Q : AV → Mem → Prop} (h : if iw ((μ 1 6) - (μ 1 5)) = 3 then (DW (d + 4) 10 12 [xR 1, xR 100, xI 0] μ Q) else (Q (xI 0) μ)) : GM (d + 4) 10 [xR 1, xR 100] μ Q :=
  GM_wp (n := 400) (Nat.le_of_ble_eq_true rfl) (Nat.le_of_ble_eq_true rfl) rfl h
set_option maxRecDepth 20000 in
theorem sg_Text_standsHere_1_100_12 {d : Nat} {l2 : Int} {μ : Mem} {Q : AV → Mem → Prop} (h : if l2 < 3 then (if iw ((μ 1 5) + l2) < μ 1 1 then (wb (iw ((μ 1 5) + l2)) 160 (if l2 < 0 then False else (if l2 < 3 then (wb l2 3 (wb (xi2c (xand (([105, 110, 110] : List Int).getD l2.toNat 0) 255)) 65536 (wb (xi2c (xand (([105, 110, 110] : List Int).getD l2.toNat 0) 255)) 65536 (if μ 13 (iw ((μ 1 5) + l2)).toNat = xi2c (xand (([105, 110, 110] : List Int).getD l2.toNat 0) 255) then (DW (d + 4) 10 12 [xR 1, xR 100, xI (iw (l2 + 1))] μ Q) else (Q (xI 0) μ))))) else False))) else (Q (xI 1) μ)) else (Q (xI 1) μ)) : DW (d + 4) 10 12 [xR 1, xR 100, xI l2] μ Q :=
  DW_wp (n := 400) (Nat.le_of_ble_eq_true rfl) h
set_option maxRecDepth 20000 in
theorem ge_Text_standsHere_1_101 {d : Nat} {μ : Mem} {Q : AV → Mem → Prop} (h : if iw ((μ 1 6) - (μ 1 5)) = 5 then (DW (d + 4) 10 12 [xR 1, xR 101, xI 0] μ Q) else (Q (xI 0) μ)) : GM (d + 4) 10 [xR 1, xR 101] μ Q :=
  GM_wp (n := 400) (Nat.le_of_ble_eq_true rfl) (Nat.le_of_ble_eq_true rfl) rfl h
set_option maxRecDepth 20000 in
theorem sg_Text_standsHere_1_101_12 {d : Nat} {l2 : Int} {μ : Mem} {Q : AV → Mem → Prop} (h : if l2 < 5 then (if iw ((μ 1 5) + l2) < μ 1 1 then (wb (iw ((μ 1 5) + l2)) 160 (if l2 < 0 then False else (if l2 < 5 then (wb l2 5 (wb (xi2c (xand (([103, 117, 101, 115, 116] : List Int).getD l2.toNat 0) 255)) 65536 (wb (xi2c (xand (([103, 117, 101, 115, 116] : List Int).getD l2.toNat 0) 255)) 65536 (if μ 13 (iw ((μ 1 5) + l2)).toNat = xi2c (xand (([103, 117, 101, 115, 116] : List Int).getD l2.toNat 0) 255) then (DW (d + 4) 10 12 [xR 1, xR 101, xI (iw (l2 + 1))] μ Q) else (Q (xI 0) μ))))) else False))) else (Q (xI 1) μ)) else (Q (xI 1) μ)) : DW (d + 4) 10 12 [xR 1, xR 101, xI l2] μ Q :=
  DW_wp (n := 400) (Nat.le_of_ble_eq_true rfl) h
set_option maxRecDepth 20000 in
theorem ge_Text_standsHere_1_102 {d : Nat} {μ : Mem} {Q : AV → Mem → Prop} (h : if iw ((μ 1 6) - (μ 1 5)) = 7 then (DW (d + 4) 10 12 [xR 1, xR 102, xI 0] μ Q) else (Q (xI 0) μ)) : GM (d + 4) 10 [xR 1, xR 102] μ Q :=
  GM_wp (n := 400) (Nat.le_of_ble_eq_true rfl) (Nat.le_of_ble_eq_true rfl) rfl h
set_option maxRecDepth 20000 in
theorem sg_Text_standsHere_1_102_12 {d : Nat} {l2 : Int} {μ : Mem} {Q : AV → Mem → Prop} (h : if l2 < 7 then (if iw ((μ 1 5) + l2) < μ 1 1 then (wb (iw ((μ 1 5) + l2)) 160 (if l2 < 0 then False else (if l2 < 7 then (wb l2 7 (wb (xi2c (xand (([119, 97, 116, 99, 104, 101, 114] : List Int).getD l2.toNat 0) 255)) 65536 (wb (xi2c (xand (([119, 97, 116, 99, 104, 101, 114] : List Int).getD l2.toNat 0) 255)) 65536 (if μ 13 (iw ((μ 1 5) + l2)).toNat = xi2c (xand (([119, 97, 116, 99, 104, 101, 114] : List Int).getD l2.toNat 0) 255) then (DW (d + 4) 10 12 [xR 1, xR 102, xI (iw (l2 + 1))] μ Q) else (Q (xI 0) μ))))) else False))) else (Q (xI 1) μ)) else (Q (xI 1) μ)) : DW (d + 4) 10 12 [xR 1, xR 102, xI l2] μ Q :=
  DW_wp (n := 400) (Nat.le_of_ble_eq_true rfl) h
set_option maxRecDepth 20000 in
theorem ge_Text_standsHere_1_103 {d : Nat} {μ : Mem} {Q : AV → Mem → Prop} (h : if iw ((μ 1 6) - (μ 1 5)) = 6 then (DW (d + 4) 10 12 [xR 1, xR 103, xI 0] μ Q) else (Q (xI 0) μ)) : GM (d + 4) 10 [xR 1, xR 103] μ Q :=
  GM_wp (n := 400) (Nat.le_of_ble_eq_true rfl) (Nat.le_of_ble_eq_true rfl) rfl h
set_option maxRecDepth 20000 in
theorem sg_Text_standsHere_1_103_12 {d : Nat} {l2 : Int} {μ : Mem} {Q : AV → Mem → Prop} (h : if l2 < 6 then (if iw ((μ 1 5) + l2) < μ 1 1 then (wb (iw ((μ 1 5) + l2)) 160 (if l2 < 0 then False else (if l2 < 6 then (wb l2 6 (wb (xi2c (xand (([108, 101, 110, 100, 101, 114] : List Int).getD l2.toNat 0) 255)) 65536 (wb (xi2c (xand (([108, 101, 110, 100, 101, 114] : List Int).getD l2.toNat 0) 255)) 65536 (if μ 13 (iw ((μ 1 5) + l2)).toNat = xi2c (xand (([108, 101, 110, 100, 101, 114] : List Int).getD l2.toNat 0) 255) then (DW (d + 4) 10 12 [xR 1, xR 103, xI (iw (l2 + 1))] μ Q) else (Q (xI 0) μ))))) else False))) else (Q (xI 1) μ)) else (Q (xI 1) μ)) : DW (d + 4) 10 12 [xR 1, xR 103, xI l2] μ Q :=
  DW_wp (n := 400) (Nat.le_of_ble_eq_true rfl) h
set_option maxRecDepth 20000 in
theorem ge_Text_standsHere_1_104 {d : Nat} {μ : Mem} {Q : AV → Mem → Prop} (h : if iw ((μ 1 6) - (μ 1 5)) = 4 then (DW (d + 4) 10 12 [xR 1, xR 104, xI 0] μ Q) else (Q (xI 0) μ)) : GM (d + 4) 10 [xR 1, xR 104] μ Q :=
  GM_wp (n := 400) (Nat.le_of_ble_eq_true rfl) (Nat.le_of_ble_eq_true rfl) rfl h
set_option maxRecDepth 20000 in
theorem sg_Text_standsHere_1_104_12 {d : Nat} {l2 : Int} {μ : Mem} {Q : AV → Mem → Prop} (h : if l2 < 4 then (if iw ((μ 1 5) + l2) < μ 1 1 then (wb (iw ((μ 1 5) + l2)) 160 (if l2 < 0 then False else (if l2 < 4 then (wb l2 4 (wb (xi2c (xand (([104, 111, 115, 116] : List Int).getD l2.toNat 0) 255)) 65536 (wb (xi2c (xand (([104, 111, 115, 116] : List Int).getD l2.toNat 0) 255)) 65536 (if μ 13 (iw ((μ 1 5) + l2)).toNat = xi2c (xand (([104, 111, 115, 116] : List Int).getD l2.toNat 0) 255) then (DW (d + 4) 10 12 [xR 1, xR 104, xI (iw (l2 + 1))] μ Q) else (Q (xI 0) μ))))) else False))) else (Q (xI 1) μ)) else (Q (xI 1) μ)) : DW (d + 4) 10 12 [xR 1, xR 104, xI l2] μ Q :=
  DW_wp (n := 400) (Nat.le_of_ble_eq_true rfl) h
set_option maxRecDepth 20000 in
theorem ge_Text_standsHere_1_105 {d : Nat} {μ : Mem} {Q : AV → Mem → Prop} (h : if iw ((μ 1 6) - (μ 1 5)) = 4 then (DW (d + 4) 10 12 [xR 1, xR 105, xI 0] μ Q) else (Q (xI 0) μ)) : GM (d + 4) 10 [xR 1, xR 105] μ Q :=
  GM_wp (n := 400) (Nat.le_of_ble_eq_true rfl) (Nat.le_of_ble_eq_true rfl) rfl h
set_option maxRecDepth 20000 in
theorem sg_Text_standsHere_1_105_12 {d : Nat} {l2 : Int} {μ : Mem} {Q : AV → Mem → Prop} (h : if l2 < 4 then (if iw ((μ 1 5) + l2) < μ 1 1 then (wb (iw ((μ 1 5) + l2)) 160 (if l2 < 0 then False else (if l2 < 4 then (wb l2 4 (wb (xi2c (xand (([100, 117, 108, 108] : List Int).getD l2.toNat 0) 255)) 65536 (wb (xi2c (xand (([100, 117, 108, 108] : List Int).getD l2.toNat 0) 255)) 65536 (if μ 13 (iw ((μ 1 5) + l2)).toNat = xi2c (xand (([100, 117, 108, 108] : List Int).getD l2.toNat 0) 255) then (DW (d + 4) 10 12 [xR 1, xR 105, xI (iw (l2 + 1))] μ Q) else (Q (xI 0) μ))))) else False))) else (Q (xI 1) μ)) else (Q (xI 1) μ)) : DW (d + 4) 10 12 [xR 1, xR 105, xI l2] μ Q :=
  DW_wp (n := 400) (Nat.le_of_ble_eq_true rfl) h
set_option maxRecDepth 20000 in
theorem ge_Text_standsHere_1_106 {d : Nat} {μ : Mem} {Q : AV → Mem → Prop} (h : if iw ((μ 1 6) - (μ 1 5)) = 4 then (DW (d + 4) 10 12 [xR 1, xR 106, xI 0] μ Q) else (Q (xI 0) μ)) : GM (d + 4) 10 [xR 1, xR 106] μ Q :=
  GM_wp (n := 400) (Nat.le_of_ble_eq_true rfl) (Nat.le_of_ble_eq_true rfl) rfl h
set_option maxRecDepth 20000 in
theorem sg_Text_standsHere_1_106_12 {d : Nat} {l2 : Int} {μ : Mem} {Q : AV → Mem → Prop} (h : if l2 < 4 then (if iw ((μ 1 5) + l2) < μ 1 1 then (wb (iw ((μ 1 5) + l2)) 160 (if l2 < 0 then False else (if l2 < 4 then (wb l2 4 (wb (xi2c (xand (([116, 114, 117, 101] : List Int).getD l2.toNat 0) 255)) 65536 (wb (xi2c (xand (([116, 114, 117, 101] : List Int).getD l2.toNat 0) 255)) 65536 (if μ 13 (iw ((μ 1 5) + l2)).toNat = xi2c (xand (([116, 114, 117, 101] : List Int).getD l2.toNat 0) 255) then (DW (d + 4) 10 12 [xR 1, xR 106, xI (iw (l2 + 1))] μ Q) else (Q (xI 0) μ))))) else False))) else (Q (xI 1) μ)) else (Q (xI 1) μ)) : DW (d + 4) 10 12 [xR 1, xR 106, xI l2] μ Q :=
  DW_wp (n := 400) (Nat.le_of_ble_eq_true rfl) h
set_option maxRecDepth 20000 in
theorem ge_Text_standsHere_1_107 {d : Nat} {μ : Mem} {Q : AV → Mem → Prop} (h : if iw ((μ 1 6) - (μ 1 5)) = 6 then (DW (d + 4) 10 12 [xR 1, xR 107, xI 0] μ Q) else (Q (xI 0) μ)) : GM (d + 4) 10 [xR 1, xR 107] μ Q :=
  GM_wp (n := 400) (Nat.le_of_ble_eq_true rfl) (Nat.le_of_ble_eq_true rfl) rfl h
set_option maxRecDepth 20000 in
theorem sg_Text_standsHere_1_107_12 {d : Nat} {l2 : Int} {μ : Mem} {Q : AV → Mem → Prop} (h : if l2 < 6 then (if iw ((μ 1 5) + l2) < μ 1 1 then (wb (iw ((μ 1 5) + l2)) 160 (if l2 < 0 then False else (if l2 < 6 then (wb l2 6 (wb (xi2c (xand (([102, 97, 100, 105, 110, 103] : List Int).getD l2.toNat 0) 255)) 65536 (wb (xi2c (xand (([102, 97, 100, 105, 110, 103] : List Int).getD l2.toNat 0) 255)) 65536 (if μ 13 (iw ((μ 1 5) + l2)).toNat = xi2c (xand (([102, 97, 100, 105, 110, 103] : List Int).getD l2.toNat 0) 255) then (DW (d + 4) 10 12 [xR 1, xR 107, xI (iw (l2 + 1))] μ Q) else (Q (xI 0) μ))))) else False))) else (Q (xI 1) μ)) else (Q (xI 1) μ)) : DW (d + 4) 10 12 [xR 1, xR 107, xI l2] μ Q :=
  DW_wp (n := 400) (Nat.le_of_ble_eq_true rfl) h
set_option maxRecDepth 20000 in
theorem ge_Text_standsHere_1_108 {d : Nat} {μ : Mem} {Q : AV → Mem → Prop} (h : if iw ((μ 1 6) - (μ 1 5)) = 5 then (DW (d + 4) 10 12 [xR 1, xR 108, xI 0] μ Q) else (Q (xI 0) μ)) : GM (d + 4) 10 [xR 1, xR 108] μ Q :=
  GM_wp (n := 400) (Nat.le_of_ble_eq_true rfl) (Nat.le_of_ble_eq_true rfl) rfl h
set_option maxRecDepth 20000 in
theorem sg_Text_standsHere_1_108_12 {d : Nat} {l2 : Int} {μ : Mem} {Q : AV → Mem → Prop} (h : if l2 < 5 then (if iw ((μ 1 5) + l2) < μ 1 1 then (wb (iw ((μ 1 5) + l2)) 160 (if l2 < 0 then False else (if l2 < 5 then (wb l2 5 (wb (xi2c (xand (([109, 111, 111, 100, 121] : List Int).getD l2.toNat 0) 255)) 65536 (wb (xi2c (xand (([109, 111, 111, 100, 121] : List Int).getD l2.toNat 0) 255)) 65536 (if μ 13 (iw ((μ 1 5) + l2)).toNat = xi2c (xand (([109, 111, 111, 100, 121] : List Int).getD l2.toNat 0) 255) then (DW (d + 4) 10 12 [xR 1, xR 108, xI (iw (l2 + 1))] μ Q) else (Q (xI 0) μ))))) else False))) else (Q (xI 1) μ)) else (Q (xI 1) μ)) : DW (d + 4) 10 12 [xR 1, xR 108, xI l2] μ Q :=
  DW_wp (n := 400) (Nat.le_of_ble_eq_true rfl) h
set_option maxRecDepth 20000 in
theorem ge_Text_standsHere_1_109 {d : Nat} {μ : Mem} {Q : AV → Mem → Prop} (h : if iw ((μ 1 6) - (μ 1 5)) = 5 then (DW (d + 4) 10 12 [xR 1, xR 109, xI 0] μ Q) else (Q (xI 0) μ)) : GM (d + 4) 10 [xR 1, xR 109] μ Q :=
  GM_wp (n := 400) (Nat.le_of_ble_eq_true rfl) (Nat.le_of_ble_eq_true rfl) rfl h
set_option maxRecDepth 20000 in
theorem sg_Text_standsHere_1_109_12 {d : Nat} {l2 : Int} {μ : Mem} {Q : AV → Mem → Prop} (h : if l2 < 5 then (if iw ((μ 1 5) + l2) < μ 1 1 then (wb (iw ((μ 1 5) + l2)) 160 (if l2 < 0 then False else (if l2 < 5 then (wb l2 5 (wb (xi2c (xand (([110, 105, 103, 104, 116] : List Int).getD l2.toNat 0) 255)) 65536 (wb (xi2c (xand (([110, 105, 103, 104, 116] : List Int).getD l2.toNat 0) 255)) 65536 (if μ 13 (iw ((μ 1 5) + l2)).toNat = xi2c (xand (([110, 105, 103, 104, 116] : List Int).getD l2.toNat 0) 255) then (DW (d + 4) 10 12 [xR 1, xR 109, xI (iw (l2 + 1))] μ Q) else (Q (xI 0) μ))))) else False))) else (Q (xI 1) μ)) else (Q (xI 1) μ)) : DW (d + 4) 10 12 [xR 1, xR 109, xI l2] μ Q :=
  DW_wp (n := 400) (Nat.le_of_ble_eq_true rfl) h
set_option maxRecDepth 20000 in
theorem ge_Text_standsHere_1_110 {d : Nat} {μ : Mem} {Q : AV → Mem → Prop} (h : if iw ((μ 1 6) - (μ 1 5)) = 5 then (DW (d + 4) 10 12 [xR 1, xR 110, xI 0] μ Q) else (Q (xI 0) μ)) : GM (d + 4) 10 [xR 1, xR 110] μ Q :=
  GM_wp (n := 400) (Nat.le_of_ble_eq_true rfl) (Nat.le_of_ble_eq_true rfl) rfl h
set_option maxRecDepth 20000 in
theorem sg_Text_standsHere_1_110_12 {d : Nat} {l2 : Int} {μ : Mem} {Q : AV → Mem → Prop} (h : if l2 < 5 then (if iw ((μ 1 5) + l2) < μ 1 1 then (wb (iw ((μ 1 5) + l2)) 160 (if l2 < 0 then False else (if l2 < 5 then (wb l2 5 (wb (xi2c (xand (([112, 111, 119, 101, 114] : List Int).getD l2.toNat 0) 255)) 65536 (wb (xi2c (xand (([112, 111, 119, 101, 114] : List Int).getD l2.toNat 0) 255)) 65536 (if μ 13 (iw ((μ 1 5) + l2)).toNat = xi2c (xand (([112, 111, 119, 101, 114] : List Int).getD l2.toNat 0) 255) then (DW (d + 4) 10 12 [xR 1, xR 110, xI (iw (l2 + 1))] μ Q) else (Q (xI 0) μ))))) else False))) else (Q (xI 1) μ)) else (Q (xI 1) μ)) : DW (d + 4) 10 12 [xR 1, xR 110, xI l2] μ Q :=
  DW_wp (n := 400) (Nat.le_of_ble_eq_true rfl) h
set_option maxRecDepth 20000 in
theorem ge_Text_hasRoom {d : Nat} {p1 : Int} {μ : Mem} {Q : AV → Mem → Prop} (h : if p1 < 1 then (if p1 < 5 then (if p1 = 9 then (if μ 1 9 < 6 then (Q (xI 1) μ) else (Q (xI 0) μ)) else (Q (xI 1) μ)) else (if 8 < p1 then (if p1 = 9 then (if μ 1 9 < 6 then (Q (xI 1) μ) else (Q (xI 0) μ)) else (Q (xI 1) μ)) else (if μ 1 8 < 6 then (Q (xI 1) μ) else (Q (xI 0) μ)))) else (if 4 < p1 then (if p1 < 5 then (if p1 = 9 then (if μ 1 9 < 6 then (Q (xI 1) μ) else (Q (xI 0) μ)) else (Q (xI 1) μ)) else (if 8 < p1 then (if p1 = 9 then (if μ 1 9 < 6 then (Q (xI 1) μ) else (Q (xI 0) μ)) else (Q (xI 1) μ)) else (if μ 1 8 < 6 then (Q (xI 1) μ) else (Q (xI 0) μ)))) else (if μ 1 7 < 5 then (Q (xI 1) μ) else (Q (xI 0) μ)))) : GM (d + 1) 18 [xR 1, xI p1] μ Q :=
  GM_wp (n := 400) (Nat.le_of_ble_eq_true rfl) (Nat.le_of_ble_eq_true rfl) rfl h
set_option maxRecDepth 20000 in
theorem ge_Text_readNumbers_1_111 {d : Nat} {p1 : Int} {μ : Mem} {Q : AV → Mem → Prop} (h : DW (d + 4) 22 2 [xR 1, xI p1, xR 111, xI 0, xL 0] μ Q) : GM (d + 4) 22 [xR 1, xI p1, xR 111] μ Q :=
  GM_wp (n := 400) (Nat.le_of_ble_eq_true rfl) (Nat.le_of_ble_eq_true rfl) rfl h
set_option maxRecDepth 20000 in
theorem sg_Text_readNumbers_1_111_2 {d : Nat} {l1 l3 : Int} {v4 : AV} {μ : Mem} {Q : AV → Mem → Prop} (h : if l3 < 2 then (if l3 < 4 then (GM (d + 3) 5 [xR 1] μ (gV (fun m1 => GM (d + 3) 23 [xR 1] m1 (gI (fun r3 m2 => if r3 = (-1) then (Q (xI 0) m2) else (if l3 < 0 then False else (if l3 < 2 then (wb l3 2 (wb (xi2c (xand (([76, 75] : List Int).getD l3.toNat 0) 255)) 65536 (wb (xi2c (xand (([76, 75] : List Int).getD l3.toNat 0) 255)) 65536 (GM (d + 3) 24 [xR 1, xI (xi2c (xand (([76, 75] : List Int).getD l3.toNat 0) 255))] m2 (gI (fun r5 m4 => if r3 < r5 then (wb (iw ((iw (l1 * 4)) + l3)) 56 (DW (d + 4) 22 2 [xR 1, xI l1, xR 111, xI (iw (l3 + 1)), xI r3] (xset m4 15 ((iw ((iw (l1 * 4)) + l3)).toNat) r3) Q)) else (Q (xI 0) m4))))))) else False))))))) else (Q (xI 1) μ)) else (Q (xI 1) μ)) : DW (d + 4) 22 2 [xR 1, xI l1, xR 111, xI l3, v4] μ Q :=
  DW_wp (n := 400) (Nat.le_of_ble_eq_true rfl) h
set_option maxRecDepth 20000 in
theorem ge_Text_readNumbers_1_112 {d : Nat} {p1 : Int} {μ : Mem} {Q : AV → Mem → Prop} (h : DW (d + 4) 22 2 [xR 1, xI p1, xR 112, xI 0, xL 0] μ Q) : GM (d + 4) 22 [xR 1, xI p1, xR 112] μ Q :=
  GM_wp (n := 400) (Nat.le_of_ble_eq_true rfl) (Nat.le_of_ble_eq_true rfl) rfl h
set_option maxRecDepth 20000 in
theorem sg_Text_readNumbers_1_112_2 {d : Nat} {l1 l3 : Int} {v4 : AV} {μ : Mem} {Q : AV → Mem → Prop} (h : if l3 < 3 then (if l3 < 4 then (GM (d + 3) 5 [xR 1] μ (gV (fun m1 => GM (d + 3) 23 [xR 1] m1 (gI (fun r3 m2 => if r3 = (-1) then (Q (xI 0) m2) else (if l3 < 0 then False else (if l3 < 3 then (wb l3 3 (wb (xi2c (xand (([76, 75, 87] : List Int).getD l3.toNat 0) 255)) 65536 (wb (xi2c (xand (([76, 75, 87] : List Int).getD l3.toNat 0) 255)) 65536 (GM (d + 3) 24 [xR 1, xI (xi2c (xand (([76, 75, 87] : List Int).getD l3.toNat 0) 255))] m2 (gI (fun r5 m4 => if r3 < r5 then (wb (iw ((iw (l1 * 4)) + l3)) 56 (DW (d + 4) 22 2 [xR 1, xI l1, xR 112, xI (iw (l3 + 1)), xI r3] (xset m4 15 ((iw ((iw (l1 * 4)) + l3)).toNat) r3) Q)) else (Q (xI 0) m4))))))) else False))))))) else (Q (xI 1) μ)) else (Q (xI 1) μ)) : DW (d + 4) 22 2 [xR 1, xI l1, xR 112, xI l3, v4] μ Q :=
  DW_wp (n := 400) (Nat.le_of_ble_eq_true rfl) h
set_option maxRecDepth 20000 in
theorem ge_Text_readNumbers_1_113 {d : Nat} {p1 : Int} {μ : Mem} {Q : AV → Mem → Prop} (h : DW (d + 4) 22 2 [xR 1, xI p1, xR 113, xI 0, xL 0] μ Q) : GM (d + 4) 22 [xR 1, xI p1, xR 113] μ Q :=
  GM_wp (n := 400) (Nat.le_of_ble_eq_true rfl) (Nat.le_of_ble_eq_true rfl) rfl h
set_option maxRecDepth 20000 in
theorem sg_Text_readNumbers_1_113_2 {d : Nat} {l1 l3 : Int} {v4 : AV} {μ : Mem} {Q : AV → Mem → Prop} (h : if l3 < 4 then (if l3 < 4 then (GM (d + 3) 5 [xR 1] μ (gV (fun m1 => GM (d + 3) 23 [xR 1] m1 (gI (fun r3 m2 => if r3 = (-1) then (Q (xI 0) m2) else (if l3 < 0 then False else (if l3 < 4 then (wb l3 4 (wb (xi2c (xand (([76, 75, 87, 80] : List Int).getD l3.toNat 0) 255)) 65536 (wb (xi2c (xand (([76, 75, 87, 80] : List Int).getD l3.toNat 0) 255)) 65536 (GM (d + 3) 24 [xR 1, xI (xi2c (xand (([76, 75, 87, 80] : List Int).getD l3.toNat 0) 255))] m2 (gI (fun r5 m4 => if r3 < r5 then (wb (iw ((iw (l1 * 4)) + l3)) 56 (DW (d + 4) 22 2 [xR 1, xI l1, xR 113, xI (iw (l3 + 1)), xI r3] (xset m4 15 ((iw ((iw (l1 * 4)) + l3)).toNat) r3) Q)) else (Q (xI 0) m4))))))) else False))))))) else (Q (xI 1) μ)) else (Q (xI 1) μ)) : DW (d + 4) 22 2 [xR 1, xI l1, xR 113, xI l3, v4] μ Q :=
  DW_wp (n := 400) (Nat.le_of_ble_eq_true rfl) h
set_option maxRecDepth 20000 in
theorem ge_Text_readNumbers_1_114 {d : Nat} {p1 : Int} {μ : Mem} {Q : AV → Mem → Prop} (h : DW (d + 4) 22 2 [xR 1, xI p1, xR 114, xI 0, xL 0] μ Q) : GM (d + 4) 22 [xR 1, xI p1, xR 114] μ Q :=
  GM_wp (n := 400) (Nat.le_of_ble_eq_true rfl) (Nat.le_of_ble_eq_true rfl) rfl h
set_option maxRecDepth 20000 in
theorem sg_Text_readNumbers_1_114_2 {d : Nat} {l1 l3 : Int} {v4 : AV} {μ : Mem} {Q : AV → Mem → Prop} (h : if l3 < 1 then (if l3 < 4 then (GM (d + 3) 5 [xR 1] μ (gV (fun m1 => GM (d + 3) 23 [xR 1] m1 (gI (fun r3 m2 => if r3 = (-1) then (Q (xI 0) m2) else (if l3 < 0 then False else (if l3 < 1 then (wb l3 1 (wb (xi2c (xand (([83] : List Int).getD l3.toNat 0) 255)) 65536 (wb (xi2c (xand (([83] : List Int).getD l3.toNat 0) 255)) 65536 (GM (d + 3) 24 [xR 1, xI (xi2c (xand (([83] : List Int).getD l3.toNat 0) 255))] m2 (gI (fun r5 m4 => if r3 < r5 then (wb (iw ((iw (l1 * 4)) + l3)) 56 (DW (d + 4) 22 2 [xR 1, xI l1, xR 114, xI (iw (l3 + 1)), xI r3] (xset m4 15 ((iw ((iw (l1 * 4)) + l3)).toNat) r3) Q)) else (Q (xI 0) m4))))))) else False))))))) else (Q (xI 1) μ)) else (Q (xI 1) μ)) : DW (d + 4) 22 2 [xR 1, xI l1, xR 114, xI l3, v4] μ Q :=
  DW_wp (n := 400) (Nat.le_of_ble_eq_true rfl) h
set_option maxRecDepth 20000 in
theorem ge_Text_readNumbers_1_115 {d : Nat} {p1 : Int} {μ : Mem} {Q : AV → Mem → Prop} (h : DW (d + 4) 22 2 [xR 1, xI p1, xR 115, xI 0, xL 0] μ Q) : GM (d + 4) 22 [xR 1, xI p1, xR 115] μ Q :=
  GM_wp (n := 400) (Nat.le_of_ble_eq_true rfl) (Nat.le_of_ble_eq_true rfl) rfl h
set_option maxRecDepth 20000 in
theorem sg_Text_readNumbers_1_115_2 {d : Nat} {l1 l3 : Int} {v4 : AV} {μ : Mem} {Q : AV → Mem → Prop} (h : if l3 < 2 then (if l3 < 4 then (GM (d + 3) 5 [xR 1] μ (gV (fun m1 => GM (d + 3) 23 [xR 1] m1 (gI (fun r3 m2 => if r3 = (-1) then (Q (xI 0) m2) else (if l3 < 0 then False else (if l3 < 2 then (wb l3 2 (wb (xi2c (xand (([73, 80] : List Int).getD l3.toNat 0) 255)) 65536 (wb (xi2c (xand (([73, 80] : List Int).getD l3.toNat 0) 255)) 65536 (GM (d + 3) 24 [xR 1, xI (xi2c (xand (([73, 80] : List Int).getD l3.toNat 0) 255))] m2 (gI (fun r5 m4 => if r3 < r5 then (wb (iw ((iw (l1 * 4)) + l3)) 56 (DW (d + 4) 22 2 [xR 1, xI l1, xR 115, xI (iw (l3 + 1)), xI r3] (xset m4 15 ((iw ((iw (l1 * 4)) + l3)).toNat) r3) Q)) else (Q (xI 0) m4))))))) else False))))))) else (Q (xI 1) μ)) else (Q (xI 1) μ)) : DW (d + 4) 22 2 [xR 1, xI l1, xR 115, xI l3, v4] μ Q :=
  DW_wp (n := 400) (Nat.le_of_ble_eq_true rfl) h
set_option maxRecDepth 20000 in
theorem ge_Text_readNumbers_1_116 {d : Nat} {p1 : Int} {μ : Mem} {Q : AV → Mem → Prop} (h : DW (d + 4) 22 2 [xR 1, xI p1, xR 116, xI 0, xL 0] μ Q) : GM (d + 4) 22 [xR 1, xI p1, xR 116] μ Q :=
  GM_wp (n := 400) (Nat.le_of_ble_eq_true rfl) (Nat.le_of_ble_eq_true rfl) rfl h
set_option maxRecDepth 20000 in
theorem sg_Text_readNumbers_1_116_2 {d : Nat} {l1 l3 : Int} {v4 : AV} {μ : Mem} {Q : AV → Mem → Prop} (h : if l3 < 0 then (if l3 < 4 then (GM (d + 3) 5 [xR 1] μ (gV (fun m1 => GM (d + 3) 23 [xR 1] m1 (gI (fun r3 m2 => if r3 = (-1) then (Q (xI 0) m2) else (if l3 < 0 then False else (if l3 < 0 then (wb l3 0 (wb (xi2c (xand (([] : List Int).getD l3.toNat 0) 255)) 65536 (wb (xi2c (xand (([] : List Int).getD l3.toNat 0) 255)) 65536 (GM (d + 3) 24 [xR 1, xI (xi2c (xand (([] : List Int).getD l3.toNat 0) 255))] m2 (gI (fun r5 m4 => if r3 < r5 then (wb (iw ((iw (l1 * 4)) + l3)) 56 (DW (d + 4) 22 2 [xR 1, xI l1, xR 116, xI (iw (l3 + 1)), xI r3] (xset m4 15 ((iw ((iw (l1 * 4)) + l3)).toNat) r3) Q)) else (Q (xI 0) m4))))))) else False))))))) else (Q (xI 1) μ)) else (Q (xI 1) μ)) : DW (d + 4) 22 2 [xR 1, xI l1, xR 116, xI l3, v4] μ Q :=
  DW_wp (n := 400) (Nat.le_of_ble_eq_true rfl) h
set_option maxRecDepth 20000 in
theorem ge_Text_numberHere {d : Nat} {μ : Mem} {Q : AV → Mem → Prop} (h : if iw ((μ 1 6) - (μ 1 5)) < 1 then (Q (xI (-1)) μ) else (if 2 < iw ((μ 1 6) - (μ 1 5)) then (Q (xI (-1)) μ) else (wb (μ 1 5) 160 (if μ 13 (μ 1 5).toNat < 48 then (Q (xI (-1)) μ) else (if 57 < μ 13 (μ 1 5).toNat then (Q (xI (-1)) μ) else (DW (d + 1) 23 26 [xR 1, xI (iw ((μ 1 6) - (μ 1 5))), xI 0, xI (μ 1 5)] μ Q)))))) : GM (d + 1) 23 [xR 1] μ Q :=
  GM_wp (n := 400) (Nat.le_of_ble_eq_true rfl) (Nat.le_of_ble_eq_true rfl) rfl h
set_option maxRecDepth 20000 in
theorem sg_Text_numberHere_26 {d : Nat} {l2 l3 : Int} {v1 : AV} {μ : Mem} {Q : AV → Mem → Prop} (h : if l3 < μ 1 6 then (wb l3 160 (DW (d + 1) 23 26 [xR 1, v1, xI (iw ((iw ((iw (l2 * 10)) + (μ 13 l3.toNat))) - 48)), xI (iw (l3 + 1))] μ Q)) else (Q (xI l2) μ)) : DW (d + 1) 23 26 [xR 1, v1, xI l2, xI l3] μ Q :=
  DW_wp (n := 400) (Nat.le_of_ble_eq_true rfl) h
set_option maxRecDepth 20000 in
theorem ge_Text_bound {d : Nat} {p1 : Int} {μ : Mem} {Q : AV → Mem → Prop} (h : if p1 = 75 then (Q (xI (μ 1 7)) μ) else (if p1 = 76 then (Q (xI 3) μ) else (if p1 = 77 then (Q (xI (μ 1 8)) μ) else (if p1 = 78 then (Q (xI (μ 1 8)) μ) else (if p1 = 79 then (Q (xI (μ 1 8)) μ) else (if p1 = 80 then (Q (xI 10) μ) else (if p1 = 81 then (Q (xI (μ 1 8)) μ) else (if p1 = 82 then (Q (xI (μ 1 8)) μ) else (if p1 = 83 then (Q (xI (xshl 1 (μ 1 7))) μ) else (if p1 = 84 then (Q (xI (μ 1 8)) μ) else (if p1 = 85 then (Q (xI (μ 1 8)) μ) else (if p1 = 86 then (Q (xI (μ 1 8)) μ) else (if p1 = 87 then (Q (xI 4) μ) else (Q (xI (μ 1 8)) μ)))))))))))))) : GM d 24 [xR 1, xI p1] μ Q :=
  GM_wp (n := 400) (Nat.le_of_ble_eq_true rfl) (Nat.le_of_ble_eq_true rfl) rfl h
set_option maxRecDepth 20000 in
theorem ge_Text_grow {d : Nat} {p1 : Int} {μ : Mem} {Q : AV → Mem → Prop} (h : if p1 = 0 then (Q (xI 0) (xset (xset (xset μ 1 7 0) 1 8 0) 1 9 0)) else (if p1 < 1 then (if p1 < 5 then (if p1 = 9 then (Q (xI 0) (xset μ 1 9 (iw ((μ 1 9) + 1)))) else (Q (xI 0) μ)) else (if 8 < p1 then (if p1 = 9 then (Q (xI 0) (xset μ 1 9 (iw ((μ 1 9) + 1)))) else (Q (xI 0) μ)) else (Q (xI 0) (xset μ 1 8 (iw ((μ 1 8) + 1)))))) else (if 4 < p1 then (if p1 < 5 then (if p1 = 9 then (Q (xI 0) (xset μ 1 9 (iw ((μ 1 9) + 1)))) else (Q (xI 0) μ)) else (if 8 < p1 then (if p1 = 9 then (Q (xI 0) (xset μ 1 9 (iw ((μ 1 9) + 1)))) else (Q (xI 0) μ)) else (Q (xI 0) (xset μ 1 8 (iw ((μ 1 8) + 1)))))) else (Q (xI 0) (xset μ 1 7 (iw ((μ 1 7) + 1))))))) : GM (d + 1) 25 [xR 1, xI p1] μ Q :=
  GM_wp (n := 400) (Nat.le_of_ble_eq_true rfl) (Nat.le_of_ble_eq_true rfl) rfl h
set_option maxRecDepth 20000 in
theorem ge_X_inn {d : Nat} {μ : Mem} {Q : AV → Mem → Prop} (h : GM (d + 6) 4 [xR 1, xI (μ 2 0), xI (μ 2 1), xI (μ 2 2)] μ (gI (fun r2 m1 => if r2 = (-1) then (DW (d + 7) 26 18 [xR 0, xI 0] m1 Q) else (Q (xI (-4)) m1)))) : GM (d + 7) 26 [xR 0] μ Q :=
  GM_wp (n := 400) (Nat.le_of_ble_eq_true rfl) (Nat.le_of_ble_eq_true rfl) rfl h
set_option maxRecDepth 20000 in
theorem sg_X_inn_18 {d : Nat} {l1 : Int} {μ : Mem} {Q : AV → Mem → Prop} (h : if l1 < μ 1 4 then (GM (d + 6) 27 [xR 2, xR 1, xI l1] μ (gV (fun m1 => DW (d + 7) 26 18 [xR 0, xI (iw (l1 + 1))] m1 Q))) else (DW (d + 7) 26 32 [xR 0, xI l1] μ Q)) : DW (d + 7) 26 18 [xR 0, xI l1] μ Q :=
  DW_wp (n := 400) (Nat.le_of_ble_eq_true rfl) h
set_option maxRecDepth 20000 in
theorem sg_X_inn_32 {d : Nat} {v1 : AV} {μ : Mem} {Q : AV → Mem → Prop} (h : GM (d + 6) 39 [xR 3] (xset μ 1 1 0) (gV (fun m1 => Q (xI (m1 1 4)) (xset (xset (xset m1 7 0 0) 0 4 0) 12 6 (-1))))) : DW (d + 7) 26 32 [xR 0, v1] μ Q :=
  DW_wp (n := 400) (Nat.le_of_ble_eq_true rfl) h
set_option maxRecDepth 20000 in
theorem ge_Told_doLine {d : Nat} {p2 : Int} {μ : Mem} {Q : AV → Mem → Prop} (h : wb p2 14 (if μ 14 p2.toNat = 0 then (Q (xI 0) (xset (xset (xset μ 2 0 0) 2 1 0) 2 2 0)) else (if μ 14 p2.toNat < 1 then (if μ 14 p2.toNat < 5 then (if μ 14 p2.toNat = 9 then (GM (d + 5) 30 [xR 1, xI p2, xI 83] μ (gI (fun r2 m1 => GM (d + 5) 36 [xR 2, xI r2] m1 (gV (fun m3 => Q (xI 0) m3))))) else (GM (d + 5) 30 [xR 1, xI p2, xI 73] μ (gI (fun r5 m4 => GM (d + 5) 30 [xR 1, xI p2, xI 80] m4 (gI (fun r7 m6 => GM (d + 5) 37 [xR 2, xI r5, xI r7] m6 (gV (fun m8 => Q (xI 0) m8)))))))) else (if 8 < μ 14 p2.toNat then (if μ 14 p2.toNat = 9 then (GM (d + 5) 30 [xR 1, xI p2, xI 83] μ (gI (fun r10 m9 => GM (d + 5) 36 [xR 2, xI r10] m9 (gV (fun m11 => Q (xI 0) m11))))) else (GM (d + 5) 30 [xR 1, xI p2, xI 73] μ (gI (fun r13 m12 => GM (d + 5) 30 [xR 1, xI p2, xI 80] m12 (gI (fun r15 m14 => GM (d + 5) 37 [xR 2, xI r13, xI r15] m14 (gV (fun m16 => Q (xI 0) m16)))))))) else (GM (d + 5) 29 [xR 2, xI (iw ((μ 14 p2.toNat) - 5)), xR 1, xI p2] μ (gV (fun m17 => Q (xI 0) m17))))) else (if 4 < μ 14 p2.toNat then (if μ 14 p2.toNat < 5 then (if μ 14 p2.toNat = 9 then (GM (d + 5) 30 [xR 1, xI p2, xI 83] μ (gI (fun r19 m18 => GM (d + 5) 36 [xR 2, xI r19] m18 (gV (fun m20 => Q (xI 0) m20))))) else (GM (d + 5) 30 [xR 1, xI p2, xI 73] μ (gI (fun r22 m21 => GM (d + 5) 30 [xR 1, xI p2, xI 80] m21 (gI (fun r24 m23 => GM (d + 5) 37 [xR 2, xI r22, xI r24] m23 (gV (fun m25 => Q (xI 0) m25)))))))) else (if 8 < μ 14 p2.toNat then (if μ 14 p2.toNat = 9 then (GM (d + 5) 30 [xR 1, xI p2, xI 83] μ (gI (fun r27 m26 => GM (d + 5) 36 [xR 2, xI r27] m26 (gV (fun m28 => Q (xI 0) m28))))) else (GM (d + 5) 30 [xR 1, xI p2, xI 73] μ (gI (fun r30 m29 => GM (d + 5) 30 [xR 1, xI p2, xI 80] m29 (gI (fun r32 m31 => GM (d + 5) 37 [xR 2, xI r30, xI r32] m31 (gV (fun m33 => Q (xI 0) m33)))))))) else (GM (d + 5) 29 [xR 2, xI (iw ((μ 14 p2.toNat) - 5)), xR 1, xI p2] μ (gV (fun m34 => Q (xI 0) m34))))) else (GM (d + 5) 28 [xR 2, xI (iw ((μ 14 p2.toNat) - 1))] μ (gV (fun m35 => Q (xI 0) m35))))))) : GM (d + 6) 27 [xR 2, xR 1, xI p2] μ Q :=
  GM_wp (n := 400) (Nat.le_of_ble_eq_true rfl) (Nat.le_of_ble_eq_true rfl) rfl h
set_option maxRecDepth 20000 in
theorem ge_Told_addOne {d : Nat} {p1 : Int} {μ : Mem} {Q : AV → Mem → Prop} (h : if μ 2 0 < 5 then (wb (μ 2 0) 5 (Q (xI 0) (xset (xset μ 16 ((μ 2 0).toNat) p1) 2 0 (iw ((μ 2 0) + 1))))) else (Q (xI 0) μ)) : GM d 28 [xR 2, xI p1] μ Q :=
  GM_wp (n := 400) (Nat.le_of_ble_eq_true rfl) (Nat.le_of_ble_eq_true rfl) rfl h
set_option maxRecDepth 20000 in
theorem ge_Told_addThing {d : Nat} {p1 p3 : Int} {μ : Mem} {Q : AV → Mem → Prop} (h : if μ 2 1 < 6 then (wb (μ 2 1) 6 (GM (d + 4) 30 [xR 1, xI p3, xI 76] (xset μ 17 ((μ 2 1).toNat) p1) (gI (fun r2 m1 => wb (μ 2 1) 6 (GM (d + 4) 30 [xR 1, xI p3, xI 75] (xset m1 18 ((μ 2 1).toNat) r2) (gI (fun r4 m3 => wb (m1 2 1) 6 (GM (d + 4) 30 [xR 1, xI p3, xI 87] (xset m3 21 ((m1 2 1).toNat) r4) (gI (fun r6 m5 => wb (m3 2 1) 6 (GM (d + 4) 30 [xR 1, xI p3, xI 80] (xset m5 19 ((m3 2 1).toNat) r6) (gI (fun r8 m7 => wb (m5 2 1) 6 (Q (xI 0) (xset (xset m7 20 ((m5 2 1).toNat) r8) 2 1 (iw ((m7 2 1) + 1))))))))))))))))) else (Q (xI 0) μ)) : GM (d + 5) 29 [xR 2, xI p1, xR 1, xI p3] μ Q :=
  GM_wp (n := 400) (Nat.le_of_ble_eq_true rfl) (Nat.le_of_ble_eq_true rfl) rfl h
set_option maxRecDepth 20000 in
theorem ge_Text_numberOf {d : Nat} {p1 p2 : Int} {μ : Mem} {Q : AV → Mem → Prop} (h : wb p1 14 (if μ 14 p1.toNat = 5 then (GM (d + 3) 31 [xR 111, xI p2] μ (gI (fun r14 m13 => if r14 < 0 then (Q (xI 0) m13) else (if r14 < 4 then (wb (iw ((iw (p1 * 4)) + r14)) 56 (Q (xI (m13 15 (iw ((iw (p1 * 4)) + r14)).toNat)) m13)) else (Q (xI 0) m13))))) else (if μ 14 p1.toNat = 6 then (GM (d + 3) 31 [xR 112, xI p2] μ (gI (fun r12 m11 => if r12 < 0 then (Q (xI 0) m11) else (if r12 < 4 then (wb (iw ((iw (p1 * 4)) + r12)) 56 (Q (xI (m11 15 (iw ((iw (p1 * 4)) + r12)).toNat)) m11)) else (Q (xI 0) m11))))) else (if μ 14 p1.toNat = 7 then (GM (d + 3) 31 [xR 113, xI p2] μ (gI (fun r10 m9 => if r10 < 0 then (Q (xI 0) m9) else (if r10 < 4 then (wb (iw ((iw (p1 * 4)) + r10)) 56 (Q (xI (m9 15 (iw ((iw (p1 * 4)) + r10)).toNat)) m9)) else (Q (xI 0) m9))))) else (if μ 14 p1.toNat = 8 then (GM (d + 3) 31 [xR 112, xI p2] μ (gI (fun r8 m7 => if r8 < 0 then (Q (xI 0) m7) else (if r8 < 4 then (wb (iw ((iw (p1 * 4)) + r8)) 56 (Q (xI (m7 15 (iw ((iw (p1 * 4)) + r8)).toNat)) m7)) else (Q (xI 0) m7))))) else (if μ 14 p1.toNat = 9 then (GM (d + 3) 31 [xR 114, xI p2] μ (gI (fun r6 m5 => if r6 < 0 then (Q (xI 0) m5) else (if r6 < 4 then (wb (iw ((iw (p1 * 4)) + r6)) 56 (Q (xI (m5 15 (iw ((iw (p1 * 4)) + r6)).toNat)) m5)) else (Q (xI 0) m5))))) else (if μ 14 p1.toNat = 10 then (GM (d + 3) 31 [xR 115, xI p2] μ (gI (fun r4 m3 => if r4 < 0 then (Q (xI 0) m3) else (if r4 < 4 then (wb (iw ((iw (p1 * 4)) + r4)) 56 (Q (xI (m3 15 (iw ((iw (p1 * 4)) + r4)).toNat)) m3)) else (Q (xI 0) m3))))) else (GM (d + 3) 31 [xR 116, xI p2] μ (gI (fun r2 m1 => if r2 < 0 then (Q (xI 0) m1) else (if r2 < 4 then (wb (iw ((iw (p1 * 4)) + r2)) 56 (Q (xI (m1 15 (iw ((iw (p1 * 4)) + r2)).toNat)) m1)) else (Q (xI 0) m1)))))))))))) : GM (d + 4) 30 [xR 1, xI p1, xI p2] μ Q :=
  GM_wp (n := 400) (Nat.le_of_ble_eq_true rfl) (Nat.le_of_ble_eq_true rfl) rfl h
set_option maxRecDepth 20000 in
theorem ge_JString_indexOf_111 {d : Nat} {p1 : Int} {μ : Mem} {Q : AV → Mem → Prop} (h : GM (d + 2) 32 [xR 111, xI p1, xI 0] μ (gI (fun r2 m1 => Q (xI r2) m1))) : GM (d + 3) 31 [xR 111, xI p1] μ Q :=
  GM_wp (n := 400) (Nat.le_of_ble_eq_true rfl) (Nat.le_of_ble_eq_true rfl) rfl h
set_option maxRecDepth 20000 in
theorem ge_JString_indexOf_112 {d : Nat} {p1 : Int} {μ : Mem} {Q : AV → Mem → Prop} (h : GM (d + 2) 32 [xR 112, xI p1, xI 0] μ (gI (fun r2 m1 => Q (xI r2) m1))) : GM (d + 3) 31 [xR 112, xI p1] μ Q :=
  GM_wp (n := 400) (Nat.le_of_ble_eq_true rfl) (Nat.le_of_ble_eq_true rfl) rfl h
set_option maxRecDepth 20000 in
theorem ge_JString_indexOf_113 {d : Nat} {p1 : Int} {μ : Mem} {Q : AV → Mem → Prop} (h : GM (d + 2) 32 [xR 113, xI p1, xI 0] μ (gI (fun r2 m1 => Q (xI r2) m1))) : GM (d + 3) 31 [xR 113, xI p1] μ Q :=
  GM_wp (n := 400) (Nat.le_of_ble_eq_true rfl) (Nat.le_of_ble_eq_true rfl) rfl h
set_option maxRecDepth 20000 in
theorem ge_JString_indexOf_114 {d : Nat} {p1 : Int} {μ : Mem} {Q : AV → Mem → Prop} (h : GM (d + 2) 32 [xR 114, xI p1, xI 0] μ (gI (fun r2 m1 => Q (xI r2) m1))) : GM (d + 3) 31 [xR 114, xI p1] μ Q :=
  GM_wp (n := 400) (Nat.le_of_ble_eq_true rfl) (Nat.le_of_ble_eq_true rfl) rfl h
set_option maxRecDepth 20000 in
theorem ge_JString_indexOf_115 {d : Nat} {p1 : Int} {μ : Mem} {Q : AV → Mem → Prop} (h : GM (d + 2) 32 [xR 115, xI p1, xI 0] μ (gI (fun r2 m1 => Q (xI r2) m1))) : GM (d + 3) 31 [xR 115, xI p1] μ Q :=
  GM_wp (n := 400) (Nat.le_of_ble_eq_true rfl) (Nat.le_of_ble_eq_true rfl) rfl h
set_option maxRecDepth 20000 in
theorem ge_JString_indexOf_116 {d : Nat} {p1 : Int} {μ : Mem} {Q : AV → Mem → Prop} (h : GM (d + 2) 32 [xR 116, xI p1, xI 0] μ (gI (fun r2 m1 => Q (xI r2) m1))) : GM (d + 3) 31 [xR 116, xI p1] μ Q :=
  GM_wp (n := 400) (Nat.le_of_ble_eq_true rfl) (Nat.le_of_ble_eq_true rfl) rfl h
set_option maxRecDepth 20000 in
theorem ge_JString_indexOf2_111 {d : Nat} {p1 p2 : Int} {μ : Mem} {Q : AV → Mem → Prop} (h : GM (d + 1) 33 [xR 131, xI p1, xI p2, xI 2] μ (gI (fun r2 m1 => Q (xI r2) m1))) : GM (d + 2) 32 [xR 111, xI p1, xI p2] μ Q :=
  GM_wp (n := 400) (Nat.le_of_ble_eq_true rfl) (Nat.le_of_ble_eq_true rfl) rfl h
set_option maxRecDepth 20000 in
theorem ge_JString_indexOf2_112 {d : Nat} {p1 p2 : Int} {μ : Mem} {Q : AV → Mem → Prop} (h : GM (d + 1) 33 [xR 132, xI p1, xI p2, xI 3] μ (gI (fun r2 m1 => Q (xI r2) m1))) : GM (d + 2) 32 [xR 112, xI p1, xI p2] μ Q :=
  GM_wp (n := 400) (Nat.le_of_ble_eq_true rfl) (Nat.le_of_ble_eq_true rfl) rfl h
set_option maxRecDepth 20000 in
theorem ge_JString_indexOf2_113 {d : Nat} {p1 p2 : Int} {μ : Mem} {Q : AV → Mem → Prop} (h : GM (d + 1) 33 [xR 133, xI p1, xI p2, xI 4] μ (gI (fun r2 m1 => Q (xI r2) m1))) : GM (d + 2) 32 [xR 113, xI p1, xI p2] μ Q :=
  GM_wp (n := 400) (Nat.le_of_ble_eq_true rfl) (Nat.le_of_ble_eq_true rfl) rfl h
set_option maxRecDepth 20000 in
theorem ge_JString_indexOf2_114 {d : Nat} {p1 p2 : Int} {μ : Mem} {Q : AV → Mem → Prop} (h : GM (d + 1) 33 [xR 134, xI p1, xI p2, xI 1] μ (gI (fun r2 m1 => Q (xI r2) m1))) : GM (d + 2) 32 [xR 114, xI p1, xI p2] μ Q :=
  GM_wp (n := 400) (Nat.le_of_ble_eq_true rfl) (Nat.le_of_ble_eq_true rfl) rfl h
set_option maxRecDepth 20000 in
theorem ge_JString_indexOf2_115 {d : Nat} {p1 p2 : Int} {μ : Mem} {Q : AV → Mem → Prop} (h : GM (d + 1) 33 [xR 135, xI p1, xI p2, xI 2] μ (gI (fun r2 m1 => Q (xI r2) m1))) : GM (d + 2) 32 [xR 115, xI p1, xI p2] μ Q :=
  GM_wp (n := 400) (Nat.le_of_ble_eq_true rfl) (Nat.le_of_ble_eq_true rfl) rfl h
set_option maxRecDepth 20000 in
theorem ge_JString_indexOf2_116 {d : Nat} {p1 p2 : Int} {μ : Mem} {Q : AV → Mem → Prop} (h : GM (d + 1) 33 [xR 136, xI p1, xI p2, xI 0] μ (gI (fun r2 m1 => Q (xI r2) m1))) : GM (d + 2) 32 [xR 116, xI p1, xI p2] μ Q :=
  GM_wp (n := 400) (Nat.le_of_ble_eq_true rfl) (Nat.le_of_ble_eq_true rfl) rfl h
set_option maxRecDepth 20000 in
theorem ge_JStringLatin1_indexOf_131 {d : Nat} {p1 p2 p3 : Int} {μ : Mem} {Q : AV → Mem → Prop} (h : if p1 < 0 then (Q (xI (-1)) μ) else (if 255 < p1 then (Q (xI (-1)) μ) else (if max p2 0 < min p3 2 then (GM d 35 [xR 131, xI p1, xI (max p2 0), xI (min p3 2)] μ (gI (fun r2 m1 => Q (xI r2) m1))) else (Q (xI (-1)) μ)))) : GM (d + 1) 33 [xR 131, xI p1, xI p2, xI p3] μ Q :=
  GM_wp (n := 400) (Nat.le_of_ble_eq_true rfl) (Nat.le_of_ble_eq_true rfl) rfl h
set_option maxRecDepth 20000 in
theorem ge_JStringLatin1_indexOf_132 {d : Nat} {p1 p2 p3 : Int} {μ : Mem} {Q : AV → Mem → Prop} (h : if p1 < 0 then (Q (xI (-1)) μ) else (if 255 < p1 then (Q (xI (-1)) μ) else (if max p2 0 < min p3 3 then (GM d 35 [xR 132, xI p1, xI (max p2 0), xI (min p3 3)] μ (gI (fun r2 m1 => Q (xI r2) m1))) else (Q (xI (-1)) μ)))) : GM (d + 1) 33 [xR 132, xI p1, xI p2, xI p3] μ Q :=
  GM_wp (n := 400) (Nat.le_of_ble_eq_true rfl) (Nat.le_of_ble_eq_true rfl) rfl h
set_option maxRecDepth 20000 in
theorem ge_JStringLatin1_indexOf_133 {d : Nat} {p1 p2 p3 : Int} {μ : Mem} {Q : AV → Mem → Prop} (h : if p1 < 0 then (Q (xI (-1)) μ) else (if 255 < p1 then (Q (xI (-1)) μ) else (if max p2 0 < min p3 4 then (GM d 35 [xR 133, xI p1, xI (max p2 0), xI (min p3 4)] μ (gI (fun r2 m1 => Q (xI r2) m1))) else (Q (xI (-1)) μ)))) : GM (d + 1) 33 [xR 133, xI p1, xI p2, xI p3] μ Q :=
  GM_wp (n := 400) (Nat.le_of_ble_eq_true rfl) (Nat.le_of_ble_eq_true rfl) rfl h
set_option maxRecDepth 20000 in
theorem ge_JStringLatin1_indexOf_134 {d : Nat} {p1 p2 p3 : Int} {μ : Mem} {Q : AV → Mem → Prop} (h : if p1 < 0 then (Q (xI (-1)) μ) else (if 255 < p1 then (Q (xI (-1)) μ) else (if max p2 0 < min p3 1 then (GM d 35 [xR 134, xI p1, xI (max p2 0), xI (min p3 1)] μ (gI (fun r2 m1 => Q (xI r2) m1))) else (Q (xI (-1)) μ)))) : GM (d + 1) 33 [xR 134, xI p1, xI p2, xI p3] μ Q :=
  GM_wp (n := 400) (Nat.le_of_ble_eq_true rfl) (Nat.le_of_ble_eq_true rfl) rfl h
set_option maxRecDepth 20000 in
theorem ge_JStringLatin1_indexOf_135 {d : Nat} {p1 p2 p3 : Int} {μ : Mem} {Q : AV → Mem → Prop} (h : if p1 < 0 then (Q (xI (-1)) μ) else (if 255 < p1 then (Q (xI (-1)) μ) else (if max p2 0 < min p3 2 then (GM d 35 [xR 135, xI p1, xI (max p2 0), xI (min p3 2)] μ (gI (fun r2 m1 => Q (xI r2) m1))) else (Q (xI (-1)) μ)))) : GM (d + 1) 33 [xR 135, xI p1, xI p2, xI p3] μ Q :=
  GM_wp (n := 400) (Nat.le_of_ble_eq_true rfl) (Nat.le_of_ble_eq_true rfl) rfl h
set_option maxRecDepth 20000 in
theorem ge_JStringLatin1_indexOf_136 {d : Nat} {p1 p2 p3 : Int} {μ : Mem} {Q : AV → Mem → Prop} (h : if p1 < 0 then (Q (xI (-1)) μ) else (if 255 < p1 then (Q (xI (-1)) μ) else (if max p2 0 < min p3 0 then (GM d 35 [xR 136, xI p1, xI (max p2 0), xI (min p3 0)] μ (gI (fun r2 m1 => Q (xI r2) m1))) else (Q (xI (-1)) μ)))) : GM (d + 1) 33 [xR 136, xI p1, xI p2, xI p3] μ Q :=
  GM_wp (n := 400) (Nat.le_of_ble_eq_true rfl) (Nat.le_of_ble_eq_true rfl) rfl h
set_option maxRecDepth 20000 in
theorem ge_JStringLatin1_indexOfChar_131 {d : Nat} {p1 p2 p3 : Int} {μ : Mem} {Q : AV → Mem → Prop} (h : DW d 35 5 [xR 131, xI p1, xI p2, xI p3, xI (xi2b p1), xI p2] μ Q) : GM d 35 [xR 131, xI p1, xI p2, xI p3] μ Q :=
  GM_wp (n := 400) (Nat.le_of_ble_eq_true rfl) (Nat.le_of_ble_eq_true rfl) rfl h
set_option maxRecDepth 20000 in
theorem sg_JStringLatin1_indexOfChar_131_5 {d : Nat} {l3 l4 l5 : Int} {v1 v2 : AV} {μ : Mem} {Q : AV → Mem → Prop} (h : if l5 < l3 then (wb l5 2 (if ([76, 75] : List Int).getD l5.toNat 0 = l4 then (Q (xI l5) μ) else (DW d 35 5 [xR 131, v1, v2, xI l3, xI l4, xI (iw (l5 + 1))] μ Q))) else (Q (xI (-1)) μ)) : DW d 35 5 [xR 131, v1, v2, xI l3, xI l4, xI l5] μ Q :=
  DW_wp (n := 400) (Nat.le_of_ble_eq_true rfl) h
set_option maxRecDepth 20000 in
theorem ge_JStringLatin1_indexOfChar_132 {d : Nat} {p1 p2 p3 : Int} {μ : Mem} {Q : AV → Mem → Prop} (h : DW d 35 5 [xR 132, xI p1, xI p2, xI p3, xI (xi2b p1), xI p2] μ Q) : GM d 35 [xR 132, xI p1, xI p2, xI p3] μ Q :=
  GM_wp (n := 400) (Nat.le_of_ble_eq_true rfl) (Nat.le_of_ble_eq_true rfl) rfl h
set_option maxRecDepth 20000 in
theorem sg_JStringLatin1_indexOfChar_132_5 {d : Nat} {l3 l4 l5 : Int} {v1 v2 : AV} {μ : Mem} {Q : AV → Mem → Prop} (h : if l5 < l3 then (wb l5 3 (if ([76, 75, 87] : List Int).getD l5.toNat 0 = l4 then (Q (xI l5) μ) else (DW d 35 5 [xR 132, v1, v2, xI l3, xI l4, xI (iw (l5 + 1))] μ Q))) else (Q (xI (-1)) μ)) : DW d 35 5 [xR 132, v1, v2, xI l3, xI l4, xI l5] μ Q :=
  DW_wp (n := 400) (Nat.le_of_ble_eq_true rfl) h
set_option maxRecDepth 20000 in
theorem ge_JStringLatin1_indexOfChar_133 {d : Nat} {p1 p2 p3 : Int} {μ : Mem} {Q : AV → Mem → Prop} (h : DW d 35 5 [xR 133, xI p1, xI p2, xI p3, xI (xi2b p1), xI p2] μ Q) : GM d 35 [xR 133, xI p1, xI p2, xI p3] μ Q :=
  GM_wp (n := 400) (Nat.le_of_ble_eq_true rfl) (Nat.le_of_ble_eq_true rfl) rfl h
set_option maxRecDepth 20000 in
theorem sg_JStringLatin1_indexOfChar_133_5 {d : Nat} {l3 l4 l5 : Int} {v1 v2 : AV} {μ : Mem} {Q : AV → Mem → Prop} (h : if l5 < l3 then (wb l5 4 (if ([76, 75, 87, 80] : List Int).getD l5.toNat 0 = l4 then (Q (xI l5) μ) else (DW d 35 5 [xR 133, v1, v2, xI l3, xI l4, xI (iw (l5 + 1))] μ Q))) else (Q (xI (-1)) μ)) : DW d 35 5 [xR 133, v1, v2, xI l3, xI l4, xI l5] μ Q :=
  DW_wp (n := 400) (Nat.le_of_ble_eq_true rfl) h
set_option maxRecDepth 20000 in
theorem ge_JStringLatin1_indexOfChar_134 {d : Nat} {p1 p2 p3 : Int} {μ : Mem} {Q : AV → Mem → Prop} (h : DW d 35 5 [xR 134, xI p1, xI p2, xI p3, xI (xi2b p1), xI p2] μ Q) : GM d 35 [xR 134, xI p1, xI p2, xI p3] μ Q :=
  GM_wp (n := 400) (Nat.le_of_ble_eq_true rfl) (Nat.le_of_ble_eq_true rfl) rfl h
set_option maxRecDepth 20000 in
theorem sg_JStringLatin1_indexOfChar_134_5 {d : Nat} {l3 l4 l5 : Int} {v1 v2 : AV} {μ : Mem} {Q : AV → Mem → Prop} (h : if l5 < l3 then (wb l5 1 (if ([83] : List Int).getD l5.toNat 0 = l4 then (Q (xI l5) μ) else (DW d 35 5 [xR 134, v1, v2, xI l3, xI l4, xI (iw (l5 + 1))] μ Q))) else (Q (xI (-1)) μ)) : DW d 35 5 [xR 134, v1, v2, xI l3, xI l4, xI l5] μ Q :=
  DW_wp (n := 400) (Nat.le_of_ble_eq_true rfl) h
set_option maxRecDepth 20000 in
theorem ge_JStringLatin1_indexOfChar_135 {d : Nat} {p1 p2 p3 : Int} {μ : Mem} {Q : AV → Mem → Prop} (h : DW d 35 5 [xR 135, xI p1, xI p2, xI p3, xI (xi2b p1), xI p2] μ Q) : GM d 35 [xR 135, xI p1, xI p2, xI p3] μ Q :=
  GM_wp (n := 400) (Nat.le_of_ble_eq_true rfl) (Nat.le_of_ble_eq_true rfl) rfl h
set_option maxRecDepth 20000 in
theorem sg_JStringLatin1_indexOfChar_135_5 {d : Nat} {l3 l4 l5 : Int} {v1 v2 : AV} {μ : Mem} {Q : AV → Mem → Prop} (h : if l5 < l3 then (wb l5 2 (if ([73, 80] : List Int).getD l5.toNat 0 = l4 then (Q (xI l5) μ) else (DW d 35 5 [xR 135, v1, v2, xI l3, xI l4, xI (iw (l5 + 1))] μ Q))) else (Q (xI (-1)) μ)) : DW d 35 5 [xR 135, v1, v2, xI l3, xI l4, xI l5] μ Q :=
  DW_wp (n := 400) (Nat.le_of_ble_eq_true rfl) h
set_option maxRecDepth 20000 in
theorem ge_JStringLatin1_indexOfChar_136 {d : Nat} {p1 p2 p3 : Int} {μ : Mem} {Q : AV → Mem → Prop} (h : DW d 35 5 [xR 136, xI p1, xI p2, xI p3, xI (xi2b p1), xI p2] μ Q) : GM d 35 [xR 136, xI p1, xI p2, xI p3] μ Q :=
  GM_wp (n := 400) (Nat.le_of_ble_eq_true rfl) (Nat.le_of_ble_eq_true rfl) rfl h
set_option maxRecDepth 20000 in
theorem sg_JStringLatin1_indexOfChar_136_5 {d : Nat} {l3 l4 l5 : Int} {v1 v2 : AV} {μ : Mem} {Q : AV → Mem → Prop} (h : if l5 < l3 then (wb l5 0 (if ([] : List Int).getD l5.toNat 0 = l4 then (Q (xI l5) μ) else (DW d 35 5 [xR 136, v1, v2, xI l3, xI l4, xI (iw (l5 + 1))] μ Q))) else (Q (xI (-1)) μ)) : DW d 35 5 [xR 136, v1, v2, xI l3, xI l4, xI l5] μ Q :=
  DW_wp (n := 400) (Nat.le_of_ble_eq_true rfl) h
set_option maxRecDepth 20000 in
theorem ge_Told_addNight {d : Nat} {p1 : Int} {μ : Mem} {Q : AV → Mem → Prop} (h : if μ 2 2 < 6 then (wb (μ 2 2) 6 (Q (xI 0) (xset (xset μ 22 ((μ 2 2).toNat) p1) 2 2 (iw ((μ 2 2) + 1))))) else (Q (xI 0) μ)) : GM d 36 [xR 2, xI p1] μ Q :=
  GM_wp (n := 400) (Nat.le_of_ble_eq_true rfl) (Nat.le_of_ble_eq_true rfl) rfl h
set_option maxRecDepth 20000 in
theorem ge_Told_tellPower {d : Nat} {p1 p2 : Int} {μ : Mem} {Q : AV → Mem → Prop} (h : if p1 < 0 then (Q (xI 0) μ) else (if p1 < μ 2 1 then (wb p1 6 (Q (xI 0) (xset μ 20 p1.toNat p2))) else (Q (xI 0) μ))) : GM (d + 1) 37 [xR 2, xI p1, xI p2] μ Q :=
  GM_wp (n := 400) (Nat.le_of_ble_eq_true rfl) (Nat.le_of_ble_eq_true rfl) rfl h
set_option maxRecDepth 20000 in
theorem ge_Now_begin {d : Nat} {μ : Mem} {Q : AV → Mem → Prop} (h : DW d 39 11 [xR 3, xI 0] (xset (xset (xset μ 3 1 0) 3 2 0) 3 3 0) Q) : GM d 39 [xR 3] μ Q :=
  GM_wp (n := 400) (Nat.le_of_ble_eq_true rfl) (Nat.le_of_ble_eq_true rfl) rfl h
set_option maxRecDepth 20000 in
theorem sg_Now_begin_11 {d : Nat} {l1 : Int} {μ : Mem} {Q : AV → Mem → Prop} (h : if l1 < 6 then (wb l1 6 (wb l1 6 (wb l1 6 (wb l1 6 (wb l1 6 (DW d 39 11 [xR 3, xI (iw (l1 + 1))] (xset (xset (xset (xset μ 23 l1.toNat l1) 24 l1.toNat 0) 25 l1.toNat (μ 20 l1.toNat)) 26 l1.toNat 0) Q)))))) else (Q (xI 0) μ)) : DW d 39 11 [xR 3, xI l1] μ Q :=
  DW_wp (n := 400) (Nat.le_of_ble_eq_true rfl) h
set_option maxRecDepth 20000 in
theorem ge_X_one {d : Nat} {p1 p2 : Int} {μ : Mem} {Q : AV → Mem → Prop} (h : if p1 < 0 then (Q (xI (-2)) μ) else (if p1 < μ 2 0 then (if p2 = 0 then (wb p1 5 (Q (xI (μ 16 p1.toNat)) μ)) else (if p2 = 1 then (GM (d + 1) 43 [xR 2, xI p1] μ (gI (fun r4 m3 => Q (xI r4) m3))) else (if p2 = 2 then (Q (xI (xand (xshr (μ 3 3) p1) 1)) μ) else (if p2 = 3 then (GM (d + 1) 44 [xR 2, xI p1] μ (gI (fun r2 m1 => Q (xI r2) m1))) else (Q (xI (-3)) μ))))) else (Q (xI (-2)) μ))) : GM (d + 2) 41 [xR 0, xI p1, xI p2] μ Q :=
  GM_wp (n := 400) (Nat.le_of_ble_eq_true rfl) (Nat.le_of_ble_eq_true rfl) rfl h
set_option maxRecDepth 20000 in
theorem ge_Told_placesOf {d : Nat} {p1 : Int} {μ : Mem} {Q : AV → Mem → Prop} (h : DW d 43 4 [xR 2, xI p1, xI 0, xI 0] μ Q) : GM d 43 [xR 2, xI p1] μ Q :=
  GM_wp (n := 400) (Nat.le_of_ble_eq_true rfl) (Nat.le_of_ble_eq_true rfl) rfl h
set_option maxRecDepth 20000 in
theorem sg_Told_placesOf_4 {d : Nat} {l1 l2 l3 : Int} {μ : Mem} {Q : AV → Mem → Prop} (h : if l3 < μ 2 1 then (wb l3 6 (if μ 21 l3.toNat = l1 then (DW d 43 4 [xR 2, xI l1, xI (xior l2 (xshl 1 l3)), xI (iw (l3 + 1))] μ Q) else (DW d 43 4 [xR 2, xI l1, xI l2, xI (iw (l3 + 1))] μ Q))) else (Q (xI l2) μ)) : DW d 43 4 [xR 2, xI l1, xI l2, xI l3] μ Q :=
  DW_wp (n := 400) (Nat.le_of_ble_eq_true rfl) h
set_option maxRecDepth 20000 in
theorem ge_Told_nightsOf {d : Nat} {p1 : Int} {μ : Mem} {Q : AV → Mem → Prop} (h : DW (d + 1) 44 4 [xR 2, xI p1, xI 0, xI 0] μ Q) : GM (d + 1) 44 [xR 2, xI p1] μ Q :=
  GM_wp (n := 400) (Nat.le_of_ble_eq_true rfl) (Nat.le_of_ble_eq_true rfl) rfl h
set_option maxRecDepth 20000 in
theorem sg_Told_nightsOf_4 {d : Nat} {l1 l2 l3 : Int} {μ : Mem} {Q : AV → Mem → Prop} (h : if l3 < μ 2 2 then (wb l1 5 (if μ 16 l1.toNat = 3 then (DW (d + 1) 44 4 [xR 2, xI l1, xI (xior l2 (xshl 1 l3)), xI (iw (l3 + 1))] μ Q) else (wb l3 6 (if xand (xshr (μ 22 l3.toNat) l1) 1 = 1 then (DW (d + 1) 44 4 [xR 2, xI l1, xI (xior l2 (xshl 1 l3)), xI (iw (l3 + 1))] μ Q) else (DW (d + 1) 44 4 [xR 2, xI l1, xI l2, xI (iw (l3 + 1))] μ Q))))) else (Q (xI l2) μ)) : DW (d + 1) 44 4 [xR 2, xI l1, xI l2, xI l3] μ Q :=
  DW_wp (n := 400) (Nat.le_of_ble_eq_true rfl) h
end
section
set_option maxRecDepth 20000 in
theorem ge_X_as {d : Nat} {p1 p2 : Int} {μ : Mem} {Q : AV → Mem → Prop} (h : if p1 < 0 then (Q (xI (-2)) μ) else (if p1 < μ 2 0 then (if p2 < 0 then (Q (xI (-3)) μ) else (if p2 < 5 then (wb p1 5 (GM d 47 [xR 140, xI (iw ((μ 16 p1.toNat) + 1)), xI p2] μ (gI (fun r2 m1 => if r2 = 0 then (Q (xI (-4)) m1) else (GM d 48 [xR 3, xI p1] m1 (gI (fun r4 m3 => Q (xI r4) m3))))))) else (Q (xI (-3)) μ))) else (Q (xI (-2)) μ))) : GM (d + 1) 46 [xR 0, xI p1, xI p2] μ Q :=
  GM_wp (n := 400) (Nat.le_of_ble_eq_true rfl) (Nat.le_of_ble_eq_true rfl) rfl h
set_option maxRecDepth 20000 in
theorem ge_X_isUnder_140 {d : Nat} {p1 p2 : Int} {μ : Mem} {Q : AV → Mem → Prop} (h : DW d 47 4 [xR 140, xI p1, xI p2, xI p1, xI 0] μ Q) : GM d 47 [xR 140, xI p1, xI p2] μ Q :=
  GM_wp (n := 400) (Nat.le_of_ble_eq_true rfl) (Nat.le_of_ble_eq_true rfl) rfl h
set_option maxRecDepth 20000 in
theorem sg_X_isUnder_140_4 {d : Nat} {l2 l3 l4 : Int} {v1 : AV} {μ : Mem} {Q : AV → Mem → Prop} (h : if l4 < 5 then (if l3 < 0 then (Q (xI 0) μ) else (if l3 < 5 then (if l3 = l2 then (Q (xI 1) μ) else (wb l3 5 (DW d 47 4 [xR 140, v1, xI l2, xI (([-1, 0, 1, 1, 0] : List Int).getD l3.toNat 0), xI (iw (l4 + 1))] μ Q))) else (Q (xI 0) μ))) else (Q (xI 0) μ)) : DW d 47 4 [xR 140, v1, xI l2, xI l3, xI l4] μ Q :=
  DW_wp (n := 400) (Nat.le_of_ble_eq_true rfl) h
set_option maxRecDepth 20000 in
theorem ge_X_isUnder_141 {d : Nat} {p1 p2 : Int} {μ : Mem} {Q : AV → Mem → Prop} (h : DW d 47 4 [xR 141, xI p1, xI p2, xI p1, xI 0] μ Q) : GM d 47 [xR 141, xI p1, xI p2] μ Q :=
  GM_wp (n := 400) (Nat.le_of_ble_eq_true rfl) (Nat.le_of_ble_eq_true rfl) rfl h
set_option maxRecDepth 20000 in
theorem sg_X_isUnder_141_4 {d : Nat} {l2 l3 l4 : Int} {v1 : AV} {μ : Mem} {Q : AV → Mem → Prop} (h : if l4 < 6 then (if l3 < 0 then (Q (xI 0) μ) else (if l3 < 6 then (if l3 = l2 then (Q (xI 1) μ) else (wb l3 6 (DW d 47 4 [xR 141, v1, xI l2, xI (([-1, 0, 0, 2, 2, 3] : List Int).getD l3.toNat 0), xI (iw (l4 + 1))] μ Q))) else (Q (xI 0) μ))) else (Q (xI 0) μ)) : DW d 47 4 [xR 141, v1, xI l2, xI l3, xI l4] μ Q :=
  DW_wp (n := 400) (Nat.le_of_ble_eq_true rfl) h
set_option maxRecDepth 20000 in
theorem ge_Now_ownWith {d : Nat} {p1 : Int} {μ : Mem} {Q : AV → Mem → Prop} (h : DW d 48 4 [xR 3, xI p1, xI 0, xI 0] μ Q) : GM d 48 [xR 3, xI p1] μ Q :=
  GM_wp (n := 400) (Nat.le_of_ble_eq_true rfl) (Nat.le_of_ble_eq_true rfl) rfl h
set_option maxRecDepth 20000 in
theorem sg_Now_ownWith_4 {d : Nat} {l1 l2 l3 : Int} {μ : Mem} {Q : AV → Mem → Prop} (h : if l3 < μ 2 1 then (wb l3 6 (if μ 21 l3.toNat = l1 then (wb l3 6 (wb (μ 23 l3.toNat) 6 (if μ 21 (μ 23 l3.toNat).toNat = l1 then (DW d 48 4 [xR 3, xI l1, xI (iw (l2 + 1)), xI (iw (l3 + 1))] μ Q) else (DW d 48 4 [xR 3, xI l1, xI l2, xI (iw (l3 + 1))] μ Q)))) else (DW d 48 4 [xR 3, xI l1, xI l2, xI (iw (l3 + 1))] μ Q))) else (Q (xI l2) μ)) : DW d 48 4 [xR 3, xI l1, xI l2, xI l3] μ Q :=
  DW_wp (n := 400) (Nat.le_of_ble_eq_true rfl) h
set_option maxRecDepth 20000 in
theorem ge_X_thing {d : Nat} {p1 p2 : Int} {μ : Mem} {Q : AV → Mem → Prop} (h : if p1 < 0 then (Q (xI (-2)) μ) else (if p1 < μ 2 1 then (if p2 = 0 then (wb p1 6 (Q (xI (μ 17 p1.toNat)) μ)) else (if p2 = 1 then (wb p1 6 (Q (xI (μ 18 p1.toNat)) μ)) else (if p2 = 2 then (wb p1 6 (Q (xI (μ 19 p1.toNat)) μ)) else (if p2 = 3 then (wb p1 6 (Q (xI (μ 25 p1.toNat)) μ)) else (if p2 = 4 then (GM d 50 [xR 3, xI p1] μ (gI (fun r2 m1 => Q (xI r2) m1))) else (if p2 = 5 then (wb p1 6 (Q (xI (μ 26 p1.toNat)) μ)) else (Q (xI (-3)) μ))))))) else (Q (xI (-2)) μ))) : GM (d + 1) 49 [xR 0, xI p1, xI p2] μ Q :=
  GM_wp (n := 400) (Nat.le_of_ble_eq_true rfl) (Nat.le_of_ble_eq_true rfl) rfl h
set_option maxRecDepth 20000 in
theorem ge_Now_placeOf {d : Nat} {p1 : Int} {μ : Mem} {Q : AV → Mem → Prop} (h : DW d 50 2 [xR 3, xI p1, xI 0] μ Q) : GM d 50 [xR 3, xI p1] μ Q :=
  GM_wp (n := 400) (Nat.le_of_ble_eq_true rfl) (Nat.le_of_ble_eq_true rfl) rfl h
set_option maxRecDepth 20000 in
theorem sg_Now_placeOf_2 {d : Nat} {l1 l2 : Int} {μ : Mem} {Q : AV → Mem → Prop} (h : if l2 < μ 2 1 then (wb l2 6 (if μ 23 l2.toNat = l1 then (Q (xI l2) μ) else (DW d 50 2 [xR 3, xI l1, xI (iw (l2 + 1))] μ Q))) else (Q (xI l1) μ)) : DW d 50 2 [xR 3, xI l1, xI l2] μ Q :=
  DW_wp (n := 400) (Nat.le_of_ble_eq_true rfl) h
set_option maxRecDepth 20000 in
theorem ge_X_thingAs {d : Nat} {p1 p2 : Int} {μ : Mem} {Q : AV → Mem → Prop} (h : if p1 < 0 then (Q (xI (-2)) μ) else (if p1 < μ 2 1 then (if p2 < 0 then (Q (xI (-3)) μ) else (if p2 < 6 then (wb p1 6 (wb (μ 17 p1.toNat) 4 (GM (d + 1) 47 [xR 141, xI (([1, 3, 4, 5] : List Int).getD (μ 17 p1.toNat).toNat 0), xI p2] μ (gI (fun r2 m1 => if r2 = 0 then (Q (xI (-4)) m1) else (GM (d + 1) 50 [xR 3, xI p1] m1 (gI (fun r4 m3 => wb p1 6 (GM (d + 1) 52 [xR 3, xI p1, xI r4, xI (m3 19 p1.toNat)] m3 (gI (fun r6 m5 => if r6 = 0 then (Q (xI 0) m5) else (Q (xI 1) m5)))))))))))) else (Q (xI (-3)) μ))) else (Q (xI (-2)) μ))) : GM (d + 2) 51 [xR 0, xI p1, xI p2] μ Q :=
  GM_wp (n := 400) (Nat.le_of_ble_eq_true rfl) (Nat.le_of_ble_eq_true rfl) rfl h
set_option maxRecDepth 20000 in
theorem ge_Now_works {d : Nat} {p1 p2 p3 : Int} {μ : Mem} {Q : AV → Mem → Prop} (h : wb p1 6 (if μ 19 p1.toNat = p3 then (wb p1 6 (if μ 17 p1.toNat = 1 then (Q (xI 1) μ) else (if μ 17 p1.toNat = 2 then (wb p1 6 (if 0 < μ 25 p1.toNat then (Q (xI 1) μ) else (Q (xI 0) μ))) else (if μ 17 p1.toNat = 3 then (wb p2 6 (wb p1 6 (if μ 21 p2.toNat = μ 21 p1.toNat then (Q (xI 1) μ) else (wb p2 6 (wb (μ 21 p2.toNat) 5 (if μ 16 (μ 21 p2.toNat).toNat = 2 then (Q (xI 1) μ) else (Q (xI 0) μ))))))) else (Q (xI 0) μ))))) else (Q (xI 0) μ))) : GM (d + 1) 52 [xR 3, xI p1, xI p2, xI p3] μ Q :=
  GM_wp (n := 400) (Nat.le_of_ble_eq_true rfl) (Nat.le_of_ble_eq_true rfl) rfl h
set_option maxRecDepth 20000 in
theorem ge_X_place {d : Nat} {p1 p2 : Int} {μ : Mem} {Q : AV → Mem → Prop} (h : if p1 < 0 then (Q (xI (-2)) μ) else (if p1 < μ 2 1 then (if p2 = 0 then (wb p1 6 (Q (xI (μ 21 p1.toNat)) μ)) else (if p2 = 1 then (wb p1 6 (Q (xI (μ 23 p1.toNat)) μ)) else (if p2 = 2 then (wb p1 6 (Q (xI (μ 24 p1.toNat)) μ)) else (Q (xI (-3)) μ)))) else (Q (xI (-2)) μ))) : GM (d + 1) 54 [xR 0, xI p1, xI p2] μ Q :=
  GM_wp (n := 400) (Nat.le_of_ble_eq_true rfl) (Nat.le_of_ble_eq_true rfl) rfl h
set_option maxRecDepth 20000 in
theorem ge_X_may {d : Nat} {p1 p2 p3 : Int} {μ : Mem} {Q : AV → Mem → Prop} (h : if p1 < 0 then (Q (xI (-2)) μ) else (if p1 < μ 2 2 then (if p2 < 0 then (Q (xI (-2)) μ) else (if p2 < μ 2 1 then (if p3 < 0 then (Q (xI (-2)) μ) else (if p3 < μ 2 1 then (if p2 = p3 then (Q (xI (-3)) μ) else (GM (d + 2) 57 [xR 2, xI p1, xI p2, xI p3] μ (gI (fun r2 m1 => if r2 = 0 then (Q (xI 0) m1) else (Q (xI 1) m1))))) else (Q (xI (-2)) μ))) else (Q (xI (-2)) μ))) else (Q (xI (-2)) μ))) : GM (d + 3) 55 [xR 0, xI p1, xI p2, xI p3] μ Q :=
  GM_wp (n := 400) (Nat.le_of_ble_eq_true rfl) (Nat.le_of_ble_eq_true rfl) rfl h
set_option maxRecDepth 20000 in
theorem ge_Told_allows {d : Nat} {p1 p2 p3 : Int} {μ : Mem} {Q : AV → Mem → Prop} (h : wb p2 6 (wb p3 6 (if μ 18 p2.toNat = μ 18 p3.toNat then (GM (d + 1) 58 [xR 2, xI p1, xI p2] μ (gI (fun r2 m1 => if r2 = 0 then (Q (xI 0) m1) else (GM (d + 1) 58 [xR 2, xI p1, xI p3] m1 (gI (fun r4 m3 => if r4 = 0 then (Q (xI 0) m3) else (Q (xI 1) m3))))))) else (Q (xI 0) μ)))) : GM (d + 2) 57 [xR 2, xI p1, xI p2, xI p3] μ Q :=
  GM_wp (n := 400) (Nat.le_of_ble_eq_true rfl) (Nat.le_of_ble_eq_true rfl) rfl h
set_option maxRecDepth 20000 in
theorem ge_Told_isOpen {d : Nat} {p1 p2 : Int} {μ : Mem} {Q : AV → Mem → Prop} (h : wb p2 6 (wb (μ 21 p2.toNat) 5 (if μ 16 (μ 21 p2.toNat).toNat = 3 then (wb p2 6 (wb (μ 21 p2.toNat) 5 (if μ 16 (μ 21 p2.toNat).toNat = 1 then (Q (xI 0) μ) else (Q (xI 1) μ)))) else (wb p1 6 (if xand (xshr (μ 22 p1.toNat) (μ 21 p2.toNat)) 1 = 1 then (wb p2 6 (wb (μ 21 p2.toNat) 5 (if μ 16 (μ 21 p2.toNat).toNat = 1 then (Q (xI 0) μ) else (Q (xI 1) μ)))) else (Q (xI 0) μ)))))) : GM (d + 1) 58 [xR 2, xI p1, xI p2] μ Q :=
  GM_wp (n := 400) (Nat.le_of_ble_eq_true rfl) (Nat.le_of_ble_eq_true rfl) rfl h
set_option maxRecDepth 20000 in
theorem ge_X_pass {d : Nat} {p1 p2 : Int} {μ : Mem} {Q : AV → Mem → Prop} (h : if p1 = (-1) then (if p2 = (-1) then (if p1 = (-1) then (if p2 = (-1) then (DW (d + 3) 59 28 [xR 0, xI p1, xI p2, xI 1] μ Q) else (DW (d + 3) 59 28 [xR 0, xI p1, xI p2, xI 0] μ Q)) else (DW (d + 3) 59 28 [xR 0, xI p1, xI p2, xI 0] μ Q)) else (if p2 < 0 then (Q (xI (-2)) μ) else (if p2 < μ 2 1 then (if p1 = (-1) then (if p2 = (-1) then (DW (d + 3) 59 28 [xR 0, xI p1, xI p2, xI 1] μ Q) else (DW (d + 3) 59 28 [xR 0, xI p1, xI p2, xI 0] μ Q)) else (DW (d + 3) 59 28 [xR 0, xI p1, xI p2, xI 0] μ Q)) else (Q (xI (-2)) μ)))) else (if p1 < 0 then (Q (xI (-2)) μ) else (if p1 < μ 2 1 then (if p2 = (-1) then (if p1 = (-1) then (if p2 = (-1) then (DW (d + 3) 59 28 [xR 0, xI p1, xI p2, xI 1] μ Q) else (DW (d + 3) 59 28 [xR 0, xI p1, xI p2, xI 0] μ Q)) else (DW (d + 3) 59 28 [xR 0, xI p1, xI p2, xI 0] μ Q)) else (if p2 < 0 then (Q (xI (-2)) μ) else (if p2 < μ 2 1 then (if p1 = (-1) then (if p2 = (-1) then (DW (d + 3) 59 28 [xR 0, xI p1, xI p2, xI 1] μ Q) else (DW (d + 3) 59 28 [xR 0, xI p1, xI p2, xI 0] μ Q)) else (DW (d + 3) 59 28 [xR 0, xI p1, xI p2, xI 0] μ Q)) else (Q (xI (-2)) μ)))) else (Q (xI (-2)) μ)))) : GM (d + 3) 59 [xR 0, xI p1, xI p2] μ Q :=
  GM_wp (n := 400) (Nat.le_of_ble_eq_true rfl) (Nat.le_of_ble_eq_true rfl) rfl h
set_option maxRecDepth 20000 in
theorem sg_X_pass_28 {d : Nat} {l1 l2 l3 : Int} {μ : Mem} {Q : AV → Mem → Prop} (h : if l3 = 0 then (if l1 = l2 then (Q (xI (-3)) μ) else (if l1 = (-1) then (Q (xI (-3)) μ) else (if l2 = (-1) then (Q (xI (-3)) μ) else (DW (d + 3) 59 42 [xR 0, xI l1, xI l2, xI l3] μ Q)))) else (DW (d + 3) 59 42 [xR 0, xI l1, xI l2, xI l3] μ Q)) : DW (d + 3) 59 28 [xR 0, xI l1, xI l2, xI l3] μ Q :=
  DW_wp (n := 400) (Nat.le_of_ble_eq_true rfl) h
set_option maxRecDepth 20000 in
theorem sg_X_pass_42 {d : Nat} {l1 l2 l3 : Int} {μ : Mem} {Q : AV → Mem → Prop} (h : if μ 3 1 < μ 2 2 then (DW (d + 3) 59 52 [xR 0, xI l1, xI l2, xI l3] μ Q) else (Q (xI (-4)) μ)) : DW (d + 3) 59 42 [xR 0, xI l1, xI l2, xI l3] μ Q :=
  DW_wp (n := 400) (Nat.le_of_ble_eq_true rfl) h
set_option maxRecDepth 20000 in
theorem sg_X_pass_52 {d : Nat} {l1 l2 l3 : Int} {μ : Mem} {Q : AV → Mem → Prop} (h : if l3 = 0 then (GM (d + 2) 57 [xR 2, xI (μ 3 1), xI l1, xI l2] μ (gI (fun r2 m1 => if r2 = 0 then (Q (xI (-4)) m1) else (GM (d + 2) 60 [xR 3, xI l1, xI l2] m1 (gV (fun m3 => DW (d + 3) 59 71 [xR 0, xI l1, xI l2, xI l3] m3 Q)))))) else (DW (d + 3) 59 71 [xR 0, xI l1, xI l2, xI l3] μ Q)) : DW (d + 3) 59 52 [xR 0, xI l1, xI l2, xI l3] μ Q :=
  DW_wp (n := 400) (Nat.le_of_ble_eq_true rfl) h
set_option maxRecDepth 20000 in
theorem sg_X_pass_71 {d : Nat} {v1 v2 v3 : AV} {μ : Mem} {Q : AV → Mem → Prop} (h : Q (xI (iw ((μ 3 1) + 1))) (xset μ 3 1 (iw ((μ 3 1) + 1)))) : DW (d + 3) 59 71 [xR 0, v1, v2, v3] μ Q :=
  DW_wp (n := 400) (Nat.le_of_ble_eq_true rfl) h
set_option maxRecDepth 20000 in
theorem ge_Now_change {d : Nat} {p1 p2 : Int} {μ : Mem} {Q : AV → Mem → Prop} (h : wb p1 6 (wb p2 6 (wb p1 6 (wb p2 6 (wb p1 6 (wb p1 6 (wb p2 6 (wb p2 6 (Q (xI 0) (xset (xset (xset (xset (xset μ 23 p1.toNat (μ 23 p2.toNat)) 23 p2.toNat (μ 23 p1.toNat)) 24 p1.toNat (iw ((μ 24 p1.toNat) + 1))) 24 p2.toNat (iw (((xset (xset (xset μ 23 p1.toNat (μ 23 p2.toNat)) 23 p2.toNat (μ 23 p1.toNat)) 24 p1.toNat (iw ((μ 24 p1.toNat) + 1))) 24 p2.toNat) + 1))) 3 2 (iw ((μ 3 2) + 1)))))))))))) : GM d 60 [xR 3, xI p1, xI p2] μ Q :=
  GM_wp (n := 400) (Nat.le_of_ble_eq_true rfl) (Nat.le_of_ble_eq_true rfl) rfl h
set_option maxRecDepth 20000 in
theorem ge_X_say {d : Nat} {p1 p2 : Int} {μ : Mem} {Q : AV → Mem → Prop} (h : if p1 < 0 then (Q (xI (-2)) μ) else (if p1 < μ 2 1 then (if p2 < 0 then (Q (xI (-3)) μ) else (if p2 < 4 then (GM (d + 2) 62 [xR 3, xI p1, xI p2] μ (gI (fun r2 m1 => if r2 = 0 then (Q (xI 0) m1) else (Q (xI 1) m1)))) else (Q (xI (-3)) μ))) else (Q (xI (-2)) μ))) : GM (d + 3) 61 [xR 0, xI p1, xI p2] μ Q :=
  GM_wp (n := 400) (Nat.le_of_ble_eq_true rfl) (Nat.le_of_ble_eq_true rfl) rfl h
set_option maxRecDepth 20000 in
theorem ge_Now_hear {d : Nat} {p1 p2 : Int} {μ : Mem} {Q : AV → Mem → Prop} (h : wb p1 6 (GM (d + 1) 52 [xR 3, xI (μ 23 p1.toNat), xI p1, xI p2] μ (gI (fun r2 m1 => if r2 = 0 then (wb p1 6 (wb (m1 21 p1.toNat) 5 (if m1 16 (m1 21 p1.toNat).toNat = 3 then (Q (xI 0) m1) else (wb p1 6 (if m1 17 p1.toNat = 0 then (Q (xI 0) m1) else (wb p1 6 (if m1 19 p1.toNat = p2 then (wb p1 6 (Q (xI 0) (xset m1 3 3 (xior (m1 3 3) (xshl 1 (m1 21 p1.toNat)))))) else (Q (xI 0) m1)))))))) else (wb (μ 23 p1.toNat) 6 (wb (μ 23 p1.toNat) 6 (wb (μ 23 p1.toNat) 6 (if m1 17 (μ 23 p1.toNat).toNat = 2 then (wb (μ 23 p1.toNat) 6 (wb (μ 23 p1.toNat) 6 (Q (xI 1) (xset (xset m1 26 ((μ 23 p1.toNat).toNat) (iw ((m1 26 (μ 23 p1.toNat).toNat) + 1))) 25 ((μ 23 p1.toNat).toNat) (iw ((m1 25 (μ 23 p1.toNat).toNat) - 1)))))) else (Q (xI 1) (xset m1 26 ((μ 23 p1.toNat).toNat) (iw ((m1 26 (μ 23 p1.toNat).toNat) + 1)))))))))))) : GM (d + 2) 62 [xR 3, xI p1, xI p2] μ Q :=
  GM_wp (n := 400) (Nat.le_of_ble_eq_true rfl) (Nat.le_of_ble_eq_true rfl) rfl h
set_option maxRecDepth 20000 in
theorem ge_X_keep {d : Nat} {p1 : Int} {μ : Mem} {Q : AV → Mem → Prop} (h : if p1 < 0 then (Q (xI (-2)) μ) else (if p1 < 2 then (if p1 = 0 then (GM (d + 1) 65 [xR 5, xR 3] μ (gV (fun m2 => Q (xI (m2 3 1)) (xset m2 0 4 (xior (m2 0 4) (xshl 1 p1)))))) else (if p1 = 1 then (GM (d + 1) 65 [xR 6, xR 3] μ (gV (fun m1 => Q (xI (m1 3 1)) (xset m1 0 4 (xior (m1 0 4) (xshl 1 p1)))))) else False)) else (Q (xI (-2)) μ))) : GM (d + 2) 64 [xR 0, xI p1] μ Q :=
  GM_wp (n := 400) (Nat.le_of_ble_eq_true rfl) (Nat.le_of_ble_eq_true rfl) rfl h
set_option maxRecDepth 20000 in
theorem ge_Now_copy_5_3 {d : Nat} {μ : Mem} {Q : AV → Mem → Prop} (h : Q (xI 0) (xcpy (xcpy (xcpy (xcpy (xset (xset (xset μ 5 1 (μ 3 1)) 5 2 (μ 3 2)) 5 3 (μ 3 3)) 23 27 0 0 6) 24 28 0 0 6) 25 29 0 0 6) 26 30 0 0 6)) : GM (d + 1) 65 [xR 5, xR 3] μ Q :=
  GM_wp (n := 400) (Nat.le_of_ble_eq_true rfl) (Nat.le_of_ble_eq_true rfl) rfl h
set_option maxRecDepth 20000 in
theorem ge_Now_copy_6_3 {d : Nat} {μ : Mem} {Q : AV → Mem → Prop} (h : Q (xI 0) (xcpy (xcpy (xcpy (xcpy (xset (xset (xset μ 6 1 (μ 3 1)) 6 2 (μ 3 2)) 6 3 (μ 3 3)) 23 31 0 0 6) 24 32 0 0 6) 25 33 0 0 6) 26 34 0 0 6)) : GM (d + 1) 65 [xR 6, xR 3] μ Q :=
  GM_wp (n := 400) (Nat.le_of_ble_eq_true rfl) (Nat.le_of_ble_eq_true rfl) rfl h
set_option maxRecDepth 20000 in
theorem ge_Now_copy_3_5 {d : Nat} {μ : Mem} {Q : AV → Mem → Prop} (h : Q (xI 0) (xcpy (xcpy (xcpy (xcpy (xset (xset (xset μ 3 1 (μ 5 1)) 3 2 (μ 5 2)) 3 3 (μ 5 3)) 27 23 0 0 6) 28 24 0 0 6) 29 25 0 0 6) 30 26 0 0 6)) : GM (d + 1) 65 [xR 3, xR 5] μ Q :=
  GM_wp (n := 400) (Nat.le_of_ble_eq_true rfl) (Nat.le_of_ble_eq_true rfl) rfl h
set_option maxRecDepth 20000 in
theorem ge_Now_copy_3_6 {d : Nat} {μ : Mem} {Q : AV → Mem → Prop} (h : Q (xI 0) (xcpy (xcpy (xcpy (xcpy (xset (xset (xset μ 3 1 (μ 6 1)) 3 2 (μ 6 2)) 3 3 (μ 6 3)) 31 23 0 0 6) 32 24 0 0 6) 33 25 0 0 6) 34 26 0 0 6)) : GM (d + 1) 65 [xR 3, xR 6] μ Q :=
  GM_wp (n := 400) (Nat.le_of_ble_eq_true rfl) (Nat.le_of_ble_eq_true rfl) rfl h
set_option maxRecDepth 20000 in
theorem ge_X_back {d : Nat} {p1 : Int} {μ : Mem} {Q : AV → Mem → Prop} (h : if p1 < 0 then (Q (xI (-2)) μ) else (if p1 < 2 then (if xand (xshr (μ 0 4) p1) 1 = 0 then (Q (xI (-4)) μ) else (if p1 = 0 then (GM (d + 1) 65 [xR 3, xR 5] μ (gV (fun m2 => Q (xI (m2 3 1)) m2))) else (if p1 = 1 then (GM (d + 1) 65 [xR 3, xR 6] μ (gV (fun m1 => Q (xI (m1 3 1)) m1))) else False))) else (Q (xI (-2)) μ))) : GM (d + 2) 66 [xR 0, xI p1] μ Q :=
  GM_wp (n := 400) (Nat.le_of_ble_eq_true rfl) (Nat.le_of_ble_eq_true rfl) rfl h
set_option maxRecDepth 20000 in
theorem ge_X_rings {d : Nat} {μ : Mem} {Q : AV → Mem → Prop} (h : GM d 68 [xR 3] μ (gI (fun r2 m1 => Q (xI r2) m1))) : GM (d + 1) 67 [xR 0] μ Q :=
  GM_wp (n := 400) (Nat.le_of_ble_eq_true rfl) (Nat.le_of_ble_eq_true rfl) rfl h
set_option maxRecDepth 20000 in
theorem ge_Now_ringCount {d : Nat} {μ : Mem} {Q : AV → Mem → Prop} (h : DW d 68 6 [xR 3, xI 0, xI 0, xI 0, xL 0, xL 0] μ Q) : GM d 68 [xR 3] μ Q :=
  GM_wp (n := 400) (Nat.le_of_ble_eq_true rfl) (Nat.le_of_ble_eq_true rfl) rfl h
set_option maxRecDepth 20000 in
theorem sg_Now_ringCount_6 {d : Nat} {l1 l2 l3 : Int} {v4 v5 : AV} {μ : Mem} {Q : AV → Mem → Prop} (h : if l3 < μ 2 1 then (if xand (xshr l2 l3) 1 = 0 then (DW d 68 23 [xR 3, xI (iw (l1 + 1)), xI l2, xI l3, xI l3, xI 0] μ Q) else (DW d 68 23 [xR 3, xI l1, xI l2, xI l3, xI l3, xI 0] μ Q)) else (Q (xI l1) μ)) : DW d 68 6 [xR 3, xI l1, xI l2, xI l3, v4, v5] μ Q :=
  DW_wp (n := 400) (Nat.le_of_ble_eq_true rfl) h
set_option maxRecDepth 20000 in
theorem sg_Now_ringCount_23 {d : Nat} {l1 l2 l3 l4 l5 : Int} {μ : Mem} {Q : AV → Mem → Prop} (h : if l5 < μ 2 1 then (if xand (xshr l2 l4) 1 = 0 then (wb l4 6 (DW d 68 23 [xR 3, xI l1, xI (xior l2 (xshl 1 l4)), xI l3, xI (μ 23 l4.toNat), xI (iw (l5 + 1))] μ Q)) else (DW d 68 48 [xR 3, xI l1, xI l2, xI l3, xI l4, xI l5] μ Q)) else (DW d 68 48 [xR 3, xI l1, xI l2, xI l3, xI l4, xI l5] μ Q)) : DW d 68 23 [xR 3, xI l1, xI l2, xI l3, xI l4, xI l5] μ Q :=
  DW_wp (n := 400) (Nat.le_of_ble_eq_true rfl) h
set_option maxRecDepth 20000 in
theorem sg_Now_ringCount_48 {d : Nat} {l1 l2 l3 : Int} {v4 v5 : AV} {μ : Mem} {Q : AV → Mem → Prop} (h : DW d 68 6 [xR 3, xI l1, xI l2, xI (iw (l3 + 1)), v4, v5] μ Q) : DW d 68 48 [xR 3, xI l1, xI l2, xI l3, v4, v5] μ Q :=
  DW_wp (n := 400) (Nat.le_of_ble_eq_true rfl) h
set_option maxRecDepth 20000 in
theorem ge_X_mend {d : Nat} {p1 p2 : Int} {μ : Mem} {Q : AV → Mem → Prop} (h : if p1 < (-1) then (Q (xI (-3)) μ) else (if p2 < 0 then (Q (xI (-3)) μ) else (if 1 < p2 then (Q (xI (-3)) μ) else (GM (d + 1) 70 [xR 8] μ (gI (fun r2 m1 => if p1 = (-1) then (Q (xI r2) m1) else (if p1 < r2 then (if p2 = 0 then (wb p1 6 (Q (xI (m1 38 p1.toNat)) m1)) else (wb p1 6 (Q (xI (m1 39 p1.toNat)) m1))) else (Q (xI (-1)) m1)))))))) : GM (d + 2) 69 [xR 0, xI p1, xI p2] μ Q :=
  GM_wp (n := 400) (Nat.le_of_ble_eq_true rfl) (Nat.le_of_ble_eq_true rfl) rfl h
set_option maxRecDepth 20000 in
theorem ge_Mend_find {d : Nat} {μ : Mem} {Q : AV → Mem → Prop} (h : DW (d + 1) 70 11 [xR 8, xI 0, xL 0, xL 0] (xcpy μ 23 40 0 0 6) Q) : GM (d + 1) 70 [xR 8] μ Q :=
  GM_wp (n := 400) (Nat.le_of_ble_eq_true rfl) (Nat.le_of_ble_eq_true rfl) rfl h
set_option maxRecDepth 20000 in
theorem sg_Mend_find_11 {d : Nat} {l1 : Int} {v2 v3 : AV} {μ : Mem} {Q : AV → Mem → Prop} (h : if l1 < μ 2 1 then (wb l1 6 (if μ 40 l1.toNat = l1 then (DW (d + 1) 70 11 [xR 8, xI (iw (l1 + 1)), v2, v3] μ Q) else (wb l1 6 (wb (μ 21 l1.toNat) 5 (if μ 16 (μ 21 l1.toNat).toNat = 1 then (Q (xI (-1)) μ) else (DW (d + 1) 70 11 [xR 8, xI (iw (l1 + 1)), v2, v3] μ Q)))))) else (DW (d + 1) 70 33 [xR 8, xI l1, v2, v3] μ Q)) : DW (d + 1) 70 11 [xR 8, xI l1, v2, v3] μ Q :=
  DW_wp (n := 400) (Nat.le_of_ble_eq_true rfl) h
set_option maxRecDepth 20000 in
theorem sg_Mend_find_33 {d : Nat} {v1 v2 v3 : AV} {μ : Mem} {Q : AV → Mem → Prop} (h : DW (d + 1) 70 38 [xR 8, xI 0, xI 0, v3] μ Q) : DW (d + 1) 70 33 [xR 8, v1, v2, v3] μ Q :=
  DW_wp (n := 400) (Nat.le_of_ble_eq_true rfl) h
set_option maxRecDepth 20000 in
theorem sg_Mend_find_38 {d : Nat} {l1 l2 : Int} {v3 : AV} {μ : Mem} {Q : AV → Mem → Prop} (h : if l2 < μ 2 1 then (wb l2 6 (if μ 40 l2.toNat = l2 then (DW (d + 1) 70 38 [xR 8, xI l1, xI (iw (l2 + 1)), v3] μ Q) else (GM d 71 [xR 8, xI l2] μ (gI (fun r2 m1 => wb l1 6 (wb l1 6 (wb l2 6 (wb r2 6 (wb l2 6 (DW (d + 1) 70 38 [xR 8, xI (iw (l1 + 1)), xI (iw (l2 + 1)), xI r2] (xset (xset (xset (xset m1 38 l1.toNat l2) 39 l1.toNat r2) 40 r2.toNat (m1 40 l2.toNat)) 40 l2.toNat l2) Q)))))))))) else (Q (xI l1) μ)) : DW (d + 1) 70 38 [xR 8, xI l1, xI l2, v3] μ Q :=
  DW_wp (n := 400) (Nat.le_of_ble_eq_true rfl) h
set_option maxRecDepth 20000 in
theorem ge_Mend_placeOfOwn {d : Nat} {p1 : Int} {μ : Mem} {Q : AV → Mem → Prop} (h : DW d 71 2 [xR 8, xI p1, xI p1] μ Q) : GM d 71 [xR 8, xI p1] μ Q :=
  GM_wp (n := 400) (Nat.le_of_ble_eq_true rfl) (Nat.le_of_ble_eq_true rfl) rfl h
set_option maxRecDepth 20000 in
theorem sg_Mend_placeOfOwn_2 {d : Nat} {l1 l2 : Int} {μ : Mem} {Q : AV → Mem → Prop} (h : if l2 < μ 2 1 then (wb l2 6 (if μ 40 l2.toNat = l1 then (Q (xI l2) μ) else (DW d 71 2 [xR 8, xI l1, xI (iw (l2 + 1))] μ Q))) else (Q (xI l1) μ)) : DW d 71 2 [xR 8, xI l1, xI l2] μ Q :=
  DW_wp (n := 400) (Nat.le_of_ble_eq_true rfl) h
set_option maxRecDepth 20000 in
theorem ge_X_show {d : Nat} {p1 : Int} {μ : Mem} {Q : AV → Mem → Prop} (h : if p1 < 0 then (Q (xI (-2)) μ) else (if p1 < μ 2 0 then (GM (d + 2) 73 [xR 3, xI p1] μ (gI (fun r2 m1 => Q (xI r2) m1))) else (Q (xI (-2)) μ))) : GM (d + 3) 72 [xR 0, xI p1] μ Q :=
  GM_wp (n := 400) (Nat.le_of_ble_eq_true rfl) (Nat.le_of_ble_eq_true rfl) rfl h
set_option maxRecDepth 20000 in
theorem ge_Now_showable {d : Nat} {p1 : Int} {μ : Mem} {Q : AV → Mem → Prop} (h : DW (d + 2) 73 4 [xR 3, xI p1, xI 0, xI 0] μ Q) : GM (d + 2) 73 [xR 3, xI p1] μ Q :=
  GM_wp (n := 400) (Nat.le_of_ble_eq_true rfl) (Nat.le_of_ble_eq_true rfl) rfl h
set_option maxRecDepth 20000 in
theorem sg_Now_showable_4 {d : Nat} {l1 l2 l3 : Int} {μ : Mem} {Q : AV → Mem → Prop} (h : if l3 < μ 2 1 then (wb l3 6 (if μ 21 l3.toNat = l1 then (wb l3 6 (wb l3 6 (GM (d + 1) 52 [xR 3, xI (μ 23 l3.toNat), xI l3, xI (μ 19 l3.toNat)] μ (gI (fun r2 m1 => if r2 = 0 then (DW (d + 2) 73 4 [xR 3, xI l1, xI l2, xI (iw (l3 + 1))] m1 Q) else (DW (d + 2) 73 4 [xR 3, xI l1, xI (iw (l2 + 1)), xI (iw (l3 + 1))] m1 Q)))))) else (DW (d + 2) 73 4 [xR 3, xI l1, xI l2, xI (iw (l3 + 1))] μ Q))) else (Q (xI l2) μ)) : DW (d + 2) 73 4 [xR 3, xI l1, xI l2, xI l3] μ Q :=
  DW_wp (n := 400) (Nat.le_of_ble_eq_true rfl) h
set_option maxRecDepth 20000 in
theorem ge_X_plan {d : Nat} {p1 : Int} {μ : Mem} {Q : AV → Mem → Prop} (h : if p1 < 0 then (Q (xI (-3)) μ) else (if 1 < p1 then (Q (xI (-3)) μ) else (GM (d + 4) 75 [xR 9] μ (gV (fun m1 => if p1 = 0 then (Q (xI (m1 9 5)) m1) else (Q (xI (m1 9 6)) m1)))))) : GM (d + 5) 74 [xR 0, xI p1] μ Q :=
  GM_wp (n := 400) (Nat.le_of_ble_eq_true rfl) (Nat.le_of_ble_eq_true rfl) rfl h
set_option maxRecDepth 20000 in
theorem ge_Plan_find {d : Nat} {μ : Mem} {Q : AV → Mem → Prop} (h : GM (d + 3) 76 [xR 9] μ (gI (fun r2 m1 => GM (d + 3) 77 [xI r2] m1 (gI (fun r4 m3 => GM (d + 3) 78 [xR 9, xI r4] m3 (gV (fun m5 => DW (d + 4) 75 13 [xR 9, xI r2, xI (iw ((m5 2 2) - 1))] m5 Q))))))) : GM (d + 4) 75 [xR 9] μ Q :=
  GM_wp (n := 400) (Nat.le_of_ble_eq_true rfl) (Nat.le_of_ble_eq_true rfl) rfl h
set_option maxRecDepth 20000 in
theorem sg_Plan_find_13 {d : Nat} {l1 l2 : Int} {μ : Mem} {Q : AV → Mem → Prop} (h : if l2 < μ 3 1 then (DW (d + 4) 75 26 [xR 9, xI l1, xI l2] μ Q) else (GM (d + 3) 77 [xI l1] μ (gI (fun r2 m1 => GM (d + 3) 80 [xR 9, xI l2, xI r2] m1 (gV (fun m3 => DW (d + 4) 75 13 [xR 9, xI l1, xI (iw (l2 + (-1)))] m3 Q)))))) : DW (d + 4) 75 13 [xR 9, xI l1, xI l2] μ Q :=
  DW_wp (n := 400) (Nat.le_of_ble_eq_true rfl) h
set_option maxRecDepth 20000 in
theorem sg_Plan_find_26 {d : Nat} {l1 : Int} {v2 : AV} {μ : Mem} {Q : AV → Mem → Prop} (h : DW (d + 4) 75 34 [xR 9, xI l1, xI (μ 3 1)] (xset μ 9 6 0) Q) : DW (d + 4) 75 26 [xR 9, xI l1, v2] μ Q :=
  DW_wp (n := 400) (Nat.le_of_ble_eq_true rfl) h
set_option maxRecDepth 20000 in
theorem sg_Plan_find_34 {d : Nat} {l1 l2 : Int} {μ : Mem} {Q : AV → Mem → Prop} (h : if l2 < μ 2 2 then (GM (d + 3) 83 [xR 9, xI l2, xI l1] μ (gI (fun r2 m1 => DW (d + 4) 75 34 [xR 9, xI r2, xI (iw (l2 + 1))] m1 Q))) else (DW (d + 4) 75 47 [xR 9, xI l1, xI l2] μ Q)) : DW (d + 4) 75 34 [xR 9, xI l1, xI l2] μ Q :=
  DW_wp (n := 400) (Nat.le_of_ble_eq_true rfl) h
set_option maxRecDepth 20000 in
theorem sg_Plan_find_47 {d : Nat} {l1 : Int} {v2 : AV} {μ : Mem} {Q : AV → Mem → Prop} (h : GM (d + 3) 79 [xR 9] μ (gI (fun r2 m1 => GM (d + 3) 77 [xI (xand l1 r2)] m1 (gI (fun r4 m3 => Q (xI 0) (xset m3 9 5 r4)))))) : DW (d + 4) 75 47 [xR 9, xI l1, v2] μ Q :=
  DW_wp (n := 400) (Nat.le_of_ble_eq_true rfl) h
set_option maxRecDepth 20000 in
theorem ge_Plan_charmSet {d : Nat} {μ : Mem} {Q : AV → Mem → Prop} (h : DW (d + 1) 76 4 [xR 9, xI 0, xI 0] μ Q) : GM (d + 1) 76 [xR 9] μ Q :=
  GM_wp (n := 400) (Nat.le_of_ble_eq_true rfl) (Nat.le_of_ble_eq_true rfl) rfl h
set_option maxRecDepth 20000 in
theorem sg_Plan_charmSet_4 {d : Nat} {l1 l2 : Int} {μ : Mem} {Q : AV → Mem → Prop} (h : if l2 < μ 2 1 then (wb l2 6 (wb (μ 23 l2.toNat) 6 (if μ 17 (μ 23 l2.toNat).toNat = 0 then (DW (d + 1) 76 4 [xR 9, xI l1, xI (iw (l2 + 1))] μ Q) else (DW (d + 1) 76 4 [xR 9, xI (xior l1 (xshl 1 l2)), xI (iw (l2 + 1))] μ Q)))) else (Q (xI l1) μ)) : DW (d + 1) 76 4 [xR 9, xI l1, xI l2] μ Q :=
  DW_wp (n := 400) (Nat.le_of_ble_eq_true rfl) h
set_option maxRecDepth 20000 in
theorem ge_JInteger_bitCount {d : Nat} {p0 : Int} {μ : Mem} {Q : AV → Mem → Prop} (h : Q (xI (xand (iw ((iw ((xand (iw ((iw ((xand (iw (p0 - (xand (xushr p0 1) 1431655765))) 858993459) + (xand (xushr (iw (p0 - (xand (xushr p0 1) 1431655765))) 2) 858993459))) + (xushr (iw ((xand (iw (p0 - (xand (xushr p0 1) 1431655765))) 858993459) + (xand (xushr (iw (p0 - (xand (xushr p0 1) 1431655765))) 2) 858993459))) 4))) 252645135) + (xushr (xand (iw ((iw ((xand (iw (p0 - (xand (xushr p0 1) 1431655765))) 858993459) + (xand (xushr (iw (p0 - (xand (xushr p0 1) 1431655765))) 2) 858993459))) + (xushr (iw ((xand (iw (p0 - (xand (xushr p0 1) 1431655765))) 858993459) + (xand (xushr (iw (p0 - (xand (xushr p0 1) 1431655765))) 2) 858993459))) 4))) 252645135) 8))) + (xushr (iw ((xand (iw ((iw ((xand (iw (p0 - (xand (xushr p0 1) 1431655765))) 858993459) + (xand (xushr (iw (p0 - (xand (xushr p0 1) 1431655765))) 2) 858993459))) + (xushr (iw ((xand (iw (p0 - (xand (xushr p0 1) 1431655765))) 858993459) + (xand (xushr (iw (p0 - (xand (xushr p0 1) 1431655765))) 2) 858993459))) 4))) 252645135) + (xushr (xand (iw ((iw ((xand (iw (p0 - (xand (xushr p0 1) 1431655765))) 858993459) + (xand (xushr (iw (p0 - (xand (xushr p0 1) 1431655765))) 2) 858993459))) + (xushr (iw ((xand (iw (p0 - (xand (xushr p0 1) 1431655765))) 858993459) + (xand (xushr (iw (p0 - (xand (xushr p0 1) 1431655765))) 2) 858993459))) 4))) 252645135) 8))) 16))) 63)) μ) : GM d 77 [xI p0] μ Q :=
  GM_wp (n := 400) (Nat.le_of_ble_eq_true rfl) (Nat.le_of_ble_eq_true rfl) rfl h
set_option maxRecDepth 20000 in
theorem ge_Plan_weighEnds {d : Nat} {p1 : Int} {μ : Mem} {Q : AV → Mem → Prop} (h : GM (d + 1) 79 [xR 9] μ (gI (fun r2 m1 => DW (d + 2) 78 5 [xR 9, xI p1, xI r2, xI 0] m1 Q))) : GM (d + 2) 78 [xR 9, xI p1] μ Q :=
  GM_wp (n := 400) (Nat.le_of_ble_eq_true rfl) (Nat.le_of_ble_eq_true rfl) rfl h
set_option maxRecDepth 20000 in
theorem sg_Plan_weighEnds_5 {d : Nat} {l1 l2 l3 : Int} {μ : Mem} {Q : AV → Mem → Prop} (h : if l3 < 64 then (GM (d + 1) 77 [xI l3] μ (gI (fun r2 m1 => if r2 = l1 then (wb (m1 2 2) 7 (GM (d + 1) 77 [xI (xand l3 l2)] m1 (gI (fun r4 m3 => wb l3 64 (DW (d + 2) 78 5 [xR 9, xI l1, xI l2, xI (iw (l3 + 1))] (xset m3 (41 + 1 + (m1 2 2).toNat) l3.toNat (iw (16 * r4))) Q))))) else (DW (d + 2) 78 5 [xR 9, xI l1, xI l2, xI (iw (l3 + 1))] m1 Q)))) else (Q (xI 0) μ)) : DW (d + 2) 78 5 [xR 9, xI l1, xI l2, xI l3] μ Q :=
  DW_wp (n := 400) (Nat.le_of_ble_eq_true rfl) h
set_option maxRecDepth 20000 in
theorem ge_Plan_hostPlaces {d : Nat} {μ : Mem} {Q : AV → Mem → Prop} (h : DW (d + 1) 79 4 [xR 9, xI 0, xI 0] μ Q) : GM (d + 1) 79 [xR 9] μ Q :=
  GM_wp (n := 400) (Nat.le_of_ble_eq_true rfl) (Nat.le_of_ble_eq_true rfl) rfl h
set_option maxRecDepth 20000 in
theorem sg_Plan_hostPlaces_4 {d : Nat} {l1 l2 : Int} {μ : Mem} {Q : AV → Mem → Prop} (h : if l2 < μ 2 1 then (wb l2 6 (wb (μ 21 l2.toNat) 5 (if μ 16 (μ 21 l2.toNat).toNat = 3 then (DW (d + 1) 79 4 [xR 9, xI (xior l1 (xshl 1 l2)), xI (iw (l2 + 1))] μ Q) else (DW (d + 1) 79 4 [xR 9, xI l1, xI (iw (l2 + 1))] μ Q)))) else (Q (xI l1) μ)) : DW (d + 1) 79 4 [xR 9, xI l1, xI l2] μ Q :=
  DW_wp (n := 400) (Nat.le_of_ble_eq_true rfl) h
set_option maxRecDepth 20000 in
theorem ge_Plan_weighNight {d : Nat} {p1 p2 : Int} {μ : Mem} {Q : AV → Mem → Prop} (h : DW (d + 3) 80 2 [xR 9, xI p1, xI p2, xI 0, xL 0] μ Q) : GM (d + 3) 80 [xR 9, xI p1, xI p2] μ Q :=
  GM_wp (n := 400) (Nat.le_of_ble_eq_true rfl) (Nat.le_of_ble_eq_true rfl) rfl h
set_option maxRecDepth 20000 in
theorem sg_Plan_weighNight_2 {d : Nat} {l1 l2 l3 : Int} {v4 : AV} {μ : Mem} {Q : AV → Mem → Prop} (h : if l3 < 64 then (GM (d + 2) 77 [xI l3] μ (gI (fun r2 m1 => if r2 = l2 then (wb l1 7 (wb (iw (l1 + 1)) 7 (wb l3 64 (wb l3 64 (DW (d + 3) 80 2 [xR 9, xI l1, xI l2, xI (iw (l3 + 1)), v4] (xset m1 (41 + 1 + l1.toNat) l3.toNat (m1 (41 + 1 + (iw (l1 + 1)).toNat) l3.toNat)) Q))))) else (DW (d + 3) 80 2 [xR 9, xI l1, xI l2, xI (iw (l3 + 1)), v4] m1 Q)))) else (DW (d + 3) 80 26 [xR 9, xI l1, xI l2, xI l3, v4] μ Q)) : DW (d + 3) 80 2 [xR 9, xI l1, xI l2, xI l3, v4] μ Q :=
  DW_wp (n := 400) (Nat.le_of_ble_eq_true rfl) h
set_option maxRecDepth 20000 in
theorem sg_Plan_weighNight_26 {d : Nat} {l1 l2 : Int} {v3 v4 : AV} {μ : Mem} {Q : AV → Mem → Prop} (h : DW (d + 3) 80 29 [xR 9, xI l1, xI l2, xI 0, v4] μ Q) : DW (d + 3) 80 26 [xR 9, xI l1, xI l2, v3, v4] μ Q :=
  DW_wp (n := 400) (Nat.le_of_ble_eq_true rfl) h
set_option maxRecDepth 20000 in
theorem sg_Plan_weighNight_29 {d : Nat} {l1 l2 l3 : Int} {v4 : AV} {μ : Mem} {Q : AV → Mem → Prop} (h : if l3 < μ 2 1 then (DW (d + 3) 80 39 [xR 9, xI l1, xI l2, xI l3, xI (iw (l3 + 1))] μ Q) else (Q (xI 0) μ)) : DW (d + 3) 80 29 [xR 9, xI l1, xI l2, xI l3, v4] μ Q :=
  DW_wp (n := 400) (Nat.le_of_ble_eq_true rfl) h
set_option maxRecDepth 20000 in
theorem sg_Plan_weighNight_39 {d : Nat} {l1 l2 l3 l4 : Int} {μ : Mem} {Q : AV → Mem → Prop} (h : if l4 < μ 2 1 then (GM (d + 2) 57 [xR 2, xI l1, xI l3, xI l4] μ (gI (fun r2 m1 => if r2 = 0 then (DW (d + 3) 80 39 [xR 9, xI l1, xI l2, xI l3, xI (iw (l4 + 1))] m1 Q) else (GM (d + 2) 81 [xR 9, xI l1, xI l3, xI l4, xI l2] m1 (gV (fun m3 => DW (d + 3) 80 39 [xR 9, xI l1, xI l2, xI l3, xI (iw (l4 + 1))] m3 Q)))))) else (DW (d + 3) 80 60 [xR 9, xI l1, xI l2, xI l3, xI l4] μ Q)) : DW (d + 3) 80 39 [xR 9, xI l1, xI l2, xI l3, xI l4] μ Q :=
  DW_wp (n := 400) (Nat.le_of_ble_eq_true rfl) h
set_option maxRecDepth 20000 in
theorem sg_Plan_weighNight_60 {d : Nat} {l1 l2 l3 : Int} {v4 : AV} {μ : Mem} {Q : AV → Mem → Prop} (h : DW (d + 3) 80 29 [xR 9, xI l1, xI l2, xI (iw (l3 + 1)), v4] μ Q) : DW (d + 3) 80 60 [xR 9, xI l1, xI l2, xI l3, v4] μ Q :=
  DW_wp (n := 400) (Nat.le_of_ble_eq_true rfl) h
set_option maxRecDepth 20000 in
theorem ge_Plan_weighChange {d : Nat} {p1 p2 p3 p4 : Int} {μ : Mem} {Q : AV → Mem → Prop} (h : DW (d + 1) 81 2 [xR 9, xI p1, xI p2, xI p3, xI p4, xI 0, xL 0] μ Q) : GM (d + 1) 81 [xR 9, xI p1, xI p2, xI p3, xI p4] μ Q :=
  GM_wp (n := 400) (Nat.le_of_ble_eq_true rfl) (Nat.le_of_ble_eq_true rfl) rfl h
set_option maxRecDepth 20000 in
theorem sg_Plan_weighChange_2 {d : Nat} {l1 l2 l3 l4 l5 : Int} {v6 : AV} {μ : Mem} {Q : AV → Mem → Prop} (h : if l5 < 64 then (GM d 77 [xI l5] μ (gI (fun r2 m1 => if r2 = l4 then (wb (iw (l1 + 1)) 7 (wb (xxor l5 (xior (xshl (xand (xxor (xshr l5 l2) (xshr l5 l3)) 1) l2) (xshl (xand (xxor (xshr l5 l2) (xshr l5 l3)) 1) l3))) 64 (wb l1 7 (wb l1 7 (wb l5 64 (wb l5 64 (DW (d + 1) 81 2 [xR 9, xI l1, xI l2, xI l3, xI l4, xI (iw (l5 + 1)), xI (iw ((m1 (41 + 1 + (iw (l1 + 1)).toNat) (xxor l5 (xior (xshl (xand (xxor (xshr l5 l2) (xshr l5 l3)) 1) l2) (xshl (xand (xxor (xshr l5 l2) (xshr l5 l3)) 1) l3))).toNat) - 1))] (xset m1 (41 + 1 + l1.toNat) l5.toNat (max (m1 (41 + 1 + l1.toNat) l5.toNat) (iw ((m1 (41 + 1 + (iw (l1 + 1)).toNat) (xxor l5 (xior (xshl (xand (xxor (xshr l5 l2) (xshr l5 l3)) 1) l2) (xshl (xand (xxor (xshr l5 l2) (xshr l5 l3)) 1) l3))).toNat) - 1)))) Q))))))) else (DW (d + 1) 81 2 [xR 9, xI l1, xI l2, xI l3, xI l4, xI (iw (l5 + 1)), v6] m1 Q)))) else (Q (xI 0) μ)) : DW (d + 1) 81 2 [xR 9, xI l1, xI l2, xI l3, xI l4, xI l5, v6] μ Q :=
  DW_wp (n := 400) (Nat.le_of_ble_eq_true rfl) h
set_option maxRecDepth 20000 in
theorem ge_Plan_chooseChange {d : Nat} {p1 p2 : Int} {μ : Mem} {Q : AV → Mem → Prop} (h : wb p1 6 (wb p1 6 (wb (iw (p1 + 1)) 7 (wb p2 64 (wb p1 7 (wb p2 64 (if (xset (xset μ 49 p1.toNat (-1)) 50 p1.toNat (-1)) (41 + 1 + (iw (p1 + 1)).toNat) p2.toNat = (xset (xset μ 49 p1.toNat (-1)) 50 p1.toNat (-1)) (41 + 1 + p1.toNat) p2.toNat then (Q (xI p2) (xset (xset μ 49 p1.toNat (-1)) 50 p1.toNat (-1))) else (DW (d + 3) 83 29 [xR 9, xI p1, xI p2, xI 0, xL 0, xL 0] (xset (xset μ 49 p1.toNat (-1)) 50 p1.toNat (-1)) Q)))))))) : GM (d + 3) 83 [xR 9, xI p1, xI p2] μ Q :=
  GM_wp (n := 400) (Nat.le_of_ble_eq_true rfl) (Nat.le_of_ble_eq_true rfl) rfl h
set_option maxRecDepth 20000 in
theorem sg_Plan_chooseChange_29 {d : Nat} {l1 l2 l3 : Int} {v4 v5 : AV} {μ : Mem} {Q : AV → Mem → Prop} (h : if l3 < μ 2 1 then (DW (d + 3) 83 39 [xR 9, xI l1, xI l2, xI l3, xI (iw (l3 + 1)), v5] μ Q) else (Q (xI l2) μ)) : DW (d + 3) 83 29 [xR 9, xI l1, xI l2, xI l3, v4, v5] μ Q :=
  DW_wp (n := 400) (Nat.le_of_ble_eq_true rfl) h
set_option maxRecDepth 20000 in
theorem sg_Plan_chooseChange_39 {d : Nat} {l1 l2 l3 l4 : Int} {v5 : AV} {μ : Mem} {Q : AV → Mem → Prop} (h : if l4 < μ 2 1 then (GM (d + 2) 57 [xR 2, xI l1, xI l3, xI l4] μ (gI (fun r2 m1 => if r2 = 0 then (DW (d + 3) 83 39 [xR 9, xI l1, xI l2, xI l3, xI (iw (l4 + 1)), xI (xxor l2 (xior (xshl (xand (xxor (xshr l2 l3) (xshr l2 l4)) 1) l3) (xshl (xand (xxor (xshr l2 l3) (xshr l2 l4)) 1) l4)))] m1 Q) else (wb (iw (l1 + 1)) 7 (wb (xxor l2 (xior (xshl (xand (xxor (xshr l2 l3) (xshr l2 l4)) 1) l3) (xshl (xand (xxor (xshr l2 l3) (xshr l2 l4)) 1) l4))) 64 (wb l1 7 (wb l2 64 (if iw ((m1 (41 + 1 + (iw (l1 + 1)).toNat) (xxor l2 (xior (xshl (xand (xxor (xshr l2 l3) (xshr l2 l4)) 1) l3) (xshl (xand (xxor (xshr l2 l3) (xshr l2 l4)) 1) l4))).toNat) - 1) = m1 (41 + 1 + l1.toNat) l2.toNat then (wb l1 6 (wb l1 6 (Q (xI (xxor l2 (xior (xshl (xand (xxor (xshr l2 l3) (xshr l2 l4)) 1) l3) (xshl (xand (xxor (xshr l2 l3) (xshr l2 l4)) 1) l4)))) (xset (xset (xset m1 49 l1.toNat l3) 50 l1.toNat l4) 9 6 (iw ((m1 9 6) + 1)))))) else (DW (d + 3) 83 39 [xR 9, xI l1, xI l2, xI l3, xI (iw (l4 + 1)), xI (xxor l2 (xior (xshl (xand (xxor (xshr l2 l3) (xshr l2 l4)) 1) l3) (xshl (xand (xxor (xshr l2 l3) (xshr l2 l4)) 1) l4)))] m1 Q))))))))) else (DW (d + 3) 83 94 [xR 9, xI l1, xI l2, xI l3, xI l4, v5] μ Q)) : DW (d + 3) 83 39 [xR 9, xI l1, xI l2, xI l3, xI l4, v5] μ Q :=
  DW_wp (n := 400) (Nat.le_of_ble_eq_true rfl) h
set_option maxRecDepth 20000 in
theorem sg_Plan_chooseChange_94 {d : Nat} {l1 l2 l3 : Int} {v4 v5 : AV} {μ : Mem} {Q : AV → Mem → Prop} (h : DW (d + 3) 83 29 [xR 9, xI l1, xI l2, xI (iw (l3 + 1)), v4, v5] μ Q) : DW (d + 3) 83 94 [xR 9, xI l1, xI l2, xI l3, v4, v5] μ Q :=
  DW_wp (n := 400) (Nat.le_of_ble_eq_true rfl) h
set_option maxRecDepth 20000 in
theorem ge_X_planned {d : Nat} {p1 p2 : Int} {μ : Mem} {Q : AV → Mem → Prop} (h : if p1 < 0 then (Q (xI (-2)) μ) else (if p1 < μ 2 2 then (if p1 < μ 3 1 then (Q (xI (-2)) μ) else (if p2 < 0 then (Q (xI (-3)) μ) else (if 1 < p2 then (Q (xI (-3)) μ) else (GM (d + 4) 75 [xR 9] μ (gV (fun m1 => if p2 = 0 then (wb p1 6 (Q (xI (m1 49 p1.toNat)) m1)) else (wb p1 6 (Q (xI (m1 50 p1.toNat)) m1)))))))) else (Q (xI (-2)) μ))) : GM (d + 5) 84 [xR 0, xI p1, xI p2] μ Q :=
  GM_wp (n := 400) (Nat.le_of_ble_eq_true rfl) (Nat.le_of_ble_eq_true rfl) rfl h
set_option maxRecDepth 20000 in
theorem ge_X_seen {d : Nat} {p1 p2 p3 : Int} {μ : Mem} {Q : AV → Mem → Prop} (h : if p1 < 0 then (Q (xI (-2)) μ) else (if p1 < μ 2 1 then (if p2 < 0 then (Q (xI (-3)) μ) else (if p2 < 4 then (if p3 < 0 then (Q (xI (-3)) μ) else (if 1 < p3 then (Q (xI (-3)) μ) else (if p3 = 1 then (GM d 86 [xR 7, xI p1, xI p2, xI 1] μ (gI (fun r2 m1 => if r2 = 0 then (Q (xI (-5)) m1) else (Q (xI (m1 7 0)) m1)))) else (GM d 86 [xR 7, xI p1, xI p2, xI 0] μ (gI (fun r4 m3 => if r4 = 0 then (Q (xI (-5)) m3) else (Q (xI (m3 7 0)) m3))))))) else (Q (xI (-3)) μ))) else (Q (xI (-2)) μ))) : GM (d + 1) 85 [xR 0, xI p1, xI p2, xI p3] μ Q :=
  GM_wp (n := 400) (Nat.le_of_ble_eq_true rfl) (Nat.le_of_ble_eq_true rfl) rfl h
set_option maxRecDepth 20000 in
theorem ge_Seen_append {d : Nat} {p1 p2 p3 : Int} {μ : Mem} {Q : AV → Mem → Prop} (h : if μ 7 0 < 10 then (wb (μ 7 0) 10 (wb (μ 7 0) 10 (wb (μ 7 0) 10 (wb p3 2 (Q (xI 1) (xset (xset (xset (xset μ 35 ((μ 7 0).toNat) p1) 36 ((μ 7 0).toNat) p2) 37 ((μ 7 0).toNat) p3) 7 0 (iw ((μ 7 0) + 1)))))))) else (Q (xI 0) μ)) : GM d 86 [xR 7, xI p1, xI p2, xI p3] μ Q :=
  GM_wp (n := 400) (Nat.le_of_ble_eq_true rfl) (Nat.le_of_ble_eq_true rfl) rfl h
set_option maxRecDepth 20000 in
theorem ge_X_forget {d : Nat} {μ : Mem} {Q : AV → Mem → Prop} (h : Q (xI (μ 7 0)) (xset μ 7 0 0)) : GM d 87 [xR 0] μ Q :=
  GM_wp (n := 400) (Nat.le_of_ble_eq_true rfl) (Nat.le_of_ble_eq_true rfl) rfl h
set_option maxRecDepth 20000 in
theorem ge_X_fit {d : Nat} {μ : Mem} {Q : AV → Mem → Prop} (h : GM (d + 4) 89 [xR 10] μ (gV (fun m1 => Q (xI (m1 10 7)) m1))) : GM (d + 5) 88 [xR 0] μ Q :=
  GM_wp (n := 400) (Nat.le_of_ble_eq_true rfl) (Nat.le_of_ble_eq_true rfl) rfl h
set_option maxRecDepth 20000 in
theorem ge_Fits_weigh {d : Nat} {μ : Mem} {Q : AV → Mem → Prop} (h : DW (d + 4) 89 2 [xR 10, xI 0] μ Q) : GM (d + 4) 89 [xR 10] μ Q :=
  GM_wp (n := 400) (Nat.le_of_ble_eq_true rfl) (Nat.le_of_ble_eq_true rfl) rfl h
set_option maxRecDepth 20000 in
theorem sg_Fits_weigh_2 {d : Nat} {l1 : Int} {μ : Mem} {Q : AV → Mem → Prop} (h : if l1 < μ 2 1 then (GM (d + 3) 90 [xR 10, xI l1] μ (gI (fun r2 m1 => wb l1 6 (DW (d + 4) 89 2 [xR 10, xI (iw (l1 + 1))] (xset m1 51 l1.toNat r2) Q)))) else (DW (d + 4) 89 17 [xR 10, xI l1] μ Q)) : DW (d + 4) 89 2 [xR 10, xI l1] μ Q :=
  DW_wp (n := 400) (Nat.le_of_ble_eq_true rfl) h
set_option maxRecDepth 20000 in
theorem sg_Fits_weigh_17 {d : Nat} {v1 : AV} {μ : Mem} {Q : AV → Mem → Prop} (h : GM (d + 3) 92 [xR 10, xI (iw ((xshl 1 (μ 2 1)) - 1))] μ (gV (fun m1 => GM (d + 3) 93 [xR 10, xI (iw ((xshl 1 (μ 2 1)) - 1))] m1 (gV (fun m2 => GM (d + 3) 94 [xR 10, xI (iw ((xshl 1 (μ 2 1)) - 1))] (xset m2 10 7 (m2 53 0)) (gV (fun m3 => Q (xI 0) m3))))))) : DW (d + 4) 89 17 [xR 10, v1] μ Q :=
  DW_wp (n := 400) (Nat.le_of_ble_eq_true rfl) h
end
section
set_option maxRecDepth 20000 in
theorem ge_Fits_allowedIn {d : Nat} {p1 : Int} {μ : Mem} {Q : AV → Mem → Prop} (h : DW (d + 3) 90 4 [xR 10, xI p1, xI 0, xI 0] μ Q) : GM (d + 3) 90 [xR 10, xI p1] μ Q :=
  GM_wp (n := 400) (Nat.le_of_ble_eq_true rfl) (Nat.le_of_ble_eq_true rfl) rfl h
set_option maxRecDepth 20000 in
theorem sg_Fits_allowedIn_4 {d : Nat} {l1 l2 l3 : Int} {μ : Mem} {Q : AV → Mem → Prop} (h : if l3 < μ 2 1 then (wb l3 6 (wb l1 6 (if μ 18 l3.toNat = μ 18 l1.toNat then (GM (d + 2) 91 [xR 7, xR 3, xI l3, xI l1] μ (gI (fun r2 m1 => if r2 = 0 then (DW (d + 3) 90 4 [xR 10, xI l1, xI l2, xI (iw (l3 + 1))] m1 Q) else (DW (d + 3) 90 4 [xR 10, xI l1, xI (xior l2 (xshl 1 l3)), xI (iw (l3 + 1))] m1 Q)))) else (DW (d + 3) 90 4 [xR 10, xI l1, xI l2, xI (iw (l3 + 1))] μ Q)))) else (Q (xI l2) μ)) : DW (d + 3) 90 4 [xR 10, xI l1, xI l2, xI l3] μ Q :=
  DW_wp (n := 400) (Nat.le_of_ble_eq_true rfl) h
set_option maxRecDepth 20000 in
theorem ge_Seen_agrees {d : Nat} {p2 p3 : Int} {μ : Mem} {Q : AV → Mem → Prop} (h : DW (d + 2) 91 2 [xR 7, xR 3, xI p2, xI p3, xI 0] μ Q) : GM (d + 2) 91 [xR 7, xR 3, xI p2, xI p3] μ Q :=
  GM_wp (n := 400) (Nat.le_of_ble_eq_true rfl) (Nat.le_of_ble_eq_true rfl) rfl h
set_option maxRecDepth 20000 in
theorem sg_Seen_agrees_2 {d : Nat} {l2 l3 l4 : Int} {μ : Mem} {Q : AV → Mem → Prop} (h : if l4 < μ 7 0 then (wb l4 10 (if μ 35 l4.toNat = l3 then (wb l4 10 (GM (d + 1) 52 [xR 3, xI l2, xI l3, xI (μ 36 l4.toNat)] μ (gI (fun r2 m1 => wb l4 10 (if r2 = m1 37 l4.toNat then (DW (d + 2) 91 2 [xR 7, xR 3, xI l2, xI l3, xI (iw (l4 + 1))] m1 Q) else (Q (xI 0) m1)))))) else (DW (d + 2) 91 2 [xR 7, xR 3, xI l2, xI l3, xI (iw (l4 + 1))] μ Q))) else (Q (xI 1) μ)) : DW (d + 2) 91 2 [xR 7, xR 3, xI l2, xI l3, xI l4] μ Q :=
  DW_wp (n := 400) (Nat.le_of_ble_eq_true rfl) h
set_option maxRecDepth 20000 in
theorem ge_Fits_weighHeads {d : Nat} {p1 : Int} {μ : Mem} {Q : AV → Mem → Prop} (h : DW (d + 1) 92 7 [xR 10, xI p1, xI 1, xL 0, xL 0, xL 0] (xset μ 52 0 1) Q) : GM (d + 1) 92 [xR 10, xI p1] μ Q :=
  GM_wp (n := 400) (Nat.le_of_ble_eq_true rfl) (Nat.le_of_ble_eq_true rfl) rfl h
set_option maxRecDepth 20000 in
theorem sg_Fits_weighHeads_7 {d : Nat} {l1 l2 : Int} {v3 v4 v5 : AV} {μ : Mem} {Q : AV → Mem → Prop} (h : if l1 < l2 then (Q (xI 0) μ) else (GM d 77 [xI l2] μ (gI (fun r2 m1 => wb (iw (r2 - 1)) 6 (DW (d + 1) 92 25 [xR 10, xI l1, xI l2, xI (xand l2 (m1 51 (iw (r2 - 1)).toNat)), xI 0, xI 0] m1 Q))))) : DW (d + 1) 92 7 [xR 10, xI l1, xI l2, v3, v4, v5] μ Q :=
  DW_wp (n := 400) (Nat.le_of_ble_eq_true rfl) h
set_option maxRecDepth 20000 in
theorem sg_Fits_weighHeads_25 {d : Nat} {l1 l2 l3 l4 l5 : Int} {μ : Mem} {Q : AV → Mem → Prop} (h : if l5 < μ 2 1 then (if xand (xshr l3 l5) 1 = 1 then (wb (xxor l2 (xshl 1 l5)) 64 (DW (d + 1) 92 25 [xR 10, xI l1, xI l2, xI l3, xI (iw (l4 + (μ 52 (xxor l2 (xshl 1 l5)).toNat))), xI (iw (l5 + 1))] μ Q)) else (DW (d + 1) 92 25 [xR 10, xI l1, xI l2, xI l3, xI l4, xI (iw (l5 + 1))] μ Q)) else (DW (d + 1) 92 51 [xR 10, xI l1, xI l2, xI l3, xI l4, xI l5] μ Q)) : DW (d + 1) 92 25 [xR 10, xI l1, xI l2, xI l3, xI l4, xI l5] μ Q :=
  DW_wp (n := 400) (Nat.le_of_ble_eq_true rfl) h
set_option maxRecDepth 20000 in
theorem sg_Fits_weighHeads_51 {d : Nat} {l1 l2 l4 : Int} {v3 v5 : AV} {μ : Mem} {Q : AV → Mem → Prop} (h : wb l2 64 (DW (d + 1) 92 7 [xR 10, xI l1, xI (iw (l2 + 1)), v3, xI l4, v5] (xset μ 52 l2.toNat l4) Q)) : DW (d + 1) 92 51 [xR 10, xI l1, xI l2, v3, xI l4, v5] μ Q :=
  DW_wp (n := 400) (Nat.le_of_ble_eq_true rfl) h
set_option maxRecDepth 20000 in
theorem ge_Fits_weighTails {d : Nat} {p1 : Int} {μ : Mem} {Q : AV → Mem → Prop} (h : wb p1 64 (DW (d + 1) 93 9 [xR 10, xI p1, xI (iw (p1 - 1)), xL 0, xL 0, xL 0] (xset μ 53 p1.toNat 1) Q)) : GM (d + 1) 93 [xR 10, xI p1] μ Q :=
  GM_wp (n := 400) (Nat.le_of_ble_eq_true rfl) (Nat.le_of_ble_eq_true rfl) rfl h
set_option maxRecDepth 20000 in
theorem sg_Fits_weighTails_9 {d : Nat} {l2 : Int} {v1 v3 v4 v5 : AV} {μ : Mem} {Q : AV → Mem → Prop} (h : if l2 < 0 then (Q (xI 0) μ) else (GM d 77 [xI l2] μ (gI (fun r2 m1 => wb r2 6 (DW (d + 1) 93 26 [xR 10, v1, xI l2, xI (xand (m1 51 r2.toNat) (xxor l2 (-1))), xI 0, xI 0] m1 Q))))) : DW (d + 1) 93 9 [xR 10, v1, xI l2, v3, v4, v5] μ Q :=
  DW_wp (n := 400) (Nat.le_of_ble_eq_true rfl) h
set_option maxRecDepth 20000 in
theorem sg_Fits_weighTails_26 {d : Nat} {l2 l3 l4 l5 : Int} {v1 : AV} {μ : Mem} {Q : AV → Mem → Prop} (h : if l5 < μ 2 1 then (if xand (xshr l3 l5) 1 = 1 then (wb (xior l2 (xshl 1 l5)) 64 (DW (d + 1) 93 26 [xR 10, v1, xI l2, xI l3, xI (iw (l4 + (μ 53 (xior l2 (xshl 1 l5)).toNat))), xI (iw (l5 + 1))] μ Q)) else (DW (d + 1) 93 26 [xR 10, v1, xI l2, xI l3, xI l4, xI (iw (l5 + 1))] μ Q)) else (DW (d + 1) 93 52 [xR 10, v1, xI l2, xI l3, xI l4, xI l5] μ Q)) : DW (d + 1) 93 26 [xR 10, v1, xI l2, xI l3, xI l4, xI l5] μ Q :=
  DW_wp (n := 400) (Nat.le_of_ble_eq_true rfl) h
set_option maxRecDepth 20000 in
theorem sg_Fits_weighTails_52 {d : Nat} {l2 l4 : Int} {v1 v3 v5 : AV} {μ : Mem} {Q : AV → Mem → Prop} (h : wb l2 64 (DW (d + 1) 93 9 [xR 10, v1, xI (iw (l2 + (-1))), v3, xI l4, v5] (xset μ 53 l2.toNat l4) Q)) : DW (d + 1) 93 52 [xR 10, v1, xI l2, v3, xI l4, v5] μ Q :=
  DW_wp (n := 400) (Nat.le_of_ble_eq_true rfl) h
set_option maxRecDepth 20000 in
theorem ge_Fits_weighLying {d : Nat} {p1 : Int} {μ : Mem} {Q : AV → Mem → Prop} (h : GM d 95 [xR 54, xI 0] μ (gV (fun m1 => DW (d + 1) 94 6 [xR 10, xI p1, xI 0, xL 0, xL 0, xL 0] m1 Q))) : GM (d + 1) 94 [xR 10, xI p1] μ Q :=
  GM_wp (n := 400) (Nat.le_of_ble_eq_true rfl) (Nat.le_of_ble_eq_true rfl) rfl h
set_option maxRecDepth 20000 in
theorem sg_Fits_weighLying_6 {d : Nat} {l1 l2 : Int} {v3 v4 v5 : AV} {μ : Mem} {Q : AV → Mem → Prop} (h : if l2 < l1 then (GM d 77 [xI l2] μ (gI (fun r2 m1 => wb r2 6 (DW (d + 1) 94 24 [xR 10, xI l1, xI l2, xI r2, xI (xand (m1 51 r2.toNat) (xxor l2 (-1))), xI 0] m1 Q)))) else (Q (xI 0) μ)) : DW (d + 1) 94 6 [xR 10, xI l1, xI l2, v3, v4, v5] μ Q :=
  DW_wp (n := 400) (Nat.le_of_ble_eq_true rfl) h
set_option maxRecDepth 20000 in
theorem sg_Fits_weighLying_24 {d : Nat} {l1 l2 l3 l4 l5 : Int} {μ : Mem} {Q : AV → Mem → Prop} (h : if l5 < μ 2 1 then (if xand (xshr l4 l5) 1 = 1 then (wb (iw ((iw (l3 * 6)) + l5)) 36 (wb l2 64 (wb (xior l2 (xshl 1 l5)) 64 (wb (iw ((iw (l3 * 6)) + l5)) 36 (DW (d + 1) 94 24 [xR 10, xI l1, xI l2, xI l3, xI l4, xI (iw (l5 + 1))] (xset μ 54 ((iw ((iw (l3 * 6)) + l5)).toNat) (iw ((μ 54 (iw ((iw (l3 * 6)) + l5)).toNat) + (iw ((μ 52 l2.toNat) * (μ 53 (xior l2 (xshl 1 l5)).toNat)))))) Q))))) else (DW (d + 1) 94 24 [xR 10, xI l1, xI l2, xI l3, xI l4, xI (iw (l5 + 1))] μ Q)) else (DW (d + 1) 94 63 [xR 10, xI l1, xI l2, xI l3, xI l4, xI l5] μ Q)) : DW (d + 1) 94 24 [xR 10, xI l1, xI l2, xI l3, xI l4, xI l5] μ Q :=
  DW_wp (n := 400) (Nat.le_of_ble_eq_true rfl) h
set_option maxRecDepth 20000 in
theorem sg_Fits_weighLying_63 {d : Nat} {l1 l2 : Int} {v3 v4 v5 : AV} {μ : Mem} {Q : AV → Mem → Prop} (h : DW (d + 1) 94 6 [xR 10, xI l1, xI (iw (l2 + 1)), v3, v4, v5] μ Q) : DW (d + 1) 94 63 [xR 10, xI l1, xI l2, v3, v4, v5] μ Q :=
  DW_wp (n := 400) (Nat.le_of_ble_eq_true rfl) h
set_option maxRecDepth 20000 in
theorem ge_JArrays_fill_54 {d : Nat} {p1 : Int} {μ : Mem} {Q : AV → Mem → Prop} (h : DW d 95 5 [xR 54, xI p1, xI 0, xI 36] μ Q) : GM d 95 [xR 54, xI p1] μ Q :=
  GM_wp (n := 400) (Nat.le_of_ble_eq_true rfl) (Nat.le_of_ble_eq_true rfl) rfl h
set_option maxRecDepth 20000 in
theorem sg_JArrays_fill_54_5 {d : Nat} {l1 l2 l3 : Int} {μ : Mem} {Q : AV → Mem → Prop} (h : if l2 < l3 then (wb l2 36 (DW d 95 5 [xR 54, xI l1, xI (iw (l2 + 1)), xI l3] (xset μ 54 l2.toNat l1) Q)) else (Q (xI 0) μ)) : DW d 95 5 [xR 54, xI l1, xI l2, xI l3] μ Q :=
  DW_wp (n := 400) (Nat.le_of_ble_eq_true rfl) h
set_option maxRecDepth 20000 in
theorem ge_JArrays_fill_55 {d : Nat} {p1 : Int} {μ : Mem} {Q : AV → Mem → Prop} (h : DW d 95 5 [xR 55, xI p1, xI 0, xI 24] μ Q) : GM d 95 [xR 55, xI p1] μ Q :=
  GM_wp (n := 400) (Nat.le_of_ble_eq_true rfl) (Nat.le_of_ble_eq_true rfl) rfl h
set_option maxRecDepth 20000 in
theorem sg_JArrays_fill_55_5 {d : Nat} {l1 l2 l3 : Int} {μ : Mem} {Q : AV → Mem → Prop} (h : if l2 < l3 then (wb l2 24 (DW d 95 5 [xR 55, xI l1, xI (iw (l2 + 1)), xI l3] (xset μ 55 l2.toNat l1) Q)) else (Q (xI 0) μ)) : DW d 95 5 [xR 55, xI l1, xI l2, xI l3] μ Q :=
  DW_wp (n := 400) (Nat.le_of_ble_eq_true rfl) h
set_option maxRecDepth 20000 in
theorem ge_JArrays_fill_60 {d : Nat} {p1 : Int} {μ : Mem} {Q : AV → Mem → Prop} (h : DW d 95 5 [xR 60, xI p1, xI 0, xI 720] μ Q) : GM d 95 [xR 60, xI p1] μ Q :=
  GM_wp (n := 400) (Nat.le_of_ble_eq_true rfl) (Nat.le_of_ble_eq_true rfl) rfl h
set_option maxRecDepth 20000 in
theorem sg_JArrays_fill_60_5 {d : Nat} {l1 l2 l3 : Int} {μ : Mem} {Q : AV → Mem → Prop} (h : if l2 < l3 then (wb l2 720 (DW d 95 5 [xR 60, xI l1, xI (iw (l2 + 1)), xI l3] (xset μ 60 l2.toNat l1) Q)) else (Q (xI 0) μ)) : DW d 95 5 [xR 60, xI l1, xI l2, xI l3] μ Q :=
  DW_wp (n := 400) (Nat.le_of_ble_eq_true rfl) h
set_option maxRecDepth 20000 in
theorem ge_X_lies {d : Nat} {p1 : Int} {μ : Mem} {Q : AV → Mem → Prop} (h : if p1 < 0 then (Q (xI (-2)) μ) else (if p1 < μ 2 1 then (GM (d + 4) 89 [xR 10] μ (gV (fun m1 => GM (d + 4) 97 [xR 10, xI p1] m1 (gI (fun r3 m2 => Q (xI r3) m2))))) else (Q (xI (-2)) μ))) : GM (d + 5) 96 [xR 0, xI p1] μ Q :=
  GM_wp (n := 400) (Nat.le_of_ble_eq_true rfl) (Nat.le_of_ble_eq_true rfl) rfl h
set_option maxRecDepth 20000 in
theorem ge_Fits_mayLie {d : Nat} {p1 : Int} {μ : Mem} {Q : AV → Mem → Prop} (h : DW d 97 4 [xR 10, xI p1, xI 0, xI 0] μ Q) : GM d 97 [xR 10, xI p1] μ Q :=
  GM_wp (n := 400) (Nat.le_of_ble_eq_true rfl) (Nat.le_of_ble_eq_true rfl) rfl h
set_option maxRecDepth 20000 in
theorem sg_Fits_mayLie_4 {d : Nat} {l1 l2 l3 : Int} {μ : Mem} {Q : AV → Mem → Prop} (h : if l3 < μ 2 1 then (wb (iw ((iw (l1 * 6)) + l3)) 36 (if 0 < μ 54 (iw ((iw (l1 * 6)) + l3)).toNat then (DW d 97 4 [xR 10, xI l1, xI (xior l2 (xshl 1 l3)), xI (iw (l3 + 1))] μ Q) else (DW d 97 4 [xR 10, xI l1, xI l2, xI (iw (l3 + 1))] μ Q))) else (Q (xI l2) μ)) : DW d 97 4 [xR 10, xI l1, xI l2, xI l3] μ Q :=
  DW_wp (n := 400) (Nat.le_of_ble_eq_true rfl) h
set_option maxRecDepth 20000 in
theorem ge_X_sure {d : Nat} {μ : Mem} {Q : AV → Mem → Prop} (h : GM (d + 4) 89 [xR 10] μ (gV (fun m1 => GM (d + 4) 99 [xR 10] m1 (gI (fun r3 m2 => Q (xI r3) m2))))) : GM (d + 5) 98 [xR 0] μ Q :=
  GM_wp (n := 400) (Nat.le_of_ble_eq_true rfl) (Nat.le_of_ble_eq_true rfl) rfl h
set_option maxRecDepth 20000 in
theorem ge_Fits_surePlaces {d : Nat} {μ : Mem} {Q : AV → Mem → Prop} (h : DW (d + 1) 99 4 [xR 10, xI 0, xI 0] μ Q) : GM (d + 1) 99 [xR 10] μ Q :=
  GM_wp (n := 400) (Nat.le_of_ble_eq_true rfl) (Nat.le_of_ble_eq_true rfl) rfl h
set_option maxRecDepth 20000 in
theorem sg_Fits_surePlaces_4 {d : Nat} {l1 l2 : Int} {μ : Mem} {Q : AV → Mem → Prop} (h : if l2 < μ 2 1 then (GM d 97 [xR 10, xI l2] μ (gI (fun r2 m1 => GM d 77 [xI r2] m1 (gI (fun r4 m3 => if r4 = 1 then (DW (d + 1) 99 4 [xR 10, xI (xior l1 (xshl 1 l2)), xI (iw (l2 + 1))] m3 Q) else (DW (d + 1) 99 4 [xR 10, xI l1, xI (iw (l2 + 1))] m3 Q)))))) else (Q (xI l1) μ)) : DW (d + 1) 99 4 [xR 10, xI l1, xI l2] μ Q :=
  DW_wp (n := 400) (Nat.le_of_ble_eq_true rfl) h
set_option maxRecDepth 20000 in
theorem ge_X_odds {d : Nat} {p1 p2 : Int} {μ : Mem} {Q : AV → Mem → Prop} (h : if p1 < 0 then (Q (xI (-2)) μ) else (if p1 < μ 2 1 then (if p2 < 0 then (Q (xI (-3)) μ) else (if 1 < p2 then (Q (xI (-3)) μ) else (GM (d + 4) 89 [xR 10] μ (gV (fun m1 => if m1 10 7 = 0 then (Q (xI (-4)) m1) else (GM (d + 4) 101 [xR 10, xI p1] m1 (gI (fun r3 m2 => GM (d + 4) 102 [xI r3, xI (m2 10 7)] m2 (gI (fun r5 m4 => if p2 = 0 then (wz r5 (Q (xI (xdiv r3 r5)) m4)) else (wz r5 (Q (xI (xdiv (m4 10 7) r5)) m4)))))))))))) else (Q (xI (-2)) μ))) : GM (d + 5) 100 [xR 0, xI p1, xI p2] μ Q :=
  GM_wp (n := 400) (Nat.le_of_ble_eq_true rfl) (Nat.le_of_ble_eq_true rfl) rfl h
set_option maxRecDepth 20000 in
theorem ge_Fits_withCharm {d : Nat} {p1 : Int} {μ : Mem} {Q : AV → Mem → Prop} (h : DW (d + 1) 101 4 [xR 10, xI p1, xI 0, xI 0] μ Q) : GM (d + 1) 101 [xR 10, xI p1] μ Q :=
  GM_wp (n := 400) (Nat.le_of_ble_eq_true rfl) (Nat.le_of_ble_eq_true rfl) rfl h
set_option maxRecDepth 20000 in
theorem sg_Fits_withCharm_4 {d : Nat} {l1 l2 l3 : Int} {μ : Mem} {Q : AV → Mem → Prop} (h : if l3 < μ 2 1 then (wb l3 6 (if μ 17 l3.toNat = 0 then (DW (d + 1) 101 4 [xR 10, xI l1, xI l2, xI (iw (l3 + 1))] μ Q) else (wb (iw ((iw (l1 * 6)) + l3)) 36 (DW (d + 1) 101 4 [xR 10, xI l1, xI (iw (l2 + (μ 54 (iw ((iw (l1 * 6)) + l3)).toNat))), xI (iw (l3 + 1))] μ Q)))) else (Q (xI l2) μ)) : DW (d + 1) 101 4 [xR 10, xI l1, xI l2, xI l3] μ Q :=
  DW_wp (n := 400) (Nat.le_of_ble_eq_true rfl) h
set_option maxRecDepth 20000 in
theorem ge_X_commonDivisor {d : Nat} {p0 p1 : Int} {μ : Mem} {Q : AV → Mem → Prop} (h : DW (d + 1) 102 6 [xI p0, xI p1, xI p0, xI p1, xI 0, xL 0] μ Q) : GM (d + 1) 102 [xI p0, xI p1] μ Q :=
  GM_wp (n := 400) (Nat.le_of_ble_eq_true rfl) (Nat.le_of_ble_eq_true rfl) rfl h
set_option maxRecDepth 20000 in
theorem sg_X_commonDivisor_6 {d : Nat} {l2 l3 l4 : Int} {v0 v1 v5 : AV} {μ : Mem} {Q : AV → Mem → Prop} (h : if l4 < 64 then (if 0 < l3 then (wz l3 (DW (d + 1) 102 6 [v0, v1, xI l3, xI (xrem l2 l3), xI (iw (l4 + 1)), xI (xrem l2 l3)] μ Q)) else (DW (d + 1) 102 22 [v0, v1, xI l2, xI l3, xI l4, v5] μ Q)) else (DW (d + 1) 102 22 [v0, v1, xI l2, xI l3, xI l4, v5] μ Q)) : DW (d + 1) 102 6 [v0, v1, xI l2, xI l3, xI l4, v5] μ Q :=
  DW_wp (n := 400) (Nat.le_of_ble_eq_true rfl) h
set_option maxRecDepth 20000 in
theorem sg_X_commonDivisor_22 {d : Nat} {l2 : Int} {v0 v1 v3 v4 v5 : AV} {μ : Mem} {Q : AV → Mem → Prop} (h : Q (xI (max l2 1)) μ) : DW (d + 1) 102 22 [v0, v1, xI l2, v3, v4, v5] μ Q :=
  DW_wp (n := 400) (Nat.le_of_ble_eq_true rfl) h
set_option maxRecDepth 20000 in
theorem ge_X_next {d : Nat} {p1 : Int} {μ : Mem} {Q : AV → Mem → Prop} (h : if p1 < 0 then (Q (xI (-3)) μ) else (if 2 < p1 then (Q (xI (-3)) μ) else (GM (d + 4) 89 [xR 10] μ (gV (fun m1 => if m1 2 1 = 0 then (Q (xI (-1)) m1) else (if m1 10 7 = 0 then (Q (xI (-1)) m1) else (GM (d + 4) 104 [xR 10] m1 (gI (fun r3 m2 => if p1 = 0 then (Q (xI (xdiv r3 4)) m2) else (if p1 = 1 then (Q (xI (xrem r3 4)) m2) else (GM (d + 4) 105 [xR 10, xI (xdiv r3 4), xI (xrem r3 4)] m2 (gI (fun r5 m4 => Q (xI r5) m4))))))))))))) : GM (d + 5) 103 [xR 0, xI p1] μ Q :=
  GM_wp (n := 400) (Nat.le_of_ble_eq_true rfl) (Nat.le_of_ble_eq_true rfl) rfl h
set_option maxRecDepth 20000 in
theorem ge_Fits_bestPair {d : Nat} {μ : Mem} {Q : AV → Mem → Prop} (h : GM (d + 2) 105 [xR 10, xI 0, xI 0] μ (gI (fun r2 m1 => DW (d + 3) 104 9 [xR 10, xI 0, xI r2, xI 1, xL 0] m1 Q))) : GM (d + 3) 104 [xR 10] μ Q :=
  GM_wp (n := 400) (Nat.le_of_ble_eq_true rfl) (Nat.le_of_ble_eq_true rfl) rfl h
set_option maxRecDepth 20000 in
theorem sg_Fits_bestPair_9 {d : Nat} {l1 l2 l3 : Int} {v4 : AV} {μ : Mem} {Q : AV → Mem → Prop} (h : if l3 < iw ((μ 2 1) * 4) then (GM (d + 2) 105 [xR 10, xI (xdiv l3 4), xI (xrem l3 4)] μ (gI (fun r2 m1 => if r2 < l2 then (DW (d + 3) 104 9 [xR 10, xI l3, xI r2, xI (iw (l3 + 1)), xI r2] m1 Q) else (DW (d + 3) 104 9 [xR 10, xI l1, xI l2, xI (iw (l3 + 1)), xI r2] m1 Q)))) else (Q (xI l1) μ)) : DW (d + 3) 104 9 [xR 10, xI l1, xI l2, xI l3, v4] μ Q :=
  DW_wp (n := 400) (Nat.le_of_ble_eq_true rfl) h
set_option maxRecDepth 20000 in
theorem ge_Fits_leftAtMost {d : Nat} {p1 p2 : Int} {μ : Mem} {Q : AV → Mem → Prop} (h : DW (d + 2) 105 4 [xR 10, xI p1, xI p2, xI 0, xI 0] μ Q) : GM (d + 2) 105 [xR 10, xI p1, xI p2] μ Q :=
  GM_wp (n := 400) (Nat.le_of_ble_eq_true rfl) (Nat.le_of_ble_eq_true rfl) rfl h
set_option maxRecDepth 20000 in
theorem sg_Fits_leftAtMost_4 {d : Nat} {l1 l2 l3 l4 : Int} {μ : Mem} {Q : AV → Mem → Prop} (h : if l4 < μ 2 1 then (GM (d + 1) 52 [xR 3, xI l4, xI l1, xI l2] μ (gI (fun r2 m1 => if r2 = 0 then (DW (d + 2) 105 4 [xR 10, xI l1, xI l2, xI l3, xI (iw (l4 + 1))] m1 Q) else (wb (iw ((iw (l1 * 6)) + l4)) 36 (DW (d + 2) 105 4 [xR 10, xI l1, xI l2, xI (iw (l3 + (m1 54 (iw ((iw (l1 * 6)) + l4)).toNat))), xI (iw (l4 + 1))] m1 Q))))) else (DW (d + 2) 105 30 [xR 10, xI l1, xI l2, xI l3, xI l4] μ Q)) : DW (d + 2) 105 4 [xR 10, xI l1, xI l2, xI l3, xI l4] μ Q :=
  DW_wp (n := 400) (Nat.le_of_ble_eq_true rfl) h
set_option maxRecDepth 20000 in
theorem sg_Fits_leftAtMost_30 {d : Nat} {l3 : Int} {v1 v2 v4 : AV} {μ : Mem} {Q : AV → Mem → Prop} (h : Q (xI (max l3 (iw ((μ 10 7) - l3)))) μ) : DW (d + 2) 105 30 [xR 10, v1, v2, xI l3, v4] μ Q :=
  DW_wp (n := 400) (Nat.le_of_ble_eq_true rfl) h
set_option maxRecDepth 20000 in
theorem ge_X_apart {d : Nat} {p1 : Int} {μ : Mem} {Q : AV → Mem → Prop} (h : if p1 < (-1) then (Q (xI (-3)) μ) else (GM (d + 5) 107 [xR 11] μ (gI (fun r2 m1 => if p1 = (-1) then (Q (xI r2) m1) else (if p1 < r2 then (wb p1 4 (Q (xI (m1 58 p1.toNat)) m1)) else (Q (xI (-1)) m1)))))) : GM (d + 6) 106 [xR 0, xI p1] μ Q :=
  GM_wp (n := 400) (Nat.le_of_ble_eq_true rfl) (Nat.le_of_ble_eq_true rfl) rfl h
set_option maxRecDepth 20000 in
theorem ge_Apart_find {d : Nat} {μ : Mem} {Q : AV → Mem → Prop} (h : GM (d + 4) 89 [xR 10] μ (gV (fun m1 => if 16 < m1 10 7 then (Q (xI (-1)) m1) else (GM (d + 4) 95 [xR 55, xI 0] m1 (gV (fun m2 => GM (d + 4) 108 [xR 11, xI 0, xI 0] (xset m2 11 6 0) (gV (fun m3 => DW (d + 5) 107 33 [xR 11, xI 0] (xset m3 56 1 (iw ((xshl 1 (m3 11 6)) - 1))) Q)))))))) : GM (d + 5) 107 [xR 11] μ Q :=
  GM_wp (n := 400) (Nat.le_of_ble_eq_true rfl) (Nat.le_of_ble_eq_true rfl) rfl h
set_option maxRecDepth 20000 in
theorem sg_Apart_find_33 {d : Nat} {l1 : Int} {μ : Mem} {Q : AV → Mem → Prop} (h : if 4 < l1 then (Q (xI (-1)) μ) else (GM (d + 4) 110 [xR 11, xI 0, xI 0, xI l1] μ (gI (fun r2 m1 => if r2 = 0 then (DW (d + 5) 107 33 [xR 11, xI (iw (l1 + 1))] m1 Q) else (Q (xI l1) m1))))) : DW (d + 5) 107 33 [xR 11, xI l1] μ Q :=
  DW_wp (n := 400) (Nat.le_of_ble_eq_true rfl) h
set_option maxRecDepth 20000 in
theorem ge_Apart_gather {d : Nat} {p1 p2 : Int} {μ : Mem} {Q : AV → Mem → Prop} (h : wb p2 64 (if μ 53 p2.toNat = 0 then (Q (xI 0) μ) else (if μ 11 6 < 16 then (if p1 < μ 2 1 then (wb p1 6 (DW (d + 1) 108 37 [xR 11, xI p1, xI p2, xI (xand (μ 51 p1.toNat) (xxor p2 (-1))), xI 0] μ Q)) else (GM d 109 [xR 11] μ (gV (fun m1 => Q (xI 0) (xset m1 11 6 (iw ((m1 11 6) + 1))))))) else (Q (xI 0) μ)))) : GM (d + 1) 108 [xR 11, xI p1, xI p2] μ Q :=
  GM_wp (n := 400) (Nat.le_of_ble_eq_true rfl) (Nat.le_of_ble_eq_true rfl) rfl h
set_option maxRecDepth 20000 in
theorem sg_Apart_gather_37 {d : Nat} {l1 l2 l3 l4 : Int} {μ : Mem} {Q : AV → Mem → Prop} (h : if l4 < μ 2 1 then (if xand (xshr l3 l4) 1 = 1 then (wb l1 6 (GM d 108 [xR 11, xI (iw (l1 + 1)), xI (xior l2 (xshl 1 l4))] (xset μ 57 l1.toNat l4) (gV (fun m1 => DW (d + 1) 108 37 [xR 11, xI l1, xI l2, xI l3, xI (iw (l4 + 1))] m1 Q)))) else (DW (d + 1) 108 37 [xR 11, xI l1, xI l2, xI l3, xI (iw (l4 + 1))] μ Q)) else (Q (xI 0) μ)) : DW (d + 1) 108 37 [xR 11, xI l1, xI l2, xI l3, xI l4] μ Q :=
  DW_wp (n := 400) (Nat.le_of_ble_eq_true rfl) h
set_option maxRecDepth 20000 in
theorem ge_Apart_noteAnswers {d : Nat} {μ : Mem} {Q : AV → Mem → Prop} (h : DW (d + 2) 109 2 [xR 11, xI 0, xL 0] μ Q) : GM (d + 2) 109 [xR 11] μ Q :=
  GM_wp (n := 400) (Nat.le_of_ble_eq_true rfl) (Nat.le_of_ble_eq_true rfl) rfl h
set_option maxRecDepth 20000 in
theorem sg_Apart_noteAnswers_2 {d : Nat} {l1 : Int} {v2 : AV} {μ : Mem} {Q : AV → Mem → Prop} (h : if l1 < μ 2 1 then (DW (d + 2) 109 10 [xR 11, xI l1, xI 0] μ Q) else (Q (xI 0) μ)) : DW (d + 2) 109 2 [xR 11, xI l1, v2] μ Q :=
  DW_wp (n := 400) (Nat.le_of_ble_eq_true rfl) h
set_option maxRecDepth 20000 in
theorem sg_Apart_noteAnswers_10 {d : Nat} {l1 l2 : Int} {μ : Mem} {Q : AV → Mem → Prop} (h : if l2 < 4 then (wb l1 6 (GM (d + 1) 52 [xR 3, xI (μ 57 l1.toNat), xI l1, xI l2] μ (gI (fun r2 m1 => if r2 = 0 then (DW (d + 2) 109 10 [xR 11, xI l1, xI (iw (l2 + 1))] m1 Q) else (wb (iw ((iw (l1 * 4)) + l2)) 24 (wb (iw ((iw (l1 * 4)) + l2)) 24 (DW (d + 2) 109 10 [xR 11, xI l1, xI (iw (l2 + 1))] (xset m1 55 ((iw ((iw (l1 * 4)) + l2)).toNat) (xior (m1 55 (iw ((iw (l1 * 4)) + l2)).toNat) (xshl 1 (m1 11 6)))) Q))))))) else (DW (d + 2) 109 41 [xR 11, xI l1, xI l2] μ Q)) : DW (d + 2) 109 10 [xR 11, xI l1, xI l2] μ Q :=
  DW_wp (n := 400) (Nat.le_of_ble_eq_true rfl) h
set_option maxRecDepth 20000 in
theorem sg_Apart_noteAnswers_41 {d : Nat} {l1 : Int} {v2 : AV} {μ : Mem} {Q : AV → Mem → Prop} (h : DW (d + 2) 109 2 [xR 11, xI (iw (l1 + 1)), v2] μ Q) : DW (d + 2) 109 41 [xR 11, xI l1, v2] μ Q :=
  DW_wp (n := 400) (Nat.le_of_ble_eq_true rfl) h
set_option maxRecDepth 20000 in
theorem ge_Apart_choose {d : Nat} {p1 p2 p3 : Int} {μ : Mem} {Q : AV → Mem → Prop} (h : GM d 111 [xR 11, xI p1, xI (xshl 1 (iw (p3 - p1)))] μ (gI (fun r2 m1 => if r2 = 0 then (if p1 < p3 then (if p1 < 4 then (DW (d + 1) 110 21 [xR 11, xI p1, xI p2, xI p3, xI p2] m1 Q) else (Q (xI 1) m1)) else (Q (xI 1) m1)) else (Q (xI 0) m1)))) : GM (d + 1) 110 [xR 11, xI p1, xI p2, xI p3] μ Q :=
  GM_wp (n := 400) (Nat.le_of_ble_eq_true rfl) (Nat.le_of_ble_eq_true rfl) rfl h
set_option maxRecDepth 20000 in
theorem sg_Apart_choose_21 {d : Nat} {l1 l3 l4 : Int} {v2 : AV} {μ : Mem} {Q : AV → Mem → Prop} (h : if l4 < iw ((μ 2 1) * 4) then (wb l1 4 (wb l4 24 (GM d 112 [xR 11, xI l1, xI (μ 55 l4.toNat)] (xset μ 58 l1.toNat l4) (gV (fun m1 => GM d 110 [xR 11, xI (iw (l1 + 1)), xI (iw (l4 + 1)), xI l3] m1 (gI (fun r3 m2 => if r3 = 0 then (DW (d + 1) 110 21 [xR 11, xI l1, v2, xI l3, xI (iw (l4 + 1))] m2 Q) else (Q (xI 1) m2)))))))) else (Q (xI 0) μ)) : DW (d + 1) 110 21 [xR 11, xI l1, v2, xI l3, xI l4] μ Q :=
  DW_wp (n := 400) (Nat.le_of_ble_eq_true rfl) h
set_option maxRecDepth 20000 in
theorem ge_Apart_isTooCoarse {d : Nat} {p1 p2 : Int} {μ : Mem} {Q : AV → Mem → Prop} (h : DW (d + 1) 111 4 [xR 11, xI p1, xI p2, xI (xshl 1 p1)] μ Q) : GM (d + 1) 111 [xR 11, xI p1, xI p2] μ Q :=
  GM_wp (n := 400) (Nat.le_of_ble_eq_true rfl) (Nat.le_of_ble_eq_true rfl) rfl h
set_option maxRecDepth 20000 in
theorem sg_Apart_isTooCoarse_4 {d : Nat} {l1 l2 l3 : Int} {μ : Mem} {Q : AV → Mem → Prop} (h : if l3 < xshl 2 l1 then (wb l3 32 (GM d 77 [xI (μ 56 l3.toNat)] μ (gI (fun r2 m1 => if l2 < r2 then (Q (xI 1) m1) else (DW (d + 1) 111 4 [xR 11, xI l1, xI l2, xI (iw (l3 + 1))] m1 Q))))) else (Q (xI 0) μ)) : DW (d + 1) 111 4 [xR 11, xI l1, xI l2, xI l3] μ Q :=
  DW_wp (n := 400) (Nat.le_of_ble_eq_true rfl) h
set_option maxRecDepth 20000 in
theorem ge_Apart_split {d : Nat} {p1 p2 : Int} {μ : Mem} {Q : AV → Mem → Prop} (h : DW d 112 4 [xR 11, xI p1, xI p2, xI (xshl 1 p1)] μ Q) : GM d 112 [xR 11, xI p1, xI p2] μ Q :=
  GM_wp (n := 400) (Nat.le_of_ble_eq_true rfl) (Nat.le_of_ble_eq_true rfl) rfl h
set_option maxRecDepth 20000 in
theorem sg_Apart_split_4 {d : Nat} {l1 l2 l3 : Int} {μ : Mem} {Q : AV → Mem → Prop} (h : if l3 < xshl 2 l1 then (wb l3 32 (wb (iw (2 * l3)) 32 (wb l3 32 (wb (iw ((iw (2 * l3)) + 1)) 32 (DW d 112 4 [xR 11, xI l1, xI l2, xI (iw (l3 + 1))] (xset (xset μ 56 ((iw (2 * l3)).toNat) (xand (μ 56 l3.toNat) (xxor l2 (-1)))) 56 ((iw ((iw (2 * l3)) + 1)).toNat) (xand ((xset μ 56 ((iw (2 * l3)).toNat) (xand (μ 56 l3.toNat) (xxor l2 (-1)))) 56 l3.toNat) l2)) Q))))) else (Q (xI 0) μ)) : DW d 112 4 [xR 11, xI l1, xI l2, xI l3] μ Q :=
  DW_wp (n := 400) (Nat.le_of_ble_eq_true rfl) h
set_option maxRecDepth 20000 in
theorem ge_X_came {d : Nat} {p1 : Int} {μ : Mem} {Q : AV → Mem → Prop} (h : if p1 < 0 then (Q (xI (-3)) μ) else (if 1 < p1 then (Q (xI (-3)) μ) else (GM (d + 5) 114 [xR 12] μ (gV (fun m1 => if m1 12 8 = 0 then (Q (xI (-1)) m1) else (if p1 = 0 then (Q (xI (m1 12 7)) m1) else (Q (xI (m1 12 8)) m1))))))) : GM (d + 6) 113 [xR 0, xI p1] μ Q :=
  GM_wp (n := 400) (Nat.le_of_ble_eq_true rfl) (Nat.le_of_ble_eq_true rfl) rfl h
set_option maxRecDepth 20000 in
theorem ge_Came_find {d : Nat} {μ : Mem} {Q : AV → Mem → Prop} (h : if μ 12 6 = (-1) then (GM (d + 4) 115 [xR 12, xI 0, xI 0, xI 0] (xset μ 12 4 0) (gV (fun m1 => if m1 12 6 = (-1) then (GM (d + 4) 116 [xR 12] m1 (gV (fun m2 => DW (d + 5) 114 24 [xR 12, xL 0] m2 Q))) else (if m1 3 1 < m1 12 6 then (GM (d + 4) 116 [xR 12] m1 (gV (fun m3 => DW (d + 5) 114 24 [xR 12, xL 0] m3 Q))) else (DW (d + 5) 114 24 [xR 12, xL 0] m1 Q))))) else (if μ 12 6 = (-1) then (GM (d + 4) 116 [xR 12] μ (gV (fun m4 => DW (d + 5) 114 24 [xR 12, xL 0] m4 Q))) else (if μ 3 1 < μ 12 6 then (GM (d + 4) 116 [xR 12] μ (gV (fun m5 => DW (d + 5) 114 24 [xR 12, xL 0] m5 Q))) else (DW (d + 5) 114 24 [xR 12, xL 0] μ Q)))) : GM (d + 5) 114 [xR 12] μ Q :=
  GM_wp (n := 400) (Nat.le_of_ble_eq_true rfl) (Nat.le_of_ble_eq_true rfl) rfl h
set_option maxRecDepth 20000 in
theorem sg_Came_find_24 {d : Nat} {v1 : AV} {μ : Mem} {Q : AV → Mem → Prop} (h : if μ 12 6 < μ 3 1 then (GM (d + 4) 117 [xR 12] μ (gV (fun m1 => DW (d + 5) 114 24 [xR 12, v1] (xset m1 12 6 (iw ((m1 12 6) + 1))) Q))) else (DW (d + 5) 114 40 [xR 12, v1] μ Q)) : DW (d + 5) 114 24 [xR 12, v1] μ Q :=
  DW_wp (n := 400) (Nat.le_of_ble_eq_true rfl) h
set_option maxRecDepth 20000 in
theorem sg_Came_find_40 {d : Nat} {v1 : AV} {μ : Mem} {Q : AV → Mem → Prop} (h : GM (d + 4) 89 [xR 10] μ (gV (fun m1 => DW (d + 5) 114 52 [xR 12, xI 0] (xset (xset m1 12 7 7) 12 8 0) Q))) : DW (d + 5) 114 40 [xR 12, v1] μ Q :=
  DW_wp (n := 400) (Nat.le_of_ble_eq_true rfl) h
set_option maxRecDepth 20000 in
theorem sg_Came_find_52 {d : Nat} {l1 : Int} {μ : Mem} {Q : AV → Mem → Prop} (h : if l1 < μ 12 4 then (wb l1 720 (if μ 60 l1.toNat < 7 then (wb l1 720 (GM (d + 4) 122 [xR 12, xI (μ 59 l1.toNat)] μ (gI (fun r2 m1 => if r2 = 0 then (DW (d + 5) 114 52 [xR 12, xI (iw (l1 + 1))] m1 Q) else (wb l1 720 (DW (d + 5) 114 52 [xR 12, xI (iw (l1 + 1))] (xset (xset m1 12 8 (iw ((m1 12 8) + 1))) 12 7 (min (m1 12 7) (m1 60 l1.toNat))) Q)))))) else (DW (d + 5) 114 52 [xR 12, xI (iw (l1 + 1))] μ Q))) else (Q (xI 0) μ)) : DW (d + 5) 114 52 [xR 12, xI l1] μ Q :=
  DW_wp (n := 400) (Nat.le_of_ble_eq_true rfl) h
set_option maxRecDepth 20000 in
theorem ge_Came_list {d : Nat} {p1 p2 p3 : Int} {μ : Mem} {Q : AV → Mem → Prop} (h : if p1 < μ 2 1 then (DW (d + 1) 115 24 [xR 12, xI p1, xI p2, xI p3, xI 0] μ Q) else (if μ 12 4 < 720 then (wb (μ 12 4) 720 (Q (xI 0) (xset (xset μ 59 ((μ 12 4).toNat) p3) 12 4 (iw ((μ 12 4) + 1))))) else (Q (xI 0) μ))) : GM (d + 1) 115 [xR 12, xI p1, xI p2, xI p3] μ Q :=
  GM_wp (n := 400) (Nat.le_of_ble_eq_true rfl) (Nat.le_of_ble_eq_true rfl) rfl h
set_option maxRecDepth 20000 in
theorem sg_Came_list_24 {d : Nat} {l1 l2 l3 l4 : Int} {μ : Mem} {Q : AV → Mem → Prop} (h : if l4 < μ 2 1 then (wb l4 6 (wb l1 6 (if μ 18 l4.toNat = μ 18 l1.toNat then (if xand (xshr l2 l4) 1 = 0 then (GM d 115 [xR 12, xI (iw (l1 + 1)), xI (xior l2 (xshl 1 l4)), xI (xior (xshl l3 3) l4)] μ (gV (fun m1 => DW (d + 1) 115 24 [xR 12, xI l1, xI l2, xI l3, xI (iw (l4 + 1))] m1 Q))) else (DW (d + 1) 115 24 [xR 12, xI l1, xI l2, xI l3, xI (iw (l4 + 1))] μ Q)) else (DW (d + 1) 115 24 [xR 12, xI l1, xI l2, xI l3, xI (iw (l4 + 1))] μ Q)))) else (Q (xI 0) μ)) : DW (d + 1) 115 24 [xR 12, xI l1, xI l2, xI l3, xI l4] μ Q :=
  DW_wp (n := 400) (Nat.le_of_ble_eq_true rfl) h
set_option maxRecDepth 20000 in
theorem ge_Came_startAtHome {d : Nat} {μ : Mem} {Q : AV → Mem → Prop} (h : GM d 95 [xR 60, xI 7] μ (gV (fun m1 => Q (xI 0) (xset (xset m1 60 0 0) 12 6 0)))) : GM (d + 1) 116 [xR 12] μ Q :=
  GM_wp (n := 400) (Nat.le_of_ble_eq_true rfl) (Nat.le_of_ble_eq_true rfl) rfl h
set_option maxRecDepth 20000 in
theorem ge_Came_goOn {d : Nat} {μ : Mem} {Q : AV → Mem → Prop} (h : DW (d + 4) 117 3 [xR 12, xI (μ 12 6), xL 0] μ Q) : GM (d + 4) 117 [xR 12] μ Q :=
  GM_wp (n := 400) (Nat.le_of_ble_eq_true rfl) (Nat.le_of_ble_eq_true rfl) rfl h
set_option maxRecDepth 20000 in
theorem sg_Came_goOn_3 {d : Nat} {l1 : Int} {v2 : AV} {μ : Mem} {Q : AV → Mem → Prop} (h : if l1 < 0 then (Q (xI 0) μ) else (DW (d + 4) 117 8 [xR 12, xI l1, xI 0] μ Q)) : DW (d + 4) 117 3 [xR 12, xI l1, v2] μ Q :=
  DW_wp (n := 400) (Nat.le_of_ble_eq_true rfl) h
set_option maxRecDepth 20000 in
theorem sg_Came_goOn_8 {d : Nat} {l1 l2 : Int} {μ : Mem} {Q : AV → Mem → Prop} (h : if l2 < μ 12 4 then (wb l2 720 (if μ 60 l2.toNat = l1 then (wb l2 720 (GM (d + 3) 118 [xR 12, xI (μ 59 l2.toNat), xI (iw (l1 + 1))] μ (gV (fun m1 => DW (d + 4) 117 8 [xR 12, xI l1, xI (iw (l2 + 1))] m1 Q)))) else (DW (d + 4) 117 8 [xR 12, xI l1, xI (iw (l2 + 1))] μ Q))) else (DW (d + 4) 117 30 [xR 12, xI l1, xI l2] μ Q)) : DW (d + 4) 117 8 [xR 12, xI l1, xI l2] μ Q :=
  DW_wp (n := 400) (Nat.le_of_ble_eq_true rfl) h
set_option maxRecDepth 20000 in
theorem sg_Came_goOn_30 {d : Nat} {l1 : Int} {v2 : AV} {μ : Mem} {Q : AV → Mem → Prop} (h : DW (d + 4) 117 3 [xR 12, xI (iw (l1 + (-1))), v2] μ Q) : DW (d + 4) 117 30 [xR 12, xI l1, v2] μ Q :=
  DW_wp (n := 400) (Nat.le_of_ble_eq_true rfl) h
set_option maxRecDepth 20000 in
theorem ge_Came_spread {d : Nat} {p1 p2 : Int} {μ : Mem} {Q : AV → Mem → Prop} (h : DW (d + 3) 118 2 [xR 12, xI p1, xI p2, xI 0, xL 0, xL 0] μ Q) : GM (d + 3) 118 [xR 12, xI p1, xI p2] μ Q :=
  GM_wp (n := 400) (Nat.le_of_ble_eq_true rfl) (Nat.le_of_ble_eq_true rfl) rfl h
set_option maxRecDepth 20000 in
theorem sg_Came_spread_2 {d : Nat} {l1 l2 l3 : Int} {v4 v5 : AV} {μ : Mem} {Q : AV → Mem → Prop} (h : if l3 < μ 2 1 then (DW (d + 3) 118 12 [xR 12, xI l1, xI l2, xI l3, xI (iw (l3 + 1)), v5] μ Q) else (Q (xI 0) μ)) : DW (d + 3) 118 2 [xR 12, xI l1, xI l2, xI l3, v4, v5] μ Q :=
  DW_wp (n := 400) (Nat.le_of_ble_eq_true rfl) h
set_option maxRecDepth 20000 in
theorem sg_Came_spread_12 {d : Nat} {l1 l2 l3 l4 : Int} {v5 : AV} {μ : Mem} {Q : AV → Mem → Prop} (h : if l4 < μ 2 1 then (GM (d + 2) 57 [xR 2, xI (μ 12 6), xI l3, xI l4] μ (gI (fun r2 m1 => if r2 = 0 then (DW (d + 3) 118 12 [xR 12, xI l1, xI l2, xI l3, xI (iw (l4 + 1)), v5] m1 Q) else (GM (d + 2) 119 [xR 12, xI l1, xI l3, xI l4] m1 (gI (fun r4 m3 => GM (d + 2) 121 [xR 12, xI r4] m3 (gI (fun r6 m5 => wb r6 720 (wb r6 720 (DW (d + 3) 118 12 [xR 12, xI l1, xI l2, xI l3, xI (iw (l4 + 1)), xI r6] (xset m5 60 r6.toNat (min (m5 60 r6.toNat) l2)) Q)))))))))) else (DW (d + 3) 118 46 [xR 12, xI l1, xI l2, xI l3, xI l4, v5] μ Q)) : DW (d + 3) 118 12 [xR 12, xI l1, xI l2, xI l3, xI l4, v5] μ Q :=
  DW_wp (n := 400) (Nat.le_of_ble_eq_true rfl) h
set_option maxRecDepth 20000 in
theorem sg_Came_spread_46 {d : Nat} {l1 l2 l3 : Int} {v4 v5 : AV} {μ : Mem} {Q : AV → Mem → Prop} (h : DW (d + 3) 118 2 [xR 12, xI l1, xI l2, xI (iw (l3 + 1)), v4, v5] μ Q) : DW (d + 3) 118 46 [xR 12, xI l1, xI l2, xI l3, v4, v5] μ Q :=
  DW_wp (n := 400) (Nat.le_of_ble_eq_true rfl) h
set_option maxRecDepth 20000 in
theorem ge_Came_exchanged {d : Nat} {p1 p2 p3 : Int} {μ : Mem} {Q : AV → Mem → Prop} (h : Q (xI (xxor p1 (xior (xshl (xand (xxor (xshr p1 (iw (3 * (iw ((iw ((μ 2 1) - 1)) - p2))))) (xshr p1 (iw (3 * (iw ((iw ((μ 2 1) - 1)) - p3)))))) 7) (iw (3 * (iw ((iw ((μ 2 1) - 1)) - p2))))) (xshl (xand (xxor (xshr p1 (iw (3 * (iw ((iw ((μ 2 1) - 1)) - p2))))) (xshr p1 (iw (3 * (iw ((iw ((μ 2 1) - 1)) - p3)))))) 7) (iw (3 * (iw ((iw ((μ 2 1) - 1)) - p3)))))))) μ) : GM (d + 1) 119 [xR 12, xI p1, xI p2, xI p3] μ Q :=
  GM_wp (n := 400) (Nat.le_of_ble_eq_true rfl) (Nat.le_of_ble_eq_true rfl) rfl h
set_option maxRecDepth 20000 in
theorem ge_Came_indexOf {d : Nat} {p1 : Int} {μ : Mem} {Q : AV → Mem → Prop} (h : DW d 121 9 [xR 12, xI p1, xI 0, xI (iw ((μ 12 4) - 1)), xI 0, xL 0] μ Q) : GM d 121 [xR 12, xI p1] μ Q :=
  GM_wp (n := 400) (Nat.le_of_ble_eq_true rfl) (Nat.le_of_ble_eq_true rfl) rfl h
set_option maxRecDepth 20000 in
theorem sg_Came_indexOf_9 {d : Nat} {l1 l2 l3 l4 : Int} {v5 : AV} {μ : Mem} {Q : AV → Mem → Prop} (h : if l4 < 12 then (if l2 < l3 then (wb (xdiv (iw (l2 + l3)) 2) 720 (if μ 59 (xdiv (iw (l2 + l3)) 2).toNat < l1 then (DW d 121 9 [xR 12, xI l1, xI (iw ((xdiv (iw (l2 + l3)) 2) + 1)), xI l3, xI (iw (l4 + 1)), xI (xdiv (iw (l2 + l3)) 2)] μ Q) else (DW d 121 9 [xR 12, xI l1, xI l2, xI (xdiv (iw (l2 + l3)) 2), xI (iw (l4 + 1)), xI (xdiv (iw (l2 + l3)) 2)] μ Q))) else (Q (xI l2) μ)) else (Q (xI l2) μ)) : DW d 121 9 [xR 12, xI l1, xI l2, xI l3, xI l4, v5] μ Q :=
  DW_wp (n := 400) (Nat.le_of_ble_eq_true rfl) h
set_option maxRecDepth 20000 in
theorem ge_Came_isFit {d : Nat} {p1 : Int} {μ : Mem} {Q : AV → Mem → Prop} (h : DW (d + 1) 122 2 [xR 12, xI p1, xI 0, xL 0] μ Q) : GM (d + 1) 122 [xR 12, xI p1] μ Q :=
  GM_wp (n := 400) (Nat.le_of_ble_eq_true rfl) (Nat.le_of_ble_eq_true rfl) rfl h
set_option maxRecDepth 20000 in
theorem sg_Came_isFit_2 {d : Nat} {l1 l2 : Int} {v3 : AV} {μ : Mem} {Q : AV → Mem → Prop} (h : if l2 < μ 2 1 then (wb l2 6 (if xand (xshr (μ 51 l2.toNat) (xand (xshr l1 (iw (3 * (iw ((iw ((μ 2 1) - 1)) - l2))))) 7)) 1 = 0 then (Q (xI 0) μ) else (DW (d + 1) 122 2 [xR 12, xI l1, xI (iw (l2 + 1)), xI (xand (xshr l1 (iw (3 * (iw ((iw ((μ 2 1) - 1)) - l2))))) 7)] μ Q))) else (Q (xI 1) μ)) : DW (d + 1) 122 2 [xR 12, xI l1, xI l2, v3] μ Q :=
  DW_wp (n := 400) (Nat.le_of_ble_eq_true rfl) h
set_option maxRecDepth 20000 in
theorem ge_X_count {d : Nat} {p1 : Int} {μ : Mem} {Q : AV → Mem → Prop} (h : if p1 = 0 then (Q (xI (μ 2 0)) μ) else (if p1 = 1 then (Q (xI (μ 2 1)) μ) else (if p1 = 2 then (Q (xI (μ 2 2)) μ) else (if p1 = 3 then (Q (xI (μ 3 1)) μ) else (if p1 = 4 then (Q (xI (μ 3 2)) μ) else (if p1 = 5 then (Q (xI (μ 3 3)) μ) else (if p1 = 6 then (GM d 124 [xR 3] μ (gI (fun r4 m3 => Q (xI r4) m3))) else (if p1 = 7 then (GM d 125 [xR 2] μ (gI (fun r2 m1 => Q (xI r2) m1))) else (if p1 = 8 then (Q (xI (μ 7 0)) μ) else (if p1 = 9 then (Q (xI (μ 1 1)) μ) else (Q (xI (-3)) μ))))))))))) : GM (d + 1) 123 [xR 0, xI p1] μ Q :=
  GM_wp (n := 400) (Nat.le_of_ble_eq_true rfl) (Nat.le_of_ble_eq_true rfl) rfl h
set_option maxRecDepth 20000 in
theorem ge_Now_atHome {d : Nat} {μ : Mem} {Q : AV → Mem → Prop} (h : DW d 124 4 [xR 3, xI 0, xI 0] μ Q) : GM d 124 [xR 3] μ Q :=
  GM_wp (n := 400) (Nat.le_of_ble_eq_true rfl) (Nat.le_of_ble_eq_true rfl) rfl h
set_option maxRecDepth 20000 in
theorem sg_Now_atHome_4 {d : Nat} {l1 l2 : Int} {μ : Mem} {Q : AV → Mem → Prop} (h : if l2 < μ 2 1 then (wb l2 6 (if μ 23 l2.toNat = l2 then (DW d 124 4 [xR 3, xI (xior l1 (xshl 1 l2)), xI (iw (l2 + 1))] μ Q) else (DW d 124 4 [xR 3, xI l1, xI (iw (l2 + 1))] μ Q))) else (Q (xI l1) μ)) : DW d 124 4 [xR 3, xI l1, xI l2] μ Q :=
  DW_wp (n := 400) (Nat.le_of_ble_eq_true rfl) h
set_option maxRecDepth 20000 in
theorem ge_Told_arrangements {d : Nat} {μ : Mem} {Q : AV → Mem → Prop} (h : DW d 125 4 [xR 2, xI 1, xI 0, xL 0, xL 0] μ Q) : GM d 125 [xR 2] μ Q :=
  GM_wp (n := 400) (Nat.le_of_ble_eq_true rfl) (Nat.le_of_ble_eq_true rfl) rfl h
set_option maxRecDepth 20000 in
theorem sg_Told_arrangements_4 {d : Nat} {l1 l2 : Int} {v3 v4 : AV} {μ : Mem} {Q : AV → Mem → Prop} (h : if l2 < μ 2 1 then (DW d 125 13 [xR 2, xI l1, xI l2, xI 0, xI 0] μ Q) else (Q (xI l1) μ)) : DW d 125 4 [xR 2, xI l1, xI l2, v3, v4] μ Q :=
  DW_wp (n := 400) (Nat.le_of_ble_eq_true rfl) h
set_option maxRecDepth 20000 in
theorem sg_Told_arrangements_13 {d : Nat} {l1 l2 l3 l4 : Int} {μ : Mem} {Q : AV → Mem → Prop} (h : if l2 < l4 then (DW d 125 29 [xR 2, xI l1, xI l2, xI l3, xI l4] μ Q) else (wb l4 6 (wb l2 6 (if μ 18 l4.toNat = μ 18 l2.toNat then (DW d 125 13 [xR 2, xI l1, xI l2, xI (iw (l3 + 1)), xI (iw (l4 + 1))] μ Q) else (DW d 125 13 [xR 2, xI l1, xI l2, xI l3, xI (iw (l4 + 1))] μ Q))))) : DW d 125 13 [xR 2, xI l1, xI l2, xI l3, xI l4] μ Q :=
  DW_wp (n := 400) (Nat.le_of_ble_eq_true rfl) h
set_option maxRecDepth 20000 in
theorem sg_Told_arrangements_29 {d : Nat} {l1 l2 l3 : Int} {v4 : AV} {μ : Mem} {Q : AV → Mem → Prop} (h : DW d 125 4 [xR 2, xI (iw (l1 * l3)), xI (iw (l2 + 1)), xI l3, v4] μ Q) : DW d 125 29 [xR 2, xI l1, xI l2, xI l3, v4] μ Q :=
  DW_wp (n := 400) (Nat.le_of_ble_eq_true rfl) h
end
section
/-! THE ABSTRACT STATE: naturals (α.1) and counters that wrap (α.2).
 α.1 0: 0 people, 1 things, 2 nights, 3 bytes, 4 passed, 5 known, 6 seen; 1 kind of one; of things 2 kind, 3 look, 4 keeper, 5 word, 6 power told; 7 night's set; 8 text; 9 lying; 10 power; 11, 12, 13 seen place, word, worked;
 14 kept; 15, 20 kept passed 0, known 1; 16, 21 lying; 17, 22 power. α.2 0 0 changes; 1 worked; 2 changed at; kept 3, 6: changes 0; 4, 7 worked; 5, 8 changed at -/
abbrev Al : Type := (Nat → Nat → Nat) × (Nat → Nat → Int)
def vM (μ : Mem) (α : Al) : Prop :=
  (μ 61 0 = ((α.1 0 0 : Nat) : Int)) ∧
  (μ 61 2 = ((α.1 0 1 : Nat) : Int)) ∧
  (μ 61 4 = ((α.1 0 2 : Nat) : Int)) ∧
  (μ 61 6 = ((α.1 0 3 : Nat) : Int)) ∧
  (μ 67 24 = ((α.1 0 4 : Nat) : Int)) ∧
  (μ 67 26 = ((α.1 0 5 : Nat) : Int)) ∧
  (μ 61 22 = ((α.1 0 6 : Nat) : Int)) ∧
  (∀ i : Nat, i < α.1 0 0 → μ 62 i = ((α.1 1 i : Nat) : Int)) ∧
  (∀ i : Nat, i < α.1 0 1 → μ 63 (5 * i) = ((α.1 2 i : Nat) : Int)) ∧
  (∀ i : Nat, i < α.1 0 1 → μ 63 (5 * i + 1) = ((α.1 3 i : Nat) : Int)) ∧
  (∀ i : Nat, i < α.1 0 1 → μ 63 (5 * i + 2) = ((α.1 4 i : Nat) : Int)) ∧
  (∀ i : Nat, i < α.1 0 1 → μ 63 (5 * i + 3) = ((α.1 5 i : Nat) : Int)) ∧
  (∀ i : Nat, i < α.1 0 1 → μ 63 (5 * i + 4) = ((α.1 6 i : Nat) : Int)) ∧
  (∀ i : Nat, i < α.1 0 2 → μ 64 i = ((α.1 7 i : Nat) : Int)) ∧
  (∀ i : Nat, i < α.1 0 3 → μ 65 i = ((α.1 8 i : Nat) : Int)) ∧
  (∀ i : Nat, i < α.1 0 1 → μ 67 i = ((α.1 9 i : Nat) : Int)) ∧
  (∀ i : Nat, i < α.1 0 1 → μ 67 (6 + i) = ((α.1 10 i : Nat) : Int)) ∧
  (∀ i : Nat, i < α.1 0 6 → μ 70 (3 * i) = ((α.1 11 i : Nat) : Int)) ∧
  (∀ i : Nat, i < α.1 0 6 → μ 70 (3 * i + 1) = ((α.1 12 i : Nat) : Int)) ∧
  (∀ i : Nat, i < α.1 0 6 → μ 70 (3 * i + 2) = ((α.1 13 i : Nat) : Int)) ∧
  (μ 67 25 = α.2 0 0) ∧
  (∀ i : Nat, i < α.1 0 1 → μ 67 (12 + i) = α.2 1 i) ∧
  (∀ i : Nat, i < α.1 0 1 → μ 67 (18 + i) = α.2 2 i) ∧
  (∀ k : Nat, k < 2 → μ 69 k = ((α.1 14 k : Nat) : Int)) ∧
  (α.1 14 0 = 1 → μ 68 24 = ((α.1 15 0 : Nat) : Int) ∧ μ 68 26 = ((α.1 15 1 : Nat) : Int) ∧ μ 68 25 = α.2 3 0) ∧
  (α.1 14 0 = 1 → ∀ i : Nat, i < α.1 0 1 → μ 68 (0 + i) = ((α.1 16 i : Nat) : Int) ∧ μ 68 (6 + i) = ((α.1 17 i : Nat) : Int) ∧ μ 68 (12 + i) = α.2 4 i ∧ μ 68 (18 + i) = α.2 5 i) ∧
  (α.1 14 1 = 1 → μ 68 51 = ((α.1 20 0 : Nat) : Int) ∧ μ 68 53 = ((α.1 20 1 : Nat) : Int) ∧ μ 68 52 = α.2 6 0) ∧
  (α.1 14 1 = 1 → ∀ i : Nat, i < α.1 0 1 → μ 68 (27 + i) = ((α.1 21 i : Nat) : Int) ∧ μ 68 (33 + i) = ((α.1 22 i : Nat) : Int) ∧ μ 68 (39 + i) = α.2 7 i ∧ μ 68 (45 + i) = α.2 8 i)
theorem vM_P {μ : Mem} {α : Al} (h : vM μ α) : μ 61 0 = ((α.1 0 0 : Nat) : Int) := h.1
theorem vM_T {μ : Mem} {α : Al} (h : vM μ α) : μ 61 2 = ((α.1 0 1 : Nat) : Int) := h.2.1
theorem vM_N {μ : Mem} {α : Al} (h : vM μ α) : μ 61 4 = ((α.1 0 2 : Nat) : Int) := h.2.2.1
theorem vM_B {μ : Mem} {α : Al} (h : vM μ α) : μ 61 6 = ((α.1 0 3 : Nat) : Int) := h.2.2.2.1
theorem vM_Ps {μ : Mem} {α : Al} (h : vM μ α) : μ 67 24 = ((α.1 0 4 : Nat) : Int) := h.2.2.2.2.1
theorem vM_Kn {μ : Mem} {α : Al} (h : vM μ α) : μ 67 26 = ((α.1 0 5 : Nat) : Int) := h.2.2.2.2.2.1
theorem vM_S {μ : Mem} {α : Al} (h : vM μ α) : μ 61 22 = ((α.1 0 6 : Nat) : Int) := h.2.2.2.2.2.2.1
theorem vM_one {μ : Mem} {α : Al} (h : vM μ α) : ∀ i : Nat, i < α.1 0 0 → μ 62 i = ((α.1 1 i : Nat) : Int) := h.2.2.2.2.2.2.2.1
theorem vM_kind {μ : Mem} {α : Al} (h : vM μ α) : ∀ i : Nat, i < α.1 0 1 → μ 63 (5 * i) = ((α.1 2 i : Nat) : Int) := h.2.2.2.2.2.2.2.2.1
theorem vM_look {μ : Mem} {α : Al} (h : vM μ α) : ∀ i : Nat, i < α.1 0 1 → μ 63 (5 * i + 1) = ((α.1 3 i : Nat) : Int) := h.2.2.2.2.2.2.2.2.2.1
theorem vM_keep {μ : Mem} {α : Al} (h : vM μ α) : ∀ i : Nat, i < α.1 0 1 → μ 63 (5 * i + 2) = ((α.1 4 i : Nat) : Int) := h.2.2.2.2.2.2.2.2.2.2.1
theorem vM_word {μ : Mem} {α : Al} (h : vM μ α) : ∀ i : Nat, i < α.1 0 1 → μ 63 (5 * i + 3) = ((α.1 5 i : Nat) : Int) := h.2.2.2.2.2.2.2.2.2.2.2.1
theorem vM_pow0 {μ : Mem} {α : Al} (h : vM μ α) : ∀ i : Nat, i < α.1 0 1 → μ 63 (5 * i + 4) = ((α.1 6 i : Nat) : Int) := h.2.2.2.2.2.2.2.2.2.2.2.2.1
theorem vM_night {μ : Mem} {α : Al} (h : vM μ α) : ∀ i : Nat, i < α.1 0 2 → μ 64 i = ((α.1 7 i : Nat) : Int) := h.2.2.2.2.2.2.2.2.2.2.2.2.2.1
theorem vM_text {μ : Mem} {α : Al} (h : vM μ α) : ∀ i : Nat, i < α.1 0 3 → μ 65 i = ((α.1 8 i : Nat) : Int) := h.2.2.2.2.2.2.2.2.2.2.2.2.2.2.1
theorem vM_lie {μ : Mem} {α : Al} (h : vM μ α) : ∀ i : Nat, i < α.1 0 1 → μ 67 i = ((α.1 9 i : Nat) : Int) := h.2.2.2.2.2.2.2.2.2.2.2.2.2.2.2.1
theorem vM_pow {μ : Mem} {α : Al} (h : vM μ α) : ∀ i : Nat, i < α.1 0 1 → μ 67 (6 + i) = ((α.1 10 i : Nat) : Int) := h.2.2.2.2.2.2.2.2.2.2.2.2.2.2.2.2.1
theorem vM_sp {μ : Mem} {α : Al} (h : vM μ α) : ∀ i : Nat, i < α.1 0 6 → μ 70 (3 * i) = ((α.1 11 i : Nat) : Int) := h.2.2.2.2.2.2.2.2.2.2.2.2.2.2.2.2.2.1
theorem vM_sw {μ : Mem} {α : Al} (h : vM μ α) : ∀ i : Nat, i < α.1 0 6 → μ 70 (3 * i + 1) = ((α.1 12 i : Nat) : Int) := h.2.2.2.2.2.2.2.2.2.2.2.2.2.2.2.2.2.2.1
theorem vM_sv {μ : Mem} {α : Al} (h : vM μ α) : ∀ i : Nat, i < α.1 0 6 → μ 70 (3 * i + 2) = ((α.1 13 i : Nat) : Int) := h.2.2.2.2.2.2.2.2.2.2.2.2.2.2.2.2.2.2.2.1
theorem vM_Ch {μ : Mem} {α : Al} (h : vM μ α) : μ 67 25 = α.2 0 0 := h.2.2.2.2.2.2.2.2.2.2.2.2.2.2.2.2.2.2.2.2.1
theorem vM_wk {μ : Mem} {α : Al} (h : vM μ α) : ∀ i : Nat, i < α.1 0 1 → μ 67 (12 + i) = α.2 1 i := h.2.2.2.2.2.2.2.2.2.2.2.2.2.2.2.2.2.2.2.2.2.1
theorem vM_ca {μ : Mem} {α : Al} (h : vM μ α) : ∀ i : Nat, i < α.1 0 1 → μ 67 (18 + i) = α.2 2 i := h.2.2.2.2.2.2.2.2.2.2.2.2.2.2.2.2.2.2.2.2.2.2.1
theorem vM_kf {μ : Mem} {α : Al} (h : vM μ α) : ∀ k : Nat, k < 2 → μ 69 k = ((α.1 14 k : Nat) : Int) := h.2.2.2.2.2.2.2.2.2.2.2.2.2.2.2.2.2.2.2.2.2.2.2.1
theorem vM_kP0 {μ : Mem} {α : Al} (h : vM μ α) : α.1 14 0 = 1 → μ 68 24 = ((α.1 15 0 : Nat) : Int) ∧ μ 68 26 = ((α.1 15 1 : Nat) : Int) ∧ μ 68 25 = α.2 3 0 := h.2.2.2.2.2.2.2.2.2.2.2.2.2.2.2.2.2.2.2.2.2.2.2.2.1
theorem vM_kA0 {μ : Mem} {α : Al} (h : vM μ α) : α.1 14 0 = 1 → ∀ i : Nat, i < α.1 0 1 → μ 68 (0 + i) = ((α.1 16 i : Nat) : Int) ∧ μ 68 (6 + i) = ((α.1 17 i : Nat) : Int) ∧ μ 68 (12 + i) = α.2 4 i ∧ μ 68 (18 + i) = α.2 5 i := h.2.2.2.2.2.2.2.2.2.2.2.2.2.2.2.2.2.2.2.2.2.2.2.2.2.1
theorem vM_kP1 {μ : Mem} {α : Al} (h : vM μ α) : α.1 14 1 = 1 → μ 68 51 = ((α.1 20 0 : Nat) : Int) ∧ μ 68 53 = ((α.1 20 1 : Nat) : Int) ∧ μ 68 52 = α.2 6 0 := h.2.2.2.2.2.2.2.2.2.2.2.2.2.2.2.2.2.2.2.2.2.2.2.2.2.2.1
theorem vM_kA1 {μ : Mem} {α : Al} (h : vM μ α) : α.1 14 1 = 1 → ∀ i : Nat, i < α.1 0 1 → μ 68 (27 + i) = ((α.1 21 i : Nat) : Int) ∧ μ 68 (33 + i) = ((α.1 22 i : Nat) : Int) ∧ μ 68 (39 + i) = α.2 7 i ∧ μ 68 (45 + i) = α.2 8 i := h.2.2.2.2.2.2.2.2.2.2.2.2.2.2.2.2.2.2.2.2.2.2.2.2.2.2.2
def vX (μ : Mem) (α : Al) : Prop :=
  (μ 2 0 = ((α.1 0 0 : Nat) : Int)) ∧
  (μ 2 1 = ((α.1 0 1 : Nat) : Int)) ∧
  (μ 2 2 = ((α.1 0 2 : Nat) : Int)) ∧
  (μ 1 1 = ((α.1 0 3 : Nat) : Int)) ∧
  (μ 3 1 = ((α.1 0 4 : Nat) : Int)) ∧
  (μ 3 3 = ((α.1 0 5 : Nat) : Int)) ∧
  (μ 7 0 = ((α.1 0 6 : Nat) : Int)) ∧
  (∀ i : Nat, i < α.1 0 0 → μ 16 i = ((α.1 1 i : Nat) : Int)) ∧
  (∀ i : Nat, i < α.1 0 1 → μ 17 i = ((α.1 2 i : Nat) : Int)) ∧
  (∀ i : Nat, i < α.1 0 1 → μ 18 i = ((α.1 3 i : Nat) : Int)) ∧
  (∀ i : Nat, i < α.1 0 1 → μ 21 i = ((α.1 4 i : Nat) : Int)) ∧
  (∀ i : Nat, i < α.1 0 1 → μ 19 i = ((α.1 5 i : Nat) : Int)) ∧
  (∀ i : Nat, i < α.1 0 1 → μ 20 i = ((α.1 6 i : Nat) : Int)) ∧
  (∀ i : Nat, i < α.1 0 2 → μ 22 i = ((α.1 7 i : Nat) : Int)) ∧
  (∀ i : Nat, i < α.1 0 3 → μ 13 i = ((α.1 8 i : Nat) : Int)) ∧
  (∀ i : Nat, i < α.1 0 1 → μ 23 i = ((α.1 9 i : Nat) : Int)) ∧
  (∀ i : Nat, i < α.1 0 1 → μ 25 i = ((α.1 10 i : Nat) : Int)) ∧
  (∀ i : Nat, i < α.1 0 6 → μ 35 i = ((α.1 11 i : Nat) : Int)) ∧
  (∀ i : Nat, i < α.1 0 6 → μ 36 i = ((α.1 12 i : Nat) : Int)) ∧
  (∀ i : Nat, i < α.1 0 6 → μ 37 i = ((α.1 13 i : Nat) : Int)) ∧
  (μ 3 2 = α.2 0 0) ∧
  (∀ i : Nat, i < α.1 0 1 → μ 26 i = α.2 1 i) ∧
  (∀ i : Nat, i < α.1 0 1 → μ 24 i = α.2 2 i) ∧
  (∃ kb : Nat, kb < 4 ∧ μ 0 4 = (kb : Int) ∧ ∀ k : Nat, k < 2 → (kb.testBit k = true ↔ α.1 14 k = 1)) ∧
  (α.1 14 0 = 1 → μ 5 1 = ((α.1 15 0 : Nat) : Int) ∧ μ 5 3 = ((α.1 15 1 : Nat) : Int) ∧ μ 5 2 = α.2 3 0) ∧
  (α.1 14 0 = 1 → ∀ i : Nat, i < α.1 0 1 → μ 27 i = ((α.1 16 i : Nat) : Int) ∧ μ 29 i = ((α.1 17 i : Nat) : Int) ∧ μ 30 i = α.2 4 i ∧ μ 28 i = α.2 5 i) ∧
  (α.1 14 1 = 1 → μ 6 1 = ((α.1 20 0 : Nat) : Int) ∧ μ 6 3 = ((α.1 20 1 : Nat) : Int) ∧ μ 6 2 = α.2 6 0) ∧
  (α.1 14 1 = 1 → ∀ i : Nat, i < α.1 0 1 → μ 31 i = ((α.1 21 i : Nat) : Int) ∧ μ 33 i = ((α.1 22 i : Nat) : Int) ∧ μ 34 i = α.2 7 i ∧ μ 32 i = α.2 8 i)
theorem vX_P {μ : Mem} {α : Al} (h : vX μ α) : μ 2 0 = ((α.1 0 0 : Nat) : Int) := h.1
theorem vX_T {μ : Mem} {α : Al} (h : vX μ α) : μ 2 1 = ((α.1 0 1 : Nat) : Int) := h.2.1
theorem vX_N {μ : Mem} {α : Al} (h : vX μ α) : μ 2 2 = ((α.1 0 2 : Nat) : Int) := h.2.2.1
theorem vX_B {μ : Mem} {α : Al} (h : vX μ α) : μ 1 1 = ((α.1 0 3 : Nat) : Int) := h.2.2.2.1
theorem vX_Ps {μ : Mem} {α : Al} (h : vX μ α) : μ 3 1 = ((α.1 0 4 : Nat) : Int) := h.2.2.2.2.1
theorem vX_Kn {μ : Mem} {α : Al} (h : vX μ α) : μ 3 3 = ((α.1 0 5 : Nat) : Int) := h.2.2.2.2.2.1
theorem vX_S {μ : Mem} {α : Al} (h : vX μ α) : μ 7 0 = ((α.1 0 6 : Nat) : Int) := h.2.2.2.2.2.2.1
theorem vX_one {μ : Mem} {α : Al} (h : vX μ α) : ∀ i : Nat, i < α.1 0 0 → μ 16 i = ((α.1 1 i : Nat) : Int) := h.2.2.2.2.2.2.2.1
theorem vX_kind {μ : Mem} {α : Al} (h : vX μ α) : ∀ i : Nat, i < α.1 0 1 → μ 17 i = ((α.1 2 i : Nat) : Int) := h.2.2.2.2.2.2.2.2.1
theorem vX_look {μ : Mem} {α : Al} (h : vX μ α) : ∀ i : Nat, i < α.1 0 1 → μ 18 i = ((α.1 3 i : Nat) : Int) := h.2.2.2.2.2.2.2.2.2.1
theorem vX_keep {μ : Mem} {α : Al} (h : vX μ α) : ∀ i : Nat, i < α.1 0 1 → μ 21 i = ((α.1 4 i : Nat) : Int) := h.2.2.2.2.2.2.2.2.2.2.1
theorem vX_word {μ : Mem} {α : Al} (h : vX μ α) : ∀ i : Nat, i < α.1 0 1 → μ 19 i = ((α.1 5 i : Nat) : Int) := h.2.2.2.2.2.2.2.2.2.2.2.1
theorem vX_pow0 {μ : Mem} {α : Al} (h : vX μ α) : ∀ i : Nat, i < α.1 0 1 → μ 20 i = ((α.1 6 i : Nat) : Int) := h.2.2.2.2.2.2.2.2.2.2.2.2.1
theorem vX_night {μ : Mem} {α : Al} (h : vX μ α) : ∀ i : Nat, i < α.1 0 2 → μ 22 i = ((α.1 7 i : Nat) : Int) := h.2.2.2.2.2.2.2.2.2.2.2.2.2.1
theorem vX_text {μ : Mem} {α : Al} (h : vX μ α) : ∀ i : Nat, i < α.1 0 3 → μ 13 i = ((α.1 8 i : Nat) : Int) := h.2.2.2.2.2.2.2.2.2.2.2.2.2.2.1
theorem vX_lie {μ : Mem} {α : Al} (h : vX μ α) : ∀ i : Nat, i < α.1 0 1 → μ 23 i = ((α.1 9 i : Nat) : Int) := h.2.2.2.2.2.2.2.2.2.2.2.2.2.2.2.1
theorem vX_pow {μ : Mem} {α : Al} (h : vX μ α) : ∀ i : Nat, i < α.1 0 1 → μ 25 i = ((α.1 10 i : Nat) : Int) := h.2.2.2.2.2.2.2.2.2.2.2.2.2.2.2.2.1
theorem vX_sp {μ : Mem} {α : Al} (h : vX μ α) : ∀ i : Nat, i < α.1 0 6 → μ 35 i = ((α.1 11 i : Nat) : Int) := h.2.2.2.2.2.2.2.2.2.2.2.2.2.2.2.2.2.1
theorem vX_sw {μ : Mem} {α : Al} (h : vX μ α) : ∀ i : Nat, i < α.1 0 6 → μ 36 i = ((α.1 12 i : Nat) : Int) := h.2.2.2.2.2.2.2.2.2.2.2.2.2.2.2.2.2.2.1
theorem vX_sv {μ : Mem} {α : Al} (h : vX μ α) : ∀ i : Nat, i < α.1 0 6 → μ 37 i = ((α.1 13 i : Nat) : Int) := h.2.2.2.2.2.2.2.2.2.2.2.2.2.2.2.2.2.2.2.1
theorem vX_Ch {μ : Mem} {α : Al} (h : vX μ α) : μ 3 2 = α.2 0 0 := h.2.2.2.2.2.2.2.2.2.2.2.2.2.2.2.2.2.2.2.2.1
theorem vX_wk {μ : Mem} {α : Al} (h : vX μ α) : ∀ i : Nat, i < α.1 0 1 → μ 26 i = α.2 1 i := h.2.2.2.2.2.2.2.2.2.2.2.2.2.2.2.2.2.2.2.2.2.1
theorem vX_ca {μ : Mem} {α : Al} (h : vX μ α) : ∀ i : Nat, i < α.1 0 1 → μ 24 i = α.2 2 i := h.2.2.2.2.2.2.2.2.2.2.2.2.2.2.2.2.2.2.2.2.2.2.1
theorem vX_kf {μ : Mem} {α : Al} (h : vX μ α) : ∃ kb : Nat, kb < 4 ∧ μ 0 4 = (kb : Int) ∧ ∀ k : Nat, k < 2 → (kb.testBit k = true ↔ α.1 14 k = 1) := h.2.2.2.2.2.2.2.2.2.2.2.2.2.2.2.2.2.2.2.2.2.2.2.1
theorem vX_kP0 {μ : Mem} {α : Al} (h : vX μ α) : α.1 14 0 = 1 → μ 5 1 = ((α.1 15 0 : Nat) : Int) ∧ μ 5 3 = ((α.1 15 1 : Nat) : Int) ∧ μ 5 2 = α.2 3 0 := h.2.2.2.2.2.2.2.2.2.2.2.2.2.2.2.2.2.2.2.2.2.2.2.2.1
theorem vX_kA0 {μ : Mem} {α : Al} (h : vX μ α) : α.1 14 0 = 1 → ∀ i : Nat, i < α.1 0 1 → μ 27 i = ((α.1 16 i : Nat) : Int) ∧ μ 29 i = ((α.1 17 i : Nat) : Int) ∧ μ 30 i = α.2 4 i ∧ μ 28 i = α.2 5 i := h.2.2.2.2.2.2.2.2.2.2.2.2.2.2.2.2.2.2.2.2.2.2.2.2.2.1
theorem vX_kP1 {μ : Mem} {α : Al} (h : vX μ α) : α.1 14 1 = 1 → μ 6 1 = ((α.1 20 0 : Nat) : Int) ∧ μ 6 3 = ((α.1 20 1 : Nat) : Int) ∧ μ 6 2 = α.2 6 0 := h.2.2.2.2.2.2.2.2.2.2.2.2.2.2.2.2.2.2.2.2.2.2.2.2.2.2.1
theorem vX_kA1 {μ : Mem} {α : Al} (h : vX μ α) : α.1 14 1 = 1 → ∀ i : Nat, i < α.1 0 1 → μ 31 i = ((α.1 21 i : Nat) : Int) ∧ μ 33 i = ((α.1 22 i : Nat) : Int) ∧ μ 34 i = α.2 7 i ∧ μ 32 i = α.2 8 i := h.2.2.2.2.2.2.2.2.2.2.2.2.2.2.2.2.2.2.2.2.2.2.2.2.2.2.2
def wf (α : Al) : Prop :=
  (α.1 0 0 ≤ 5) ∧
  (α.1 0 1 ≤ 6) ∧
  (α.1 0 2 ≤ 6) ∧
  (α.1 0 3 ≤ 160) ∧
  (α.1 0 4 ≤ α.1 0 2) ∧
  (α.1 0 5 < 32) ∧
  (α.1 0 6 ≤ 10) ∧
  (∀ i : Nat, i < α.1 0 0 → α.1 1 i < 4) ∧
  (∀ i : Nat, i < α.1 0 1 → α.1 2 i < 4) ∧
  (∀ i : Nat, i < α.1 0 1 → α.1 3 i < 3) ∧
  (∀ i : Nat, i < α.1 0 1 → α.1 4 i < α.1 0 0) ∧
  (∀ i : Nat, i < α.1 0 1 → α.1 5 i < 4) ∧
  (∀ i : Nat, i < α.1 0 1 → α.1 6 i < 10) ∧
  (∀ i : Nat, i < α.1 0 2 → α.1 7 i < 32) ∧
  (∀ i : Nat, i < α.1 0 3 → α.1 8 i < 256) ∧
  (∀ i : Nat, i < α.1 0 1 → α.1 9 i < α.1 0 1 ∧ α.1 3 (α.1 9 i) = α.1 3 i) ∧
  (∀ i j : Nat, i < α.1 0 1 → j < α.1 0 1 → α.1 9 i = α.1 9 j → i = j) ∧
  (∀ i : Nat, i < α.1 0 1 → α.1 10 i < 10) ∧
  (∀ i : Nat, i < α.1 0 6 → α.1 11 i < α.1 0 1) ∧
  (∀ i : Nat, i < α.1 0 6 → α.1 12 i < 4) ∧
  (∀ i : Nat, i < α.1 0 6 → α.1 13 i < 2) ∧
  (∀ k : Nat, k < 2 → α.1 14 k < 2) ∧
  (α.1 14 0 = 1 → α.1 15 0 ≤ α.1 0 2 ∧ α.1 15 1 < 32) ∧
  (α.1 14 0 = 1 → ∀ i : Nat, i < α.1 0 1 → α.1 16 i < α.1 0 1 ∧ α.1 3 (α.1 16 i) = α.1 3 i ∧ α.1 17 i < 10) ∧
  (α.1 14 0 = 1 → ∀ i j : Nat, i < α.1 0 1 → j < α.1 0 1 → α.1 16 i = α.1 16 j → i = j) ∧
  (α.1 14 1 = 1 → α.1 20 0 ≤ α.1 0 2 ∧ α.1 20 1 < 32) ∧
  (α.1 14 1 = 1 → ∀ i : Nat, i < α.1 0 1 → α.1 21 i < α.1 0 1 ∧ α.1 3 (α.1 21 i) = α.1 3 i ∧ α.1 22 i < 10) ∧
  (α.1 14 1 = 1 → ∀ i j : Nat, i < α.1 0 1 → j < α.1 0 1 → α.1 21 i = α.1 21 j → i = j)
theorem wf_P {α : Al} (h : wf α) : α.1 0 0 ≤ 5 := h.1
theorem wf_T {α : Al} (h : wf α) : α.1 0 1 ≤ 6 := h.2.1
theorem wf_N {α : Al} (h : wf α) : α.1 0 2 ≤ 6 := h.2.2.1
theorem wf_B {α : Al} (h : wf α) : α.1 0 3 ≤ 160 := h.2.2.2.1
theorem wf_Ps {α : Al} (h : wf α) : α.1 0 4 ≤ α.1 0 2 := h.2.2.2.2.1
theorem wf_Kn {α : Al} (h : wf α) : α.1 0 5 < 32 := h.2.2.2.2.2.1
theorem wf_S {α : Al} (h : wf α) : α.1 0 6 ≤ 10 := h.2.2.2.2.2.2.1
theorem wf_one {α : Al} (h : wf α) : ∀ i : Nat, i < α.1 0 0 → α.1 1 i < 4 := h.2.2.2.2.2.2.2.1
theorem wf_kind {α : Al} (h : wf α) : ∀ i : Nat, i < α.1 0 1 → α.1 2 i < 4 := h.2.2.2.2.2.2.2.2.1
theorem wf_look {α : Al} (h : wf α) : ∀ i : Nat, i < α.1 0 1 → α.1 3 i < 3 := h.2.2.2.2.2.2.2.2.2.1
theorem wf_keep {α : Al} (h : wf α) : ∀ i : Nat, i < α.1 0 1 → α.1 4 i < α.1 0 0 := h.2.2.2.2.2.2.2.2.2.2.1
theorem wf_word {α : Al} (h : wf α) : ∀ i : Nat, i < α.1 0 1 → α.1 5 i < 4 := h.2.2.2.2.2.2.2.2.2.2.2.1
theorem wf_pow0 {α : Al} (h : wf α) : ∀ i : Nat, i < α.1 0 1 → α.1 6 i < 10 := h.2.2.2.2.2.2.2.2.2.2.2.2.1
theorem wf_night {α : Al} (h : wf α) : ∀ i : Nat, i < α.1 0 2 → α.1 7 i < 32 := h.2.2.2.2.2.2.2.2.2.2.2.2.2.1
theorem wf_text {α : Al} (h : wf α) : ∀ i : Nat, i < α.1 0 3 → α.1 8 i < 256 := h.2.2.2.2.2.2.2.2.2.2.2.2.2.2.1
theorem wf_lie {α : Al} (h : wf α) : ∀ i : Nat, i < α.1 0 1 → α.1 9 i < α.1 0 1 ∧ α.1 3 (α.1 9 i) = α.1 3 i := h.2.2.2.2.2.2.2.2.2.2.2.2.2.2.2.1
theorem wf_inj {α : Al} (h : wf α) : ∀ i j : Nat, i < α.1 0 1 → j < α.1 0 1 → α.1 9 i = α.1 9 j → i = j := h.2.2.2.2.2.2.2.2.2.2.2.2.2.2.2.2.1
theorem wf_pow {α : Al} (h : wf α) : ∀ i : Nat, i < α.1 0 1 → α.1 10 i < 10 := h.2.2.2.2.2.2.2.2.2.2.2.2.2.2.2.2.2.1
theorem wf_sp {α : Al} (h : wf α) : ∀ i : Nat, i < α.1 0 6 → α.1 11 i < α.1 0 1 := h.2.2.2.2.2.2.2.2.2.2.2.2.2.2.2.2.2.2.1
theorem wf_sw {α : Al} (h : wf α) : ∀ i : Nat, i < α.1 0 6 → α.1 12 i < 4 := h.2.2.2.2.2.2.2.2.2.2.2.2.2.2.2.2.2.2.2.1
theorem wf_sv {α : Al} (h : wf α) : ∀ i : Nat, i < α.1 0 6 → α.1 13 i < 2 := h.2.2.2.2.2.2.2.2.2.2.2.2.2.2.2.2.2.2.2.2.1
theorem wf_kf {α : Al} (h : wf α) : ∀ k : Nat, k < 2 → α.1 14 k < 2 := h.2.2.2.2.2.2.2.2.2.2.2.2.2.2.2.2.2.2.2.2.2.1
theorem wf_kS0 {α : Al} (h : wf α) : α.1 14 0 = 1 → α.1 15 0 ≤ α.1 0 2 ∧ α.1 15 1 < 32 := h.2.2.2.2.2.2.2.2.2.2.2.2.2.2.2.2.2.2.2.2.2.2.1
theorem wf_kL0 {α : Al} (h : wf α) : α.1 14 0 = 1 → ∀ i : Nat, i < α.1 0 1 → α.1 16 i < α.1 0 1 ∧ α.1 3 (α.1 16 i) = α.1 3 i ∧ α.1 17 i < 10 := h.2.2.2.2.2.2.2.2.2.2.2.2.2.2.2.2.2.2.2.2.2.2.2.1
theorem wf_kI0 {α : Al} (h : wf α) : α.1 14 0 = 1 → ∀ i j : Nat, i < α.1 0 1 → j < α.1 0 1 → α.1 16 i = α.1 16 j → i = j := h.2.2.2.2.2.2.2.2.2.2.2.2.2.2.2.2.2.2.2.2.2.2.2.2.1
theorem wf_kS1 {α : Al} (h : wf α) : α.1 14 1 = 1 → α.1 20 0 ≤ α.1 0 2 ∧ α.1 20 1 < 32 := h.2.2.2.2.2.2.2.2.2.2.2.2.2.2.2.2.2.2.2.2.2.2.2.2.2.1
theorem wf_kL1 {α : Al} (h : wf α) : α.1 14 1 = 1 → ∀ i : Nat, i < α.1 0 1 → α.1 21 i < α.1 0 1 ∧ α.1 3 (α.1 21 i) = α.1 3 i ∧ α.1 22 i < 10 := h.2.2.2.2.2.2.2.2.2.2.2.2.2.2.2.2.2.2.2.2.2.2.2.2.2.2.1
theorem wf_kI1 {α : Al} (h : wf α) : α.1 14 1 = 1 → ∀ i j : Nat, i < α.1 0 1 → j < α.1 0 1 → α.1 21 i = α.1 21 j → i = j := h.2.2.2.2.2.2.2.2.2.2.2.2.2.2.2.2.2.2.2.2.2.2.2.2.2.2.2
/-! rewriting -/
theorem gI_mk {F : Int → Mem → Prop} {x : Int} {μ : Mem} (h : F x μ) : gI F (xI x) μ := h
theorem gV_mk {F : Mem → Prop} {v : AV} {μ : Mem} (h : F μ) : gV F v μ := h
theorem gR_mk {F : Nat → Mem → Prop} {x : Nat} {μ : Mem} (h : F x μ) : gR F (xR x) μ := h
theorem iw_5 {t c : Nat} (ht : t < 1000) (hc : c < 1000) : iw (iw (5 * (t : Int)) + (c : Int)) = ((5 * t + c : Nat) : Int) := by simp only [iw_def]; omega
theorem iw_50 {t : Nat} (ht : t < 1000) : iw (5 * (t : Int)) = ((5 * t : Nat) : Int) := by simp only [iw_def]; omega
theorem iw_51 {t : Nat} (ht : t < 1000) : iw (iw (5 * (t : Int)) + 1) = ((5 * t + 1 : Nat) : Int) := by simp only [iw_def]; omega
theorem iw_52 {t : Nat} (ht : t < 1000) : iw (iw (5 * (t : Int)) + 2) = ((5 * t + 2 : Nat) : Int) := by simp only [iw_def]; omega
theorem iw_53 {t : Nat} (ht : t < 1000) : iw (iw (5 * (t : Int)) + 3) = ((5 * t + 3 : Nat) : Int) := by simp only [iw_def]; omega
theorem iw_54 {t : Nat} (ht : t < 1000) : iw (iw (5 * (t : Int)) + 4) = ((5 * t + 4 : Nat) : Int) := by simp only [iw_def]; omega
theorem iw_nn {n : Nat} (h : n < 2147483648) : iw (n : Int) = (n : Int) := by simp only [iw_def]; omega
theorem iw_n0 {n : Nat} (h : n < 2147483648) : iw ((n : Int) + 0) = (n : Int) := by simp only [iw_def]; omega
theorem iw_s0 {n : Nat} (h : n < 2147483648) : iw ((n : Int) - 0) = (n : Int) := by simp only [iw_def]; omega
theorem iw_k1 {n : Nat} (h : n < 1000000) : iw ((n : Int) + 1) = ((n + 1 : Nat) : Int) := by simp only [iw_def]; omega
theorem iw_k2 {n : Nat} (h : n < 1000000) : iw ((n : Int) + 2) = ((n + 2 : Nat) : Int) := by simp only [iw_def]; omega
theorem iw_k3 {n : Nat} (h : n < 1000000) : iw ((n : Int) + 3) = ((n + 3 : Nat) : Int) := by simp only [iw_def]; omega
theorem iw_k4 {n : Nat} (h : n < 1000000) : iw ((n : Int) + 4) = ((n + 4 : Nat) : Int) := by simp only [iw_def]; omega
theorem iw_c {t c : Nat} (ht : t < 100000) (hc : c < 100000) : iw ((c : Int) + (t : Int)) = ((c + t : Nat) : Int) := by simp only [iw_def]; omega
theorem iw_6 {t : Nat} (ht : t < 1000) : iw (6 + (t : Int)) = ((6 + t : Nat) : Int) := by simp only [iw_def]; omega
theorem iw_12 {t : Nat} (ht : t < 1000) : iw (12 + (t : Int)) = ((12 + t : Nat) : Int) := by simp only [iw_def]; omega
theorem iw_18 {t : Nat} (ht : t < 1000) : iw (18 + (t : Int)) = ((18 + t : Nat) : Int) := by simp only [iw_def]; omega
theorem iw_1 {t : Nat} (ht : t < 1000000) : iw ((t : Int) + 1) = ((t + 1 : Nat) : Int) := by simp only [iw_def]; omega
theorem iw_m1 {t : Nat} (ht : t < 1000000) : iw ((t : Int) - 1) = (t : Int) - 1 := by simp only [iw_def]; omega
theorem ii_eq {a b : Nat} : ((a : Int) = (b : Int)) = (a = b) := by rw [Int.ofNat_inj]
theorem ii_lt {a b : Nat} : ((a : Int) < (b : Int)) = (a < b) := by rw [Int.ofNat_lt]
theorem ii_0 {a : Nat} : ((a : Int) = 0) = (a = 0) := by apply propext; omega
theorem ii_1 {a : Nat} : ((a : Int) = 1) = (a = 1) := by apply propext; omega
theorem ii_2 {a : Nat} : ((a : Int) = 2) = (a = 2) := by apply propext; omega
theorem ii_3 {a : Nat} : ((a : Int) = 3) = (a = 3) := by apply propext; omega
theorem ii_p {a : Nat} : ((0 : Int) < (a : Int)) = (0 < a) := by apply propext; omega
theorem ii_n {a : Nat} : ((a : Int) < 0) = False := by apply propext; constructor; intro h; omega; intro h; exact h.elim
theorem sp_bit1 {a j : Nat} (ha : a < 2147483648) (hj : j < 32) : (xand (xshr (a : Int) (j : Int)) 1 = 1) = (a.testBit j = true) := by
  rw [sp_bit ha hj]
  apply propext
  cases a.testBit j <;> simp
/-! specifications: words, nights -/
def sp_works (α : Al) (t p : Nat) (w : Int) : Int :=
  if ((α.1 5 t : Nat) : Int) = w then (if α.1 2 t = 1 then 1 else if α.1 2 t = 2 then (if 0 < α.1 10 t then 1 else 0) else if α.1 2 t = 3 then (if α.1 4 p = α.1 4 t then 1 else if α.1 1 (α.1 4 p) = 2 then 1 else 0) else 0) else 0
def sp_open (α : Al) (n p : Nat) : Bool := α.1 1 (α.1 4 p) == 3 || ((α.1 7 n).testBit (α.1 4 p) && !(α.1 1 (α.1 4 p) == 1))
def sp_may (α : Al) (n a b : Nat) : Bool := α.1 3 a == α.1 3 b && sp_open α n a && sp_open α n b
def sp_bits (f : Nat → Bool) : Nat → Nat
  | 0 => 0
  | n + 1 => sp_bits f n + (if f n then 2 ^ n else 0)
theorem sp_bits_lt (f : Nat → Bool) : ∀ n, sp_bits f n < 2 ^ n
  | 0 => Nat.zero_lt_one
  | n + 1 => by
    have := sp_bits_lt f n
    rw [sp_bits, Nat.pow_succ]
    split <;> omega
theorem sp_or_pow {a j : Nat} (h : a < 2 ^ j) : a ||| 2 ^ j = a + 2 ^ j := by
  rw [Nat.or_comm, Nat.add_comm]
  have := Nat.two_pow_add_eq_or_of_lt (i := j) h 1
  simpa using this.symm
theorem sp_bits_or {f : Nat → Bool} {n : Nat} (hn : n < 31) (h : f n = true) : xior ((sp_bits f n : Nat) : Int) (xshl 1 (n : Int)) = ((sp_bits f (n + 1) : Nat) : Int) := by
  have h1 := sp_bits_lt f n
  have h2 : (2 : Nat) ^ n < 2147483648 := Nat.pow_lt_pow_right (by decide) hn
  rw [sp_one hn, xior_nat (by omega) h2, sp_or_pow h1, sp_bits, if_pos h]
theorem sp_bits_no {f : Nat → Bool} {n : Nat} (h : ¬ f n = true) : sp_bits f (n + 1) = sp_bits f n := by rw [sp_bits, if_neg h]; rfl
theorem xior_0 {a : Nat} (h : a < 2147483648) : xior (a : Int) 0 = (a : Int) := by
  have := xior_nat (b := 0) h (by decide)
  simpa using this
end
section
/-! the reference's small methods -/
set_option maxRecDepth 20000 in
theorem M_works_ok {d t p : Nat} {w : Int} {μ : Mem} {α : Al} {Q : AV → Mem → Prop} (hv : vM μ α) (hw : wf α) (ht : t < α.1 0 1) (hp : p < α.1 0 1) (h : Q (xI (sp_works α t p w)) μ) : GM (d + 2) 153 [xR 61, xI (t : Int), xI (p : Int), xI w] μ Q := by
  have hT := wf_T hw
  have h1 := wf_kind hw t ht
  have h2 := wf_keep hw p hp
  have h3 := wf_P hw
  have h4 := wf_keep hw t ht
  have h5 := wf_one hw _ h2
  refine ge_M_works ?_
  simp (disch := omega) only [iw_50, iw_k1, iw_k2, iw_k3, iw_6, wb_eq, Int.toNat_natCast, vM_kind hv, vM_word hv, vM_keep hv, vM_pow hv, vM_one hv, ii_eq, ii_0, ii_1, ii_2, ii_p]
  unfold sp_works at h
  by_cases c0 : w = ((α.1 5 t : Nat) : Int)
  · rw [if_pos c0]
    rw [if_pos c0.symm] at h
    rcases (show α.1 2 t = 0 ∨ α.1 2 t = 1 ∨ α.1 2 t = 2 ∨ α.1 2 t = 3 by omega) with e | e | e | e <;> simp only [e] at h ⊢ <;> simp at h ⊢
    · exact h
    · exact h
    · split <;> simp_all
    · split
      · simp_all
      · split <;> simp_all
  · rw [if_neg c0]
    rw [if_neg (fun e => c0 e.symm)] at h
    exact h
set_option maxRecDepth 20000 in
theorem M_isOpen_ok {d n p : Nat} {μ : Mem} {α : Al} {Q : AV → Mem → Prop} (hv : vM μ α) (hw : wf α) (hn : n < α.1 0 2) (hp : p < α.1 0 1) (h : Q (xI (if sp_open α n p then 1 else 0)) μ) : GM (d + 2) 158 [xR 61, xI (n : Int), xI (p : Int)] μ Q := by
  have hT := wf_T hw
  have hN := wf_N hw
  have h2 := wf_keep hw p hp
  have h3 := wf_P hw
  have h4 := wf_night hw n hn
  refine ge_M_isOpen ?_
  simp (disch := omega) only [iw_50, iw_k2, wb_eq, Int.toNat_natCast, vM_keep hv, vM_one hv, vM_night hv, ii_eq, ii_0, ii_1, ii_2, ii_3, ii_p, sp_bit1]
  unfold sp_open at h
  by_cases c0 : α.1 1 (α.1 4 p) = 3
  · simp [c0] at h ⊢; exact h
  · by_cases c1 : (α.1 7 n).testBit (α.1 4 p) = true
    · by_cases c2 : α.1 1 (α.1 4 p) = 1 <;> simp [c0, c1, c2] at h ⊢ <;> exact h
    · simp [c0, c1] at h ⊢; exact h
set_option maxRecDepth 20000 in
theorem M_mayBe_ok {d n a b : Nat} {μ : Mem} {α : Al} {Q : AV → Mem → Prop} (hv : vM μ α) (hw : wf α) (hn : n < α.1 0 2) (ha : a < α.1 0 1) (hb : b < α.1 0 1) (h : Q (xI (if a ≠ b ∧ sp_may α n a b = true then 1 else 0)) μ) : GM (d + 3) 157 [xR 61, xI (n : Int), xI (a : Int), xI (b : Int)] μ Q := by
  have hT := wf_T hw
  refine ge_M_mayBe ?_
  simp (disch := omega) only [iw_50, iw_k1, wb_eq, Int.toNat_natCast, vM_look hv, ii_eq]
  unfold sp_may at h
  by_cases c0 : a = b
  · simp [c0] at h ⊢; exact h
  · by_cases c1 : α.1 3 a = α.1 3 b
    · simp only [c0, c1, if_true, if_false]
      refine M_isOpen_ok hv hw hn ha ?_
      by_cases c2 : sp_open α n a = true
      · simp only [c2, if_true, gI]
        rw [if_neg (by decide)]
        refine M_isOpen_ok hv hw hn hb ?_
        by_cases c3 : sp_open α n b = true <;> simp [c0, c1, c2, c3, gI] at h ⊢ <;> exact h
      · simp [c0, c1, c2, gI] at h ⊢; exact h
    · simp [c0, c1] at h ⊢; exact h
/-! the place where a thing lies -/
def sp_first (f : Nat → Bool) : Nat → Nat
  | 0 => 0
  | n + 1 => if sp_first f n < n then sp_first f n else if f n then n else n + 1
theorem sp_first_hit {f : Nat → Bool} {n : Nat} : ∀ m, n < m → f n = true → (∀ j, j < n → f j = false) → sp_first f m = n := by
  have h0 : ∀ k, (∀ j, j < k → f j = false) → sp_first f k = k := by
    intro k
    induction k with
    | zero => intro _; rfl
    | succ k ih =>
      intro h
      rw [sp_first, ih (fun j hj => h j (by omega)), if_neg (by omega), if_neg (by rw [h k (by omega)]; decide)]
  intro m
  induction m with
  | zero => intro h; omega
  | succ m ih =>
    intro h1 h2 h3
    rw [sp_first]
    rcases Nat.lt_or_ge n m with q | q
    · rw [ih q h2 h3, if_pos q]
    · have e : n = m := by omega
      subst e
      rw [h0 n h3, if_neg (by omega), if_pos h2]
theorem sp_first_no {f : Nat → Bool} : ∀ m, (∀ j, j < m → f j = false) → sp_first f m = m := by
  intro m
  induction m with
  | zero => intro _; rfl
  | succ m ih =>
    intro h
    rw [sp_first, ih (fun j hj => h j (by omega)), if_neg (by omega), if_neg (by rw [h m (by omega)]; decide)]
def sp_at (α : Al) (t : Nat) : Nat := sp_first (fun p => α.1 9 p == t) (α.1 0 1)
theorem sp_holes : ∀ (m n : Nat) (f : Nat → Nat), (∀ i, i < n → f i < m) → (∀ i j, i < n → j < n → f i = f j → i = j) → n ≤ m := by
  intro m
  induction m with
  | zero =>
    intro n f h1 h2
    cases n with
    | zero => exact Nat.le_refl 0
    | succ n => exact absurd (h1 0 (by omega)) (by omega)
  | succ m ih =>
    intro n f h1 h2
    cases n with
    | zero => exact Nat.zero_le _
    | succ n =>
      have := ih n (fun i => if f i = m then f n else f i) (fun i hi => by
        have h3 := h1 n (by omega)
        have h4 := h1 i (by omega)
        split
        · next e => 
          have : f n ≠ m := fun e2 => by have := h2 i n (by omega) (by omega) (by omega); omega
          omega
        · omega) (fun i j hi hj e => by
        split at e
        · next ei =>
          split at e
          · next ej => exact h2 i j (by omega) (by omega) (by omega)
          · next ej => have := h2 n j (by omega) (by omega) e; omega
        · next ei =>
          split at e
          · next ej => have := h2 i n (by omega) (by omega) e; omega
          · next ej => exact h2 i j (by omega) (by omega) e)
      omega
theorem sp_onto {n : Nat} {f : Nat → Nat} (h1 : ∀ i, i < n → f i < n) (h2 : ∀ i j, i < n → j < n → f i = f j → i = j) {y : Nat} (hy : y < n) : ∃ i, i < n ∧ f i = y := by
  apply Decidable.byContradiction
  intro hc
  have hne : ∀ i, i < n → f i ≠ y := fun i hi e => hc ⟨i, hi, e⟩
  cases n with
  | zero => omega
  | succ n =>
    have := sp_holes n (n + 1) (fun i => if f i = n then y else f i) (fun i hi => by
      have := h1 i hi
      have := hne i hi
      split
      · omega
      · omega) (fun i j hi hj e => by
      have a1 := hne i hi
      have a2 := hne j hj
      split at e
      · next ei =>
        split at e
        · next ej => exact h2 i j hi hj (by omega)
        · next ej => omega
      · next ei =>
        split at e
        · next ej => omega
        · next ej => exact h2 i j hi hj e)
    omega
theorem sp_at_ok {α : Al} (hw : wf α) {t : Nat} (ht : t < α.1 0 1) : sp_at α t < α.1 0 1 ∧ α.1 9 (sp_at α t) = t ∧ ∀ p, p < α.1 0 1 → α.1 9 p = t → p = sp_at α t := by
  obtain ⟨i, hi, he⟩ := sp_onto (fun i hi => (wf_lie hw i hi).1) (wf_inj hw) ht
  have e : sp_at α t = i := sp_first_hit _ hi (by simp [he]) (fun j hj => by
    have : α.1 9 j ≠ t := fun e2 => by have := wf_inj hw j i (by omega) hi (by omega); omega
    simp [this])
  rw [e]
  exact ⟨hi, he, fun p hp h => wf_inj hw p i hp hi (by omega)⟩
set_option maxRecDepth 20000 in
theorem M_whereIs_ok {d t : Nat} {μ : Mem} {α : Al} {Q : AV → Mem → Prop} (hv : vM μ α) (hw : wf α) (ht : t < α.1 0 1) (h : Q (xI ((sp_at α t : Nat) : Int)) μ) : GM d 151 [xR 61, xI (t : Int)] μ Q := by
  have hT := wf_T hw
  obtain ⟨a1, a2, a3⟩ := sp_at_ok hw ht
  refine ge_M_whereIs ?_
  have key : ∀ n q, q + n = sp_at α t → DW d 151 2 [xR 61, xI (t : Int), xI (q : Int)] μ Q := by
    intro n
    induction n with
    | zero =>
      intro q hq
      refine sg_M_whereIs_2 ?_
      simp (disch := omega) only [vM_T hv, ii_lt, wb_eq, Int.toNat_natCast, vM_lie hv, ii_eq]
      rw [if_pos (by omega), if_pos (by rw [show q = sp_at α t by omega]; exact a2), show q = sp_at α t by omega]
      exact h
    | succ n ih =>
      intro q hq
      refine sg_M_whereIs_2 ?_
      simp (disch := omega) only [vM_T hv, ii_lt, wb_eq, Int.toNat_natCast, vM_lie hv, ii_eq, iw_k1]
      rw [if_pos (by omega), if_neg (fun e => by have := a3 q (by omega) e; omega)]
      exact ih (q + 1) (by omega)
  exact key (sp_at α t) 0 (by omega)
end
section
/-! answers, as functions of the abstract state -/
def sp_cnt (f : Nat → Bool) : Nat → Nat
  | 0 => 0
  | n + 1 => sp_cnt f n + (if f n then 1 else 0)
theorem sp_cnt_le (f : Nat → Bool) : ∀ n, sp_cnt f n ≤ n
  | 0 => Nat.le_refl 0
  | n + 1 => by
    have := sp_cnt_le f n
    rw [sp_cnt]
    split <;> omega
def r_one (α : Al) (p w : Int) : Int :=
  if p < 0 then -2 else if p < ((α.1 0 0 : Nat) : Int) then (if w = 0 then ((α.1 1 p.toNat : Nat) : Int) else if w = 1 then ((sp_bits (fun q => α.1 4 q == p.toNat) (α.1 0 1) : Nat) : Int) else if w = 2 then (if (α.1 0 5).testBit p.toNat then 1 else 0) else if w = 3 then ((sp_bits (fun n => α.1 1 p.toNat == 3 || (α.1 7 n).testBit p.toNat) (α.1 0 2) : Nat) : Int) else -3) else -2
def sp_own (α : Al) (p : Nat) : Nat := sp_cnt (fun q => α.1 4 q == p && α.1 4 (α.1 9 q) == p) (α.1 0 1)
def sp_asOk (kd : Nat) (k : Int) : Bool := decide (k = 0) || (if k = 1 then !(kd == 3) else decide ((kd : Int) = k - 1))
def r_as (α : Al) (p k : Int) : Int :=
  if p < 0 then -2 else if p < ((α.1 0 0 : Nat) : Int) then (if k < 0 then -3 else if 4 < k then -3 else if sp_asOk (α.1 1 p.toNat) k then ((sp_own α p.toNat : Nat) : Int) else -4) else -2
def r_thing (α : Al) (t w : Int) : Int :=
  if t < 0 then -2 else if t < ((α.1 0 1 : Nat) : Int) then (if w = 0 then ((α.1 2 t.toNat : Nat) : Int) else if w = 1 then ((α.1 3 t.toNat : Nat) : Int) else if w = 2 then ((α.1 5 t.toNat : Nat) : Int) else if w = 3 then ((α.1 10 t.toNat : Nat) : Int) else if w = 4 then ((sp_at α t.toNat : Nat) : Int) else if w = 5 then α.2 1 t.toNat else -3) else -2
def sp_tasOk (kd : Nat) (k : Int) : Bool := decide (k = 0) || (if k = 1 then kd == 0 else if k = 2 then decide (0 < kd) else if k = 3 then (kd == 1 || kd == 3) else if k = 4 then kd == 2 else kd == 3)
def r_thingAs (α : Al) (t k : Int) : Int :=
  if t < 0 then -2 else if t < ((α.1 0 1 : Nat) : Int) then (if k < 0 then -3 else if 5 < k then -3 else if sp_tasOk (α.1 2 t.toNat) k then sp_works α t.toNat (sp_at α t.toNat) ((α.1 5 t.toNat : Nat) : Int) else -4) else -2
def r_place (α : Al) (p w : Int) : Int :=
  if p < 0 then -2 else if p < ((α.1 0 1 : Nat) : Int) then (if w = 0 then ((α.1 4 p.toNat : Nat) : Int) else if w = 1 then ((α.1 9 p.toNat : Nat) : Int) else if w = 2 then α.2 2 p.toNat else -3) else -2
def sp_pl (α : Al) (p : Int) : Prop := 0 ≤ p ∧ p < ((α.1 0 1 : Nat) : Int)
def r_may (α : Al) (n a b : Int) : Int :=
  if n < 0 then -2 else if n < ((α.1 0 2 : Nat) : Int) then (if a < 0 then -2 else if a < ((α.1 0 1 : Nat) : Int) then (if b < 0 then -2 else if b < ((α.1 0 1 : Nat) : Int) then (if a = b then -3 else if sp_may α n.toNat a.toNat b.toNat then 1 else 0) else -2) else -2) else -2
def r_show (α : Al) (p : Int) : Int :=
  if p < 0 then -2 else if p < ((α.1 0 0 : Nat) : Int) then ((sp_cnt (fun q => α.1 4 q == p.toNat && decide (sp_works α (α.1 9 q) q ((α.1 5 q : Nat) : Int) = 1)) (α.1 0 1) : Nat) : Int) else -2
theorem sp_works01 (α : Al) (t p : Nat) (w : Int) : sp_works α t p w = 0 ∨ sp_works α t p w = 1 := by
  unfold sp_works
  (repeat' split) <;> simp
theorem in_lo {n : Nat} {p : Int} (hn : n < 1000000) : (iw ((n : Int) - 1) < p) = ¬ (p < (n : Int)) := by
  rw [iw_m1 hn]
  apply propext
  omega
set_option maxRecDepth 20000 in
theorem M_nightsOf_ok {d p : Nat} {μ : Mem} {α : Al} {Q : AV → Mem → Prop} (hv : vM μ α) (hw : wf α) (hp : p < α.1 0 0) (h : Q (xI ((sp_bits (fun n => α.1 1 p == 3 || (α.1 7 n).testBit p) (α.1 0 2) : Nat) : Int)) μ) : GM (d + 1) 143 [xR 61, xI (p : Int)] μ Q := by
  have hN := wf_N hw
  have hP := wf_P hw
  refine ge_M_nightsOf ?_
  generalize hf : (fun n => α.1 1 p == 3 || (α.1 7 n).testBit p) = f at h
  have key : ∀ n q, q + n = α.1 0 2 → DW (d + 1) 143 4 [xR 61, xI (p : Int), xI ((sp_bits f q : Nat) : Int), xI (q : Int)] μ Q := by
    intro n
    induction n with
    | zero =>
      intro q hq
      refine sg_M_nightsOf_4 ?_
      simp (disch := omega) only [vM_N hv, ii_lt]
      rw [if_neg (by omega), show q = α.1 0 2 by omega]
      exact h
    | succ n ih =>
      intro q hq
      have h4 := wf_night hw q (by omega)
      have hb := sp_bits_lt f q
      have hb2 : 2 ^ q ≤ 2 ^ 6 := Nat.pow_le_pow_right (by decide) (by omega)
      refine sg_M_nightsOf_4 ?_
      simp (disch := omega) only [vM_N hv, ii_lt, wb_eq, Int.toNat_natCast, vM_one hv, vM_night hv, ii_3, sp_bit1, iw_k1, xior_0]
      rw [if_pos (by omega)]
      have hfq : f q = (α.1 1 p == 3 || (α.1 7 q).testBit p) := by rw [← hf]
      by_cases c0 : α.1 1 p = 3
      · rw [if_pos c0, sp_bits_or (by omega) (by rw [hfq]; simp [c0])]
        exact ih (q + 1) (by omega)
      · rw [if_neg c0]
        by_cases c1 : (α.1 7 q).testBit p = true
        · rw [if_pos c1, sp_bits_or (by omega) (by rw [hfq]; simp [c1])]
          exact ih (q + 1) (by omega)
        · rw [if_neg c1, ← sp_bits_no (f := f) (n := q) (by rw [hfq]; simp [c0, c1])]
          exact ih (q + 1) (by omega)
  exact key (α.1 0 2) 0 (by omega)
set_option maxRecDepth 20000 in
theorem M_one_ok {d : Nat} {p w : Int} {μ : Mem} {α : Al} {Q : AV → Mem → Prop} (hv : vM μ α) (hw : wf α) (h : Q (xI (r_one α p w)) μ) : GM (d + 2) 140 [xR 61, xI p, xI w] μ Q := by
  have hT := wf_T hw
  have hP := wf_P hw
  refine ge_M_one ?_
  unfold r_one at h
  simp (disch := omega) only [vM_P hv, in_lo]
  by_cases c0 : p < 0
  · rw [if_pos c0] at h ⊢; exact h
  rw [if_neg c0] at h ⊢
  by_cases c1 : p < ((α.1 0 0 : Nat) : Int)
  · rw [if_pos c1] at h
    rw [if_neg (fun e => e c1)]
    obtain ⟨p, rfl⟩ := Int.eq_ofNat_of_zero_le (show 0 ≤ p by omega)
    rw [Int.toNat_natCast] at h
    have hp : p < α.1 0 0 := by omega
    have key : ∀ n q, q + n = α.1 0 1 → DW (d + 2) 140 10 [xR 61, xI (p : Int), xI w, xI ((sp_bits (fun q => α.1 4 q == p) q : Nat) : Int), xI (q : Int)] μ Q := by
      intro n
      induction n with
      | zero =>
        intro q hq
        refine sg_M_one_10 ?_
        simp (disch := omega) only [vM_T hv, ii_lt]
        rw [if_neg (by omega), show q = α.1 0 1 by omega]
        refine sg_M_one_30 ?_
        have hk := wf_Kn hw
        simp (disch := omega) only [wb_eq, Int.toNat_natCast, vM_one hv, vM_Kn hv, sp_bit]
        by_cases w0 : w = 0
        · rw [if_pos w0] at h ⊢; exact h
        rw [if_neg w0] at h ⊢
        by_cases w1 : w = 1
        · rw [if_pos w1] at h ⊢; exact h
        rw [if_neg w1] at h ⊢
        by_cases w2 : w = 2
        · rw [if_pos w2] at h ⊢; exact h
        rw [if_neg w2] at h ⊢
        by_cases w3 : w = 3
        · rw [if_pos w3] at h ⊢
          exact M_nightsOf_ok hv hw hp h
        rw [if_neg w3] at h ⊢
        exact h
      | succ n ih =>
        intro q hq
        have hb := sp_bits_lt (fun q => α.1 4 q == p) q
        have hb2 : 2 ^ q ≤ 2 ^ 6 := Nat.pow_le_pow_right (by decide) (by omega)
        refine sg_M_one_10 ?_
        simp (disch := omega) only [vM_T hv, ii_lt, iw_50, iw_k2, wb_eq, Int.toNat_natCast, vM_keep hv, ii_eq, iw_k1, xior_0]
        rw [if_pos (by omega)]
        by_cases c : α.1 4 q = p
        · rw [if_pos c, sp_bits_or (by omega) (by simp [c])]
          exact ih (q + 1) (by omega)
        · rw [if_neg c, ← sp_bits_no (n := q) (by simp [c])]
          exact ih (q + 1) (by omega)
    exact key (α.1 0 1) 0 (by omega)
  · rw [if_neg c1] at h
    rw [if_pos c1]
    exact h
set_option maxRecDepth 20000 in
theorem M_as_ok {d : Nat} {p k : Int} {μ : Mem} {α : Al} {Q : AV → Mem → Prop} (hv : vM μ α) (hw : wf α) (h : Q (xI (r_as α p k)) μ) : GM (d + 2) 145 [xR 61, xI p, xI k] μ Q := by
  have hT := wf_T hw
  have hP := wf_P hw
  refine ge_M_as ?_
  unfold r_as at h
  simp (disch := omega) only [vM_P hv, in_lo]
  by_cases c0 : p < 0
  · rw [if_pos c0] at h ⊢; exact h
  rw [if_neg c0] at h ⊢
  by_cases c1 : p < ((α.1 0 0 : Nat) : Int)
  · rw [if_pos c1] at h
    rw [if_neg (fun e => e c1)]
    by_cases k0 : k < 0
    · rw [if_pos k0] at h ⊢; exact h
    rw [if_neg k0] at h ⊢
    by_cases k4 : 4 < k
    · rw [if_pos k4] at h ⊢; exact h
    rw [if_neg k4] at h ⊢
    obtain ⟨p, rfl⟩ := Int.eq_ofNat_of_zero_le (show 0 ≤ p by omega)
    rw [Int.toNat_natCast] at h
    have hp : p < α.1 0 0 := by omega
    have key : ∀ (b : Bool) (v2 v3 : AV), sp_asOk (α.1 1 p) k = b → ∀ n q, q + n = α.1 0 1 → DW (d + 2) 145 40 [xR 61, xI (p : Int), v2, v3, xI (if b then 1 else 0), xI ((sp_cnt (fun q => α.1 4 q == p && α.1 4 (α.1 9 q) == p) q : Nat) : Int), xI (q : Int)] μ Q := by
      intro b v2 v3 hb n
      induction n with
      | zero =>
        intro q hq
        refine sg_M_as_40 ?_
        simp (disch := omega) only [vM_T hv, ii_lt]
        rw [if_neg (by omega), show q = α.1 0 1 by omega]
        refine sg_M_as_66 ?_
        cases b with
        | false => rw [hb] at h; simpa using h
        | true => rw [hb] at h; simpa [sp_own] using h
      | succ n ih =>
        intro q hq
        have hb := sp_cnt_le (fun q => α.1 4 q == p && α.1 4 (α.1 9 q) == p) q
        have hl := (wf_lie hw q (by omega)).1
        refine sg_M_as_40 ?_
        simp (disch := omega) only [vM_T hv, ii_lt, iw_50, iw_k2, wb_eq, Int.toNat_natCast, vM_keep hv, vM_lie hv, ii_eq, iw_k1, iw_n0]
        rw [if_pos (by omega)]
        have hi := ih (q + 1) (by omega)
        rw [sp_cnt] at hi
        by_cases c : α.1 4 q = p
        · rw [if_pos c]
          by_cases c2 : α.1 4 (α.1 9 q) = p
          · rw [if_pos c2]
            simpa [c, c2] using hi
          · rw [if_neg c2]
            simpa [c, c2] using hi
        · rw [if_neg c]
          simpa [c] using hi
    have fin : ∀ (b : Bool) (v2 v3 : AV), sp_asOk (α.1 1 p) k = b → DW (d + 2) 145 40 [xR 61, xI (p : Int), v2, v3, xI (if b then 1 else 0), xI 0, xI 0] μ Q := fun b v2 v3 hb => key b v2 v3 hb (α.1 0 1) 0 (by omega)
    simp (disch := omega) only [wb_eq, Int.toNat_natCast, vM_one hv, ii_3]
    by_cases e0 : k = 0
    · rw [if_pos e0]; exact fin true _ _ (by simp [sp_asOk, e0])
    rw [if_neg e0]
    by_cases e1 : k = 1
    · rw [if_pos e1]
      by_cases e3 : α.1 1 p = 3
      · rw [if_pos e3]; exact fin false _ _ (by simp [sp_asOk, e1, e3])
      · rw [if_neg e3]; exact fin true _ _ (by simp [sp_asOk, e1, e3])
    rw [if_neg e1, iw_id (by omega) (by omega)]
    by_cases e4 : ((α.1 1 p : Nat) : Int) = k - 1
    · rw [if_pos e4]; exact fin true _ _ (by simp [sp_asOk, e0, e1, e4])
    · rw [if_neg e4]; exact fin false _ _ (by simp [sp_asOk, e0, e1, e4])
  · rw [if_neg c1] at h
    rw [if_pos c1]
    exact h
end
section
set_option maxRecDepth 20000 in
theorem M_thing_ok {d : Nat} {t w : Int} {μ : Mem} {α : Al} {Q : AV → Mem → Prop} (hv : vM μ α) (hw : wf α) (h : Q (xI (r_thing α t w)) μ) : GM (d + 2) 146 [xR 61, xI t, xI w] μ Q := by
  have hT := wf_T hw
  refine ge_M_thing ?_
  unfold r_thing at h
  simp (disch := omega) only [vM_T hv, in_lo]
  by_cases c0 : t < 0
  · rw [if_pos c0] at h ⊢; exact h
  rw [if_neg c0] at h ⊢
  by_cases c1 : t < ((α.1 0 1 : Nat) : Int)
  · rw [if_pos c1] at h
    rw [if_neg (fun e => e c1)]
    obtain ⟨t, rfl⟩ := Int.eq_ofNat_of_zero_le (show 0 ≤ t by omega)
    rw [Int.toNat_natCast] at h
    have ht : t < α.1 0 1 := by omega
    simp (disch := omega) only [iw_50, iw_k1, iw_k3, iw_6, iw_12, wb_eq, Int.toNat_natCast, vM_kind hv, vM_look hv, vM_word hv, vM_pow hv, vM_wk hv]
    by_cases w0 : w = 0
    · rw [if_pos w0] at h ⊢; exact h
    rw [if_neg w0] at h ⊢
    by_cases w1 : w = 1
    · rw [if_pos w1] at h ⊢; exact h
    rw [if_neg w1] at h ⊢
    by_cases w2 : w = 2
    · rw [if_pos w2] at h ⊢; exact h
    rw [if_neg w2] at h ⊢
    by_cases w3 : w = 3
    · rw [if_pos w3] at h ⊢; exact h
    rw [if_neg w3] at h ⊢
    by_cases w4 : w = 4
    · rw [if_pos w4] at h ⊢
      exact M_whereIs_ok hv hw ht h
    rw [if_neg w4] at h ⊢
    by_cases w5 : w = 5
    · rw [if_pos w5] at h ⊢; exact h
    rw [if_neg w5] at h ⊢
    exact h
  · rw [if_neg c1] at h
    rw [if_pos c1]
    exact h
set_option maxRecDepth 20000 in
theorem M_place_ok {d : Nat} {t w : Int} {μ : Mem} {α : Al} {Q : AV → Mem → Prop} (hv : vM μ α) (hw : wf α) (h : Q (xI (r_place α t w)) μ) : GM (d + 2) 155 [xR 61, xI t, xI w] μ Q := by
  have hT := wf_T hw
  refine ge_M_place ?_
  unfold r_place at h
  simp (disch := omega) only [vM_T hv, in_lo]
  by_cases c0 : t < 0
  · rw [if_pos c0] at h ⊢; exact h
  rw [if_neg c0] at h ⊢
  by_cases c1 : t < ((α.1 0 1 : Nat) : Int)
  · rw [if_pos c1] at h
    rw [if_neg (fun e => e c1)]
    obtain ⟨t, rfl⟩ := Int.eq_ofNat_of_zero_le (show 0 ≤ t by omega)
    rw [Int.toNat_natCast] at h
    have ht : t < α.1 0 1 := by omega
    simp (disch := omega) only [iw_50, iw_k2, iw_18, wb_eq, Int.toNat_natCast, vM_keep hv, vM_lie hv, vM_ca hv]
    by_cases w0 : w = 0
    · rw [if_pos w0] at h ⊢; exact h
    rw [if_neg w0] at h ⊢
    by_cases w1 : w = 1
    · rw [if_pos w1] at h ⊢; exact h
    rw [if_neg w1] at h ⊢
    by_cases w2 : w = 2
    · rw [if_pos w2] at h ⊢; exact h
    rw [if_neg w2] at h ⊢
    exact h
  · rw [if_neg c1] at h
    rw [if_pos c1]
    exact h
set_option maxRecDepth 20000 in
theorem M_thingAs_key {d t : Nat} {k : Int} {μ : Mem} {α : Al} {Q : AV → Mem → Prop} (hv : vM μ α) (hw : wf α) (ht : t < α.1 0 1) (b : Bool) (v2 v3 : AV) (hb : sp_tasOk (α.1 2 t) k = b) (h : Q (xI (if sp_tasOk (α.1 2 t) k then sp_works α t (sp_at α t) ((α.1 5 t : Nat) : Int) else -4)) μ) : DW (d + 3) 152 55 [xR 61, xI (t : Int), v2, v3, xI (if b then 1 else 0)] μ Q := by
  have hT := wf_T hw
  have a1 := (sp_at_ok hw ht).1
  refine sg_M_thingAs_55 ?_
  cases b with
  | false => rw [hb] at h; exact h
  | true =>
    rw [hb] at h
    rw [if_neg (by decide)]
    refine M_whereIs_ok hv hw ht ?_
    refine gI_mk ?_
    simp (disch := omega) only [iw_50, iw_k3, wb_eq, Int.toNat_natCast, vM_word hv]
    refine M_works_ok hv hw ht a1 ?_
    rw [if_pos rfl] at h
    rcases sp_works01 α t (sp_at α t) ((α.1 5 t : Nat) : Int) with e | e <;> rw [e] at h ⊢ <;> simpa [gI] using h
set_option maxRecDepth 20000 in
theorem M_thingAs_ok {d : Nat} {t k : Int} {μ : Mem} {α : Al} {Q : AV → Mem → Prop} (hv : vM μ α) (hw : wf α) (h : Q (xI (r_thingAs α t k)) μ) : GM (d + 3) 152 [xR 61, xI t, xI k] μ Q := by
  have hT := wf_T hw
  refine ge_M_thingAs ?_
  unfold r_thingAs at h
  rw [vM_T hv, iw_m1 (by omega)]
  by_cases c0 : t < 0
  · rw [if_pos c0] at h ⊢; exact h
  rw [if_neg c0] at h ⊢
  by_cases c1 : t < ((α.1 0 1 : Nat) : Int)
  · rw [if_pos c1] at h
    rw [if_neg (by omega)]
    by_cases k0 : k < 0
    · rw [if_pos k0] at h ⊢; exact h
    rw [if_neg k0] at h ⊢
    by_cases k4 : 5 < k
    · rw [if_pos k4] at h ⊢; exact h
    rw [if_neg k4] at h ⊢
    obtain ⟨t, rfl⟩ := Int.eq_ofNat_of_zero_le (show 0 ≤ t by omega)
    rw [Int.toNat_natCast] at h
    have ht : t < α.1 0 1 := by omega
    have a1 := (sp_at_ok hw ht).1
    have key : ∀ (b : Bool) (v2 v3 : AV), sp_tasOk (α.1 2 t) k = b → DW (d + 3) 152 55 [xR 61, xI (t : Int), v2, v3, xI (if b then 1 else 0)] μ Q := fun b v2 v3 hb => M_thingAs_key hv hw ht b v2 v3 hb h
    have hk : μ 63 (iw (5 * (t : Int))).toNat = ((α.1 2 t : Nat) : Int) := by rw [iw_50 (by omega), Int.toNat_natCast]; exact vM_kind hv t ht
    generalize μ 63 (iw (5 * (t : Int))).toNat = kk at hk ⊢
    rw [wb_eq (by rw [iw_50 (by omega)]; omega) (by rw [iw_50 (by omega)]; omega)]
    refine wi (fun e0 => ?_) (fun e0 => ?_)
    · exact key true _ _ (by simp [sp_tasOk, e0])
    refine wi (fun e1 => ?_) (fun e1 => ?_)
    · refine wi (fun e3 => ?_) (fun e3 => ?_)
      · exact key true _ _ (by have : α.1 2 t = 0 := by omega
                               simp [sp_tasOk, e1, this])
      · exact key false _ _ (by have : α.1 2 t ≠ 0 := by omega
                                simp [sp_tasOk, e1, this])
    refine wi (fun e2 => ?_) (fun e2 => ?_)
    · refine wi (fun e3 => ?_) (fun e3 => ?_)
      · exact key true _ _ (by have : 0 < α.1 2 t := by omega
                               simp [sp_tasOk, e2, this])
      · exact key false _ _ (by have : α.1 2 t = 0 := by omega
                                simp [sp_tasOk, e2, this])
    refine wi (fun e5 => ?_) (fun e5 => ?_)
    · refine wi (fun e3 => ?_) (fun e3 => ?_)
      · exact key true _ _ (by have : α.1 2 t = 1 := by omega
                               simp [sp_tasOk, e5, this])
      · refine wi (fun e6 => ?_) (fun e6 => ?_)
        · exact key true _ _ (by have : α.1 2 t = 3 := by omega
                                 simp [sp_tasOk, e5, this])
        · exact key false _ _ (by have h1 : α.1 2 t ≠ 1 := by omega
                                  have h3 : α.1 2 t ≠ 3 := by omega
                                  simp [sp_tasOk, e5, h1, h3])
    refine wi (fun e7 => ?_) (fun e7 => ?_)
    · refine wi (fun e3 => ?_) (fun e3 => ?_)
      · exact key true _ _ (by have : α.1 2 t = 2 := by omega
                               simp [sp_tasOk, e7, this])
      · exact key false _ _ (by have : α.1 2 t ≠ 2 := by omega
                                simp [sp_tasOk, e7, this])
    refine wi (fun e3 => ?_) (fun e3 => ?_)
    · exact key true _ _ (by have : α.1 2 t = 3 := by omega
                             simp [sp_tasOk, e0, e1, e2, e5, e7, this])
    · exact key false _ _ (by have : α.1 2 t ≠ 3 := by omega
                              simp [sp_tasOk, e0, e1, e2, e5, e7, this])
  · rw [if_neg c1] at h
    rw [if_pos (by omega)]
    exact h
set_option maxRecDepth 20000 in
theorem M_may_ok {d : Nat} {n a b : Int} {μ : Mem} {α : Al} {Q : AV → Mem → Prop} (hv : vM μ α) (hw : wf α) (h : Q (xI (r_may α n a b)) μ) : GM (d + 4) 156 [xR 61, xI n, xI a, xI b] μ Q := by
  have hT := wf_T hw
  have hN := wf_N hw
  refine ge_M_may ?_
  unfold r_may at h
  simp (disch := omega) only [vM_T hv, vM_N hv, in_lo]
  by_cases c0 : n < 0
  · rw [if_pos c0] at h ⊢; exact h
  rw [if_neg c0] at h ⊢
  by_cases c1 : n < ((α.1 0 2 : Nat) : Int)
  · rw [if_pos c1] at h
    rw [if_neg (fun e => e c1)]
    by_cases a0 : a < 0
    · rw [if_pos a0] at h ⊢; exact h
    rw [if_neg a0] at h ⊢
    by_cases a1 : a < ((α.1 0 1 : Nat) : Int)
    · rw [if_pos a1] at h
      rw [if_neg (fun e => e a1)]
      by_cases b0 : b < 0
      · rw [if_pos b0] at h ⊢; exact h
      rw [if_neg b0] at h ⊢
      by_cases b1 : b < ((α.1 0 1 : Nat) : Int)
      · rw [if_pos b1] at h
        rw [if_neg (fun e => e b1)]
        by_cases ab : a = b
        · rw [if_pos ab] at h ⊢; exact h
        rw [if_neg ab] at h ⊢
        obtain ⟨n, rfl⟩ := Int.eq_ofNat_of_zero_le (show 0 ≤ n by omega)
        obtain ⟨a, rfl⟩ := Int.eq_ofNat_of_zero_le (show 0 ≤ a by omega)
        obtain ⟨b, rfl⟩ := Int.eq_ofNat_of_zero_le (show 0 ≤ b by omega)
        simp only [Int.toNat_natCast] at h
        refine M_mayBe_ok hv hw (by omega) (by omega) (by omega) ?_
        have hne : a ≠ b := fun e => ab (by rw [e])
        by_cases c : sp_may α n a b = true <;> simp [c, hne, gI] at h ⊢ <;> exact h
      · rw [if_neg b1] at h
        rw [if_pos b1]; exact h
    · rw [if_neg a1] at h
      rw [if_pos a1]; exact h
  · rw [if_neg c1] at h
    rw [if_pos c1]
    exact h
set_option maxRecDepth 20000 in
theorem M_show_ok {d : Nat} {p : Int} {μ : Mem} {α : Al} {Q : AV → Mem → Prop} (hv : vM μ α) (hw : wf α) (h : Q (xI (r_show α p)) μ) : GM (d + 3) 165 [xR 61, xI p] μ Q := by
  have hT := wf_T hw
  have hP := wf_P hw
  refine ge_M_show ?_
  unfold r_show at h
  simp (disch := omega) only [vM_P hv, in_lo]
  by_cases c0 : p < 0
  · rw [if_pos c0] at h ⊢; exact h
  rw [if_neg c0] at h ⊢
  by_cases c1 : p < ((α.1 0 0 : Nat) : Int)
  · rw [if_pos c1] at h
    rw [if_neg (fun e => e c1)]
    obtain ⟨p, rfl⟩ := Int.eq_ofNat_of_zero_le (show 0 ≤ p by omega)
    rw [Int.toNat_natCast] at h
    generalize hf : (fun q => α.1 4 q == p && decide (sp_works α (α.1 9 q) q ((α.1 5 q : Nat) : Int) = 1)) = f at h
    have hfq : ∀ q, f q = (α.1 4 q == p && decide (sp_works α (α.1 9 q) q ((α.1 5 q : Nat) : Int) = 1)) := fun q => by rw [← hf]
    have key : ∀ n q, q + n = α.1 0 1 → DW (d + 3) 165 10 [xR 61, xI (p : Int), xI ((sp_cnt f q : Nat) : Int), xI (q : Int)] μ Q := by
      intro n
      induction n with
      | zero =>
        intro q hq
        refine sg_M_show_10 ?_
        simp (disch := omega) only [vM_T hv, ii_lt]
        rw [if_neg (by omega), show q = α.1 0 1 by omega]
        exact h
      | succ n ih =>
        intro q hq
        have hb := sp_cnt_le f q
        have hl := (wf_lie hw q (by omega)).1
        have hi := ih (q + 1) (by omega)
        rw [sp_cnt, hfq] at hi
        refine sg_M_show_10 ?_
        simp (disch := omega) only [vM_T hv, ii_lt, iw_50, iw_k2, iw_k3, wb_eq, Int.toNat_natCast, vM_keep hv, vM_lie hv, vM_word hv, ii_eq, iw_k1, iw_n0]
        rw [if_pos (by omega)]
        by_cases c : α.1 4 q = p
        · rw [if_pos c]
          refine M_works_ok hv hw hl (by omega) ?_
          rcases sp_works01 α (α.1 9 q) q ((α.1 5 q : Nat) : Int) with e | e <;> rw [e] at hi ⊢ <;> simpa [gI, c] using hi
        · rw [if_neg c]
          simpa [c] using hi
    exact key (α.1 0 1) 0 (by omega)
  · rw [if_neg c1] at h
    rw [if_pos c1]
    exact h
end
section
/-! rings -/
def rg_go (lie : Nat → Nat) : Nat → Nat → Nat → Nat
  | 0, met, _ => met
  | n + 1, met, q => if met.testBit q then met else rg_go lie n (met ||| 2 ^ q) (lie q)
def rg_all (lie : Nat → Nat) (T : Nat) : Nat → Nat × Nat
  | 0 => (0, 0)
  | p + 1 => ((rg_all lie T p).1 + (if (rg_all lie T p).2.testBit p then 0 else 1), rg_go lie T (rg_all lie T p).2 p)
def r_rings (α : Al) : Int := ((rg_all (α.1 9) (α.1 0 1) (α.1 0 1)).1 : Nat)
theorem rg_go_lt {lie : Nat → Nat} {T : Nat} (hT : T ≤ 6) (hl : ∀ i, i < T → lie i < T) : ∀ n met q, met < 64 → q < T → rg_go lie n met q < 64
  | 0, met, q, h, _ => h
  | n + 1, met, q, h, hq => by
    rw [rg_go]
    split
    · exact h
    · have h2 : (2 : Nat) ^ q < 2 ^ 6 := Nat.pow_lt_pow_right (by decide) (by omega)
      exact rg_go_lt hT hl n _ _ (Nat.or_lt_two_pow (n := 6) h h2) (hl q hq)
theorem rg_all_lt {lie : Nat → Nat} {T : Nat} (hT : T ≤ 6) (hl : ∀ i, i < T → lie i < T) : ∀ p, p ≤ T → (rg_all lie T p).2 < 64 ∧ (rg_all lie T p).1 ≤ p
  | 0, _ => ⟨(show (0 : Nat) < 64 by decide), Nat.le_refl 0⟩
  | p + 1, h => by
    obtain ⟨h1, h2⟩ := rg_all_lt hT hl p (by omega)
    refine ⟨rg_go_lt hT hl T _ _ h1 (by omega), ?_⟩
    rw [rg_all]
    dsimp only
    split <;> omega
/-- how many of the first T bits are not set -/
def rg_un (met : Nat) (T : Nat) : Nat := sp_cnt (fun i => !met.testBit i) T
theorem sp_cnt_upd {f g : Nat → Bool} {q : Nat} (hf : f q = true) (hg : g q = false) (ho : ∀ i, i ≠ q → f i = g i) : ∀ T, q < T → sp_cnt g T + 1 = sp_cnt f T := by
  intro T
  induction T with
  | zero => intro h; omega
  | succ T ih =>
    intro h
    rw [sp_cnt, sp_cnt]
    rcases Nat.lt_or_ge q T with c | c
    · have := ih c
      rw [ho T (by omega)]
      split <;> omega
    · have e : q = T := by omega
      subst e
      have hs : ∀ n, n ≤ q → sp_cnt g n = sp_cnt f n := by
        intro n
        induction n with
        | zero => intro _; rfl
        | succ n ihn => intro hn; rw [sp_cnt, sp_cnt, ihn (by omega), ho n (by omega)]
      rw [hs q (Nat.le_refl q), hf, hg]
      rfl
theorem sp_cnt_pos {f : Nat → Bool} {q : Nat} (hf : f q = true) : ∀ T, q < T → 0 < sp_cnt f T := by
  intro T
  induction T with
  | zero => intro h; omega
  | succ T ih =>
    intro h
    rw [sp_cnt]
    rcases Nat.lt_or_ge q T with c | c
    · have := ih c; omega
    · have e : q = T := by omega
      subst e
      rw [hf]
      simp
theorem rg_un_step {met T q : Nat} (hq : q < T) (h : met.testBit q = false) : rg_un (met ||| 2 ^ q) T + 1 = rg_un met T := by
  unfold rg_un
  refine sp_cnt_upd (q := q) (by simp [h]) ?_ ?_ T hq
  · rw [Nat.testBit_or, Nat.testBit_two_pow_self]; simp
  · intro i hi
    rw [Nat.testBit_or, Nat.testBit_two_pow_of_ne (fun e => hi e.symm)]
    simp
set_option maxRecDepth 20000 in
theorem M_rings_ok {d : Nat} {μ : Mem} {α : Al} {Q : AV → Mem → Prop} (hv : vM μ α) (hw : wf α) (h : Q (xI (r_rings α)) μ) : GM (d + 1) 163 [xR 61] μ Q := by
  have hT := wf_T hw
  have hl : ∀ i, i < α.1 0 1 → α.1 9 i < α.1 0 1 := fun i hi => (wf_lie hw i hi).1
  refine ge_M_rings ?_
  have inner : ∀ (p c : Nat) (K : ∀ (m : Nat) (v4 : AV), m = m → True) (u met q : Nat), rg_un met (α.1 0 1) ≤ u → met < 64 → q < α.1 0 1 → (∀ v4 : AV, DW (d + 1) 163 40 [xR 61, xI ((rg_go (α.1 9) u met q : Nat) : Int), xI (c : Int), xI (p : Int), v4] μ Q) → DW (d + 1) 163 23 [xR 61, xI (met : Int), xI (c : Int), xI (p : Int), xI (q : Int)] μ Q := by
    intro p c _ u
    induction u with
    | zero =>
      intro met q hu hm hq hx
      refine sg_M_rings_23 ?_
      have hb : met.testBit q = true := by
        cases e : met.testBit q with
        | true => rfl
        | false =>
          have := sp_cnt_pos (f := fun i => !met.testBit i) (q := q) (by simp [e]) (α.1 0 1) hq
          unfold rg_un at hu
          omega
      rw [if_pos (by rw [sp_bit1 (by omega) (by omega)]; exact hb)]
      exact hx _
    | succ u ih =>
      intro met q hu hm hq hx
      refine sg_M_rings_23 ?_
      rw [rg_go] at hx
      cases e : met.testBit q with
      | true =>
        rw [if_pos (by rw [sp_bit1 (by omega) (by omega)]; exact e)]
        rw [e, if_pos rfl] at hx
        exact hx _
      | false =>
        have h2 : (2 : Nat) ^ q < 2 ^ 6 := Nat.pow_lt_pow_right (by decide) (by omega)
        rw [if_neg (by rw [sp_bit1 (by omega) (by omega), e]; decide)]
        rw [e, if_neg (by decide)] at hx
        simp (disch := omega) only [wb_eq, Int.toNat_natCast, vM_lie hv, sp_one, xior_nat]
        have := rg_un_step hq e
        exact ih _ _ (by omega) (Nat.or_lt_two_pow (n := 6) hm h2) (hl q hq) hx
  have outer : ∀ n p, p + n = α.1 0 1 → ∀ v4 : AV, DW (d + 1) 163 6 [xR 61, xI (((rg_all (α.1 9) (α.1 0 1) p).2 : Nat) : Int), xI (((rg_all (α.1 9) (α.1 0 1) p).1 : Nat) : Int), xI (p : Int), v4] μ Q := by
    intro n
    induction n with
    | zero =>
      intro p hp v4
      refine sg_M_rings_6 ?_
      rw [vM_T hv, if_neg (by omega), show p = α.1 0 1 by omega]
      exact h
    | succ n ih =>
      intro p hp v4
      obtain ⟨g1, g2⟩ := rg_all_lt hT hl p (by omega)
      have hun : rg_un (rg_all (α.1 9) (α.1 0 1) p).2 (α.1 0 1) ≤ α.1 0 1 := sp_cnt_le _ _
      refine sg_M_rings_6 ?_
      rw [vM_T hv, if_pos (by omega)]
      have hi := ih (p + 1) (by omega)
      rw [rg_all] at hi
      dsimp only at hi
      refine wi (fun e => ?_) (fun e => ?_)
      · rw [sp_bit1 (by omega) (by omega)] at e
        rw [e, if_pos rfl] at hi
        rw [iw_n0 (by omega)]
        refine inner p _ (fun _ _ _ => trivial) (α.1 0 1) _ p hun g1 (by omega) (fun v4 => ?_)
        refine sg_M_rings_40 ?_
        rw [iw_k1 (by omega)]
        exact hi _
      · rw [sp_bit1 (by omega) (by omega)] at e
        rw [if_neg e] at hi
        rw [iw_k1 (by omega)]
        refine inner p _ (fun _ _ _ => trivial) (α.1 0 1) _ p hun g1 (by omega) (fun v4 => ?_)
        refine sg_M_rings_40 ?_
        rw [iw_k1 (by omega)]
        exact hi _
  exact outer (α.1 0 1) 0 (by omega) _
end
section
/-! the class's small methods -/
set_option maxRecDepth 20000 in
theorem X_works_ok {d t p : Nat} {w : Int} {μ : Mem} {α : Al} {Q : AV → Mem → Prop} (hv : vX μ α) (hw : wf α) (ht : t < α.1 0 1) (hp : p < α.1 0 1) (h : Q (xI (sp_works α t p w)) μ) : GM (d + 1) 52 [xR 3, xI (t : Int), xI (p : Int), xI w] μ Q := by
  have hT := wf_T hw
  have h1 := wf_kind hw t ht
  have h2 := wf_keep hw p hp
  have h3 := wf_P hw
  refine ge_Now_works ?_
  simp (disch := omega) only [wb_eq, Int.toNat_natCast, vX_kind hv, vX_word hv, vX_keep hv, vX_pow hv, vX_one hv, ii_eq, ii_0, ii_1, ii_2, ii_3, ii_p]
  unfold sp_works at h
  by_cases c0 : ((α.1 5 t : Nat) : Int) = w
  · rw [if_pos c0] at h ⊢
    rcases (show α.1 2 t = 0 ∨ α.1 2 t = 1 ∨ α.1 2 t = 2 ∨ α.1 2 t = 3 by omega) with e | e | e | e <;> simp only [e] at h ⊢ <;> simp at h ⊢
    · exact h
    · exact h
    · split <;> simp_all
    · split
      · simp_all
      · split <;> simp_all
  · rw [if_neg c0] at h ⊢
    exact h
set_option maxRecDepth 20000 in
theorem X_isOpen_ok {d n p : Nat} {μ : Mem} {α : Al} {Q : AV → Mem → Prop} (hv : vX μ α) (hw : wf α) (hn : n < α.1 0 2) (hp : p < α.1 0 1) (h : Q (xI (if sp_open α n p then 1 else 0)) μ) : GM (d + 1) 58 [xR 2, xI (n : Int), xI (p : Int)] μ Q := by
  have hT := wf_T hw
  have hN := wf_N hw
  have h2 := wf_keep hw p hp
  have h3 := wf_P hw
  have h4 := wf_night hw n hn
  refine ge_Told_isOpen ?_
  simp (disch := omega) only [wb_eq, Int.toNat_natCast, vX_keep hv, vX_one hv, vX_night hv, ii_eq, ii_0, ii_1, ii_2, ii_3, ii_p, sp_bit1]
  unfold sp_open at h
  by_cases c0 : α.1 1 (α.1 4 p) = 3
  · simp [c0] at h ⊢; exact h
  · by_cases c1 : (α.1 7 n).testBit (α.1 4 p) = true
    · by_cases c2 : α.1 1 (α.1 4 p) = 1 <;> simp [c0, c1, c2] at h ⊢ <;> exact h
    · simp [c0, c1] at h ⊢; exact h
set_option maxRecDepth 20000 in
theorem X_allows_ok {d n a b : Nat} {μ : Mem} {α : Al} {Q : AV → Mem → Prop} (hv : vX μ α) (hw : wf α) (hn : n < α.1 0 2) (ha : a < α.1 0 1) (hb : b < α.1 0 1) (h : Q (xI (if sp_may α n a b then 1 else 0)) μ) : GM (d + 2) 57 [xR 2, xI (n : Int), xI (a : Int), xI (b : Int)] μ Q := by
  have hT := wf_T hw
  refine ge_Told_allows ?_
  simp (disch := omega) only [wb_eq, Int.toNat_natCast, vX_look hv, ii_eq]
  unfold sp_may at h
  by_cases c1 : α.1 3 a = α.1 3 b
  · rw [if_pos c1]
    refine X_isOpen_ok hv hw hn ha ?_
    refine gI_mk ?_
    by_cases c2 : sp_open α n a = true
    · rw [if_pos c2, if_neg (by decide)]
      refine X_isOpen_ok hv hw hn hb ?_
      refine gI_mk ?_
      by_cases c3 : sp_open α n b = true <;> simp [c1, c2, c3] at h ⊢ <;> exact h
    · rw [if_neg c2, if_pos rfl]
      simp [c1, c2] at h
      exact h
  · rw [if_neg c1]
    simp [c1] at h
    exact h
set_option maxRecDepth 20000 in
theorem X_placeOf_ok {d t : Nat} {μ : Mem} {α : Al} {Q : AV → Mem → Prop} (hv : vX μ α) (hw : wf α) (ht : t < α.1 0 1) (h : Q (xI ((sp_at α t : Nat) : Int)) μ) : GM d 50 [xR 3, xI (t : Int)] μ Q := by
  have hT := wf_T hw
  obtain ⟨a1, a2, a3⟩ := sp_at_ok hw ht
  refine ge_Now_placeOf ?_
  have key : ∀ n q, q + n = sp_at α t → DW d 50 2 [xR 3, xI (t : Int), xI (q : Int)] μ Q := by
    intro n
    induction n with
    | zero =>
      intro q hq
      refine sg_Now_placeOf_2 ?_
      simp (disch := omega) only [vX_T hv, ii_lt, wb_eq, Int.toNat_natCast, vX_lie hv, ii_eq]
      rw [if_pos (by omega), if_pos (by rw [show q = sp_at α t by omega]; exact a2), show q = sp_at α t by omega]
      exact h
    | succ n ih =>
      intro q hq
      refine sg_Now_placeOf_2 ?_
      simp (disch := omega) only [vX_T hv, ii_lt, wb_eq, Int.toNat_natCast, vX_lie hv, ii_eq, iw_k1]
      rw [if_pos (by omega), if_neg (fun e => by have := a3 q (by omega) e; omega)]
      exact ih (q + 1) (by omega)
  exact key (sp_at α t) 0 (by omega)
set_option maxRecDepth 20000 in
theorem X_placesOf_ok {d p : Nat} {μ : Mem} {α : Al} {Q : AV → Mem → Prop} (hv : vX μ α) (hw : wf α) (h : Q (xI ((sp_bits (fun q => α.1 4 q == p) (α.1 0 1) : Nat) : Int)) μ) : GM d 43 [xR 2, xI (p : Int)] μ Q := by
  have hT := wf_T hw
  refine ge_Told_placesOf ?_
  have key : ∀ n q, q + n = α.1 0 1 → DW d 43 4 [xR 2, xI (p : Int), xI ((sp_bits (fun q => α.1 4 q == p) q : Nat) : Int), xI (q : Int)] μ Q := by
    intro n
    induction n with
    | zero =>
      intro q hq
      refine sg_Told_placesOf_4 ?_
      rw [vX_T hv, if_neg (by omega), show q = α.1 0 1 by omega]
      exact h
    | succ n ih =>
      intro q hq
      refine sg_Told_placesOf_4 ?_
      simp (disch := omega) only [vX_T hv, ii_lt, wb_eq, Int.toNat_natCast, vX_keep hv, ii_eq, iw_k1]
      rw [if_pos (by omega)]
      by_cases c : α.1 4 q = p
      · rw [if_pos c, sp_bits_or (by omega) (by simp [c])]
        exact ih (q + 1) (by omega)
      · rw [if_neg c, ← sp_bits_no (n := q) (by simp [c])]
        exact ih (q + 1) (by omega)
  exact key (α.1 0 1) 0 (by omega)
set_option maxRecDepth 20000 in
theorem X_nightsOf_ok {d p : Nat} {μ : Mem} {α : Al} {Q : AV → Mem → Prop} (hv : vX μ α) (hw : wf α) (hp : p < α.1 0 0) (h : Q (xI ((sp_bits (fun n => α.1 1 p == 3 || (α.1 7 n).testBit p) (α.1 0 2) : Nat) : Int)) μ) : GM (d + 1) 44 [xR 2, xI (p : Int)] μ Q := by
  have hN := wf_N hw
  have hP := wf_P hw
  refine ge_Told_nightsOf ?_
  generalize hf : (fun n => α.1 1 p == 3 || (α.1 7 n).testBit p) = f at h
  have key : ∀ n q, q + n = α.1 0 2 → DW (d + 1) 44 4 [xR 2, xI (p : Int), xI ((sp_bits f q : Nat) : Int), xI (q : Int)] μ Q := by
    intro n
    induction n with
    | zero =>
      intro q hq
      refine sg_Told_nightsOf_4 ?_
      rw [vX_N hv, if_neg (by omega), show q = α.1 0 2 by omega]
      exact h
    | succ n ih =>
      intro q hq
      have h4 := wf_night hw q (by omega)
      refine sg_Told_nightsOf_4 ?_
      simp (disch := omega) only [vX_N hv, ii_lt, wb_eq, Int.toNat_natCast, vX_one hv, vX_night hv, ii_3, sp_bit1, iw_k1]
      rw [if_pos (by omega)]
      have hfq : f q = (α.1 1 p == 3 || (α.1 7 q).testBit p) := by rw [← hf]
      by_cases c0 : α.1 1 p = 3
      · rw [if_pos c0, sp_bits_or (by omega) (by rw [hfq]; simp [c0])]
        exact ih (q + 1) (by omega)
      · rw [if_neg c0]
        by_cases c1 : (α.1 7 q).testBit p = true
        · rw [if_pos c1, sp_bits_or (by omega) (by rw [hfq]; simp [c1])]
          exact ih (q + 1) (by omega)
        · rw [if_neg c1, ← sp_bits_no (f := f) (n := q) (by rw [hfq]; simp [c0, c1])]
          exact ih (q + 1) (by omega)
  exact key (α.1 0 2) 0 (by omega)
set_option maxRecDepth 20000 in
theorem X_one_ok {d : Nat} {p w : Int} {μ : Mem} {α : Al} {Q : AV → Mem → Prop} (hv : vX μ α) (hw : wf α) (h : Q (xI (r_one α p w)) μ) : GM (d + 2) 41 [xR 0, xI p, xI w] μ Q := by
  have hT := wf_T hw
  have hP := wf_P hw
  refine ge_X_one ?_
  unfold r_one at h
  rw [vX_P hv]
  by_cases c0 : p < 0
  · rw [if_pos c0] at h ⊢; exact h
  rw [if_neg c0] at h ⊢
  by_cases c1 : p < ((α.1 0 0 : Nat) : Int)
  · rw [if_pos c1] at h ⊢
    obtain ⟨p, rfl⟩ := Int.eq_ofNat_of_zero_le (show 0 ≤ p by omega)
    rw [Int.toNat_natCast] at h
    have hp : p < α.1 0 0 := by omega
    have hk := wf_Kn hw
    simp (disch := omega) only [wb_eq, Int.toNat_natCast, vX_one hv, vX_Kn hv, sp_bit]
    by_cases w0 : w = 0
    · rw [if_pos w0] at h ⊢; exact h
    rw [if_neg w0] at h ⊢
    by_cases w1 : w = 1
    · rw [if_pos w1] at h ⊢
      exact X_placesOf_ok hv hw h
    rw [if_neg w1] at h ⊢
    by_cases w2 : w = 2
    · rw [if_pos w2] at h ⊢; exact h
    rw [if_neg w2] at h ⊢
    by_cases w3 : w = 3
    · rw [if_pos w3] at h ⊢
      exact X_nightsOf_ok hv hw hp h
    rw [if_neg w3] at h ⊢
    exact h
  · rw [if_neg c1] at h ⊢
    exact h
set_option maxRecDepth 20000 in
theorem X_ownWith_ok {d p : Nat} {μ : Mem} {α : Al} {Q : AV → Mem → Prop} (hv : vX μ α) (hw : wf α) (h : Q (xI ((sp_own α p : Nat) : Int)) μ) : GM d 48 [xR 3, xI (p : Int)] μ Q := by
  have hT := wf_T hw
  refine ge_Now_ownWith ?_
  unfold sp_own at h
  have key : ∀ n q, q + n = α.1 0 1 → DW d 48 4 [xR 3, xI (p : Int), xI ((sp_cnt (fun q => α.1 4 q == p && α.1 4 (α.1 9 q) == p) q : Nat) : Int), xI (q : Int)] μ Q := by
    intro n
    induction n with
    | zero =>
      intro q hq
      refine sg_Now_ownWith_4 ?_
      rw [vX_T hv, if_neg (by omega), show q = α.1 0 1 by omega]
      exact h
    | succ n ih =>
      intro q hq
      have hb := sp_cnt_le (fun q => α.1 4 q == p && α.1 4 (α.1 9 q) == p) q
      have hl := (wf_lie hw q (by omega)).1
      refine sg_Now_ownWith_4 ?_
      simp (disch := omega) only [vX_T hv, ii_lt, wb_eq, Int.toNat_natCast, vX_keep hv, vX_lie hv, ii_eq, iw_k1]
      rw [if_pos (by omega)]
      have hi := ih (q + 1) (by omega)
      rw [sp_cnt] at hi
      by_cases c : α.1 4 q = p
      · rw [if_pos c]
        by_cases c2 : α.1 4 (α.1 9 q) = p
        · rw [if_pos c2]
          simpa [c, c2] using hi
        · rw [if_neg c2]
          simpa [c, c2] using hi
      · rw [if_neg c]
        simpa [c] using hi
  exact key (α.1 0 1) 0 (by omega)
end
section
/-! kinds over one another -/
theorem isU0_step {d ax step : Nat} {k : Int} {v1 : AV} {μ : Mem} {Q : AV → Mem → Prop} (h1 : ax < 5) (h2 : step < 5) (h : if (ax : Int) = k then Q (xI 1) μ else DW d 47 4 [xR 140, v1, xI k, xI (([-1, 0, 1, 1, 0] : List Int).getD ax 0), xI ((step + 1 : Nat) : Int)] μ Q) : DW d 47 4 [xR 140, v1, xI k, xI (ax : Int), xI (step : Int)] μ Q := by
  refine sg_X_isUnder_140_4 ?_
  rw [if_pos (by omega), if_neg (by omega), if_pos (by omega), iw_k1 (by omega), Int.toNat_natCast, wb_eq (by omega) (by omega)]
  exact h
theorem isU0_end {d step : Nat} {k : Int} {v1 : AV} {μ : Mem} {Q : AV → Mem → Prop} (h2 : step < 5) (h : Q (xI 0) μ) : DW d 47 4 [xR 140, v1, xI k, xI (-1), xI (step : Int)] μ Q := by
  refine sg_X_isUnder_140_4 ?_
  rw [if_pos (by omega), if_pos (by omega)]
  exact h
theorem isU1_step {d ax step : Nat} {k : Int} {v1 : AV} {μ : Mem} {Q : AV → Mem → Prop} (h1 : ax < 6) (h2 : step < 6) (h : if (ax : Int) = k then Q (xI 1) μ else DW d 47 4 [xR 141, v1, xI k, xI (([-1, 0, 0, 2, 2, 3] : List Int).getD ax 0), xI ((step + 1 : Nat) : Int)] μ Q) : DW d 47 4 [xR 141, v1, xI k, xI (ax : Int), xI (step : Int)] μ Q := by
  refine sg_X_isUnder_141_4 ?_
  rw [if_pos (by omega), if_neg (by omega), if_pos (by omega), iw_k1 (by omega), Int.toNat_natCast, wb_eq (by omega) (by omega)]
  exact h
theorem isU1_end {d step : Nat} {k : Int} {v1 : AV} {μ : Mem} {Q : AV → Mem → Prop} (h2 : step < 6) (h : Q (xI 0) μ) : DW d 47 4 [xR 141, v1, xI k, xI (-1), xI (step : Int)] μ Q := by
  refine sg_X_isUnder_141_4 ?_
  rw [if_pos (by omega), if_pos (by omega)]
  exact h
set_option maxRecDepth 20000 in
theorem X_isU0_ok {d kd : Nat} {k : Int} {μ : Mem} {Q : AV → Mem → Prop} (hk : kd < 4) (h : Q (xI (if sp_asOk kd k then 1 else 0)) μ) : GM d 47 [xR 140, xI ((kd + 1 : Nat) : Int), xI k] μ Q := by
  refine ge_X_isUnder_140 ?_
  refine isU0_step (ax := kd + 1) (step := 0) (by omega) (by decide) ?_
  rcases (show kd = 0 ∨ kd = 1 ∨ kd = 2 ∨ kd = 3 by omega) with rfl | rfl | rfl | rfl
  · refine wi (fun e => ?_) (fun e => ?_)
    · simpa [sp_asOk, ← e] using h
    refine isU0_step (ax := 0) (step := 1) (by decide) (by decide) (wi (fun e2 => ?_) (fun e2 => ?_))
    · simpa [sp_asOk, ← e2] using h
    refine isU0_end (step := 2) (by decide) ?_
    have : sp_asOk 0 k = false := by simp [sp_asOk]; omega
    simpa [this] using h
  · refine wi (fun e => ?_) (fun e => ?_)
    · simpa [sp_asOk, ← e] using h
    refine isU0_step (ax := 1) (step := 1) (by decide) (by decide) (wi (fun e2 => ?_) (fun e2 => ?_))
    · simpa [sp_asOk, ← e2] using h
    refine isU0_step (ax := 0) (step := 2) (by decide) (by decide) (wi (fun e3 => ?_) (fun e3 => ?_))
    · simpa [sp_asOk, ← e3] using h
    refine isU0_end (step := 3) (by decide) ?_
    have : sp_asOk 1 k = false := by simp [sp_asOk]; omega
    simpa [this] using h
  · refine wi (fun e => ?_) (fun e => ?_)
    · simpa [sp_asOk, ← e] using h
    refine isU0_step (ax := 1) (step := 1) (by decide) (by decide) (wi (fun e2 => ?_) (fun e2 => ?_))
    · simpa [sp_asOk, ← e2] using h
    refine isU0_step (ax := 0) (step := 2) (by decide) (by decide) (wi (fun e3 => ?_) (fun e3 => ?_))
    · simpa [sp_asOk, ← e3] using h
    refine isU0_end (step := 3) (by decide) ?_
    have : sp_asOk 2 k = false := by simp [sp_asOk]; omega
    simpa [this] using h
  · refine wi (fun e => ?_) (fun e => ?_)
    · simpa [sp_asOk, ← e] using h
    refine isU0_step (ax := 0) (step := 1) (by decide) (by decide) (wi (fun e2 => ?_) (fun e2 => ?_))
    · simpa [sp_asOk, ← e2] using h
    refine isU0_end (step := 2) (by decide) ?_
    have : sp_asOk 3 k = false := by simp [sp_asOk]; omega
    simpa [this] using h
set_option maxRecDepth 20000 in
theorem X_isU1_ok {d kd : Nat} {k : Int} {μ : Mem} {Q : AV → Mem → Prop} (hk : kd < 4) (h0 : 0 ≤ k) (h5 : k < 6) (h : Q (xI (if sp_tasOk kd k then 1 else 0)) μ) : GM d 47 [xR 141, xI (([1, 3, 4, 5] : List Int).getD kd 0), xI k] μ Q := by
  obtain ⟨k, rfl⟩ := Int.eq_ofNat_of_zero_le h0
  have hk6 : k < 6 := by omega
  have fin : ∀ (b : Bool), sp_tasOk kd (k : Int) = b → Q (xI (if b then 1 else 0)) μ := fun b hb => by rw [← hb]; exact h
  refine ge_X_isUnder_141 ?_
  rcases (show kd = 0 ∨ kd = 1 ∨ kd = 2 ∨ kd = 3 by omega) with rfl | rfl | rfl | rfl
  · refine isU1_step (ax := 1) (step := 0) (by decide) (by decide) (wi (fun e => ?_) (fun e => ?_))
    · exact fin true (by simp [sp_tasOk, ← e])
    refine isU1_step (ax := 0) (step := 1) (by decide) (by decide) (wi (fun e2 => ?_) (fun e2 => ?_))
    · exact fin true (by simp [sp_tasOk, ← e2])
    refine isU1_end (step := 2) (by decide) ?_
    exact fin false (by
      rcases (show k = 2 ∨ k = 3 ∨ k = 4 ∨ k = 5 by omega) with rfl | rfl | rfl | rfl <;> decide)
  · refine isU1_step (ax := 3) (step := 0) (by decide) (by decide) (wi (fun e => ?_) (fun e => ?_))
    · exact fin true (by simp [sp_tasOk, ← e])
    refine isU1_step (ax := 2) (step := 1) (by decide) (by decide) (wi (fun e2 => ?_) (fun e2 => ?_))
    · exact fin true (by simp [sp_tasOk, ← e2])
    refine isU1_step (ax := 0) (step := 2) (by decide) (by decide) (wi (fun e3 => ?_) (fun e3 => ?_))
    · exact fin true (by simp [sp_tasOk, ← e3])
    refine isU1_end (step := 3) (by decide) ?_
    exact fin false (by
      rcases (show k = 1 ∨ k = 4 ∨ k = 5 by omega) with rfl | rfl | rfl <;> decide)
  · refine isU1_step (ax := 4) (step := 0) (by decide) (by decide) (wi (fun e => ?_) (fun e => ?_))
    · exact fin true (by simp [sp_tasOk, ← e])
    refine isU1_step (ax := 2) (step := 1) (by decide) (by decide) (wi (fun e2 => ?_) (fun e2 => ?_))
    · exact fin true (by simp [sp_tasOk, ← e2])
    refine isU1_step (ax := 0) (step := 2) (by decide) (by decide) (wi (fun e3 => ?_) (fun e3 => ?_))
    · exact fin true (by simp [sp_tasOk, ← e3])
    refine isU1_end (step := 3) (by decide) ?_
    exact fin false (by
      rcases (show k = 1 ∨ k = 3 ∨ k = 5 by omega) with rfl | rfl | rfl <;> decide)
  · refine isU1_step (ax := 5) (step := 0) (by decide) (by decide) (wi (fun e => ?_) (fun e => ?_))
    · exact fin true (by simp [sp_tasOk, ← e])
    refine isU1_step (ax := 3) (step := 1) (by decide) (by decide) (wi (fun e2 => ?_) (fun e2 => ?_))
    · exact fin true (by simp [sp_tasOk, ← e2])
    refine isU1_step (ax := 2) (step := 2) (by decide) (by decide) (wi (fun e3 => ?_) (fun e3 => ?_))
    · exact fin true (by simp [sp_tasOk, ← e3])
    refine isU1_step (ax := 0) (step := 3) (by decide) (by decide) (wi (fun e4 => ?_) (fun e4 => ?_))
    · exact fin true (by simp [sp_tasOk, ← e4])
    refine isU1_end (step := 4) (by decide) ?_
    exact fin false (by
      rcases (show k = 1 ∨ k = 4 by omega) with rfl | rfl <;> decide)
set_option maxRecDepth 20000 in
theorem X_as_ok {d : Nat} {p k : Int} {μ : Mem} {α : Al} {Q : AV → Mem → Prop} (hv : vX μ α) (hw : wf α) (h : Q (xI (r_as α p k)) μ) : GM (d + 1) 46 [xR 0, xI p, xI k] μ Q := by
  have hP := wf_P hw
  refine ge_X_as ?_
  unfold r_as at h
  rw [vX_P hv]
  by_cases c0 : p < 0
  · rw [if_pos c0] at h ⊢; exact h
  rw [if_neg c0] at h ⊢
  by_cases c1 : p < ((α.1 0 0 : Nat) : Int)
  · rw [if_pos c1] at h ⊢
    by_cases k0 : k < 0
    · rw [if_pos k0] at h ⊢; exact h
    rw [if_neg k0] at h ⊢
    by_cases k4 : 4 < k
    · rw [if_pos k4] at h
      rw [if_neg (by omega)]; exact h
    rw [if_neg k4] at h
    rw [if_pos (by omega)]
    obtain ⟨p, rfl⟩ := Int.eq_ofNat_of_zero_le (show 0 ≤ p by omega)
    rw [Int.toNat_natCast] at h
    have hp : p < α.1 0 0 := by omega
    have hk := wf_one hw p hp
    rw [wb_eq (by omega) (by omega), Int.toNat_natCast, vX_one hv p hp, iw_k1 (by omega)]
    refine X_isU0_ok hk ?_
    refine gI_mk ?_
    by_cases c : sp_asOk (α.1 1 p) k = true
    · rw [if_pos c] at h ⊢
      rw [if_neg (by decide)]
      exact X_ownWith_ok hv hw h
    · rw [if_neg c] at h ⊢
      rw [if_pos rfl]
      exact h
  · rw [if_neg c1] at h ⊢
    exact h
set_option maxRecDepth 20000 in
theorem X_thing_ok {d : Nat} {t w : Int} {μ : Mem} {α : Al} {Q : AV → Mem → Prop} (hv : vX μ α) (hw : wf α) (h : Q (xI (r_thing α t w)) μ) : GM (d + 1) 49 [xR 0, xI t, xI w] μ Q := by
  have hT := wf_T hw
  refine ge_X_thing ?_
  unfold r_thing at h
  rw [vX_T hv]
  by_cases c0 : t < 0
  · rw [if_pos c0] at h ⊢; exact h
  rw [if_neg c0] at h ⊢
  by_cases c1 : t < ((α.1 0 1 : Nat) : Int)
  · rw [if_pos c1] at h ⊢
    obtain ⟨t, rfl⟩ := Int.eq_ofNat_of_zero_le (show 0 ≤ t by omega)
    rw [Int.toNat_natCast] at h
    have ht : t < α.1 0 1 := by omega
    simp (disch := omega) only [wb_eq, Int.toNat_natCast, vX_kind hv, vX_look hv, vX_word hv, vX_pow hv, vX_wk hv]
    by_cases w0 : w = 0
    · rw [if_pos w0] at h ⊢; exact h
    rw [if_neg w0] at h ⊢
    by_cases w1 : w = 1
    · rw [if_pos w1] at h ⊢; exact h
    rw [if_neg w1] at h ⊢
    by_cases w2 : w = 2
    · rw [if_pos w2] at h ⊢; exact h
    rw [if_neg w2] at h ⊢
    by_cases w3 : w = 3
    · rw [if_pos w3] at h ⊢; exact h
    rw [if_neg w3] at h ⊢
    by_cases w4 : w = 4
    · rw [if_pos w4] at h ⊢
      exact X_placeOf_ok hv hw ht h
    rw [if_neg w4] at h ⊢
    by_cases w5 : w = 5
    · rw [if_pos w5] at h ⊢; exact h
    rw [if_neg w5] at h ⊢
    exact h
  · rw [if_neg c1] at h ⊢
    exact h
set_option maxRecDepth 20000 in
theorem X_place_ok {d : Nat} {t w : Int} {μ : Mem} {α : Al} {Q : AV → Mem → Prop} (hv : vX μ α) (hw : wf α) (h : Q (xI (r_place α t w)) μ) : GM (d + 1) 54 [xR 0, xI t, xI w] μ Q := by
  have hT := wf_T hw
  refine ge_X_place ?_
  unfold r_place at h
  rw [vX_T hv]
  by_cases c0 : t < 0
  · rw [if_pos c0] at h ⊢; exact h
  rw [if_neg c0] at h ⊢
  by_cases c1 : t < ((α.1 0 1 : Nat) : Int)
  · rw [if_pos c1] at h ⊢
    obtain ⟨t, rfl⟩ := Int.eq_ofNat_of_zero_le (show 0 ≤ t by omega)
    rw [Int.toNat_natCast] at h
    have ht : t < α.1 0 1 := by omega
    simp (disch := omega) only [wb_eq, Int.toNat_natCast, vX_keep hv, vX_lie hv, vX_ca hv]
    by_cases w0 : w = 0
    · rw [if_pos w0] at h ⊢; exact h
    rw [if_neg w0] at h ⊢
    by_cases w1 : w = 1
    · rw [if_pos w1] at h ⊢; exact h
    rw [if_neg w1] at h ⊢
    by_cases w2 : w = 2
    · rw [if_pos w2] at h ⊢; exact h
    rw [if_neg w2] at h ⊢
    exact h
  · rw [if_neg c1] at h ⊢
    exact h
set_option maxRecDepth 20000 in
theorem X_thingAs_ok {d : Nat} {t k : Int} {μ : Mem} {α : Al} {Q : AV → Mem → Prop} (hv : vX μ α) (hw : wf α) (h : Q (xI (r_thingAs α t k)) μ) : GM (d + 2) 51 [xR 0, xI t, xI k] μ Q := by
  have hT := wf_T hw
  refine ge_X_thingAs ?_
  unfold r_thingAs at h
  rw [vX_T hv]
  by_cases c0 : t < 0
  · rw [if_pos c0] at h ⊢; exact h
  rw [if_neg c0] at h ⊢
  by_cases c1 : t < ((α.1 0 1 : Nat) : Int)
  · rw [if_pos c1] at h ⊢
    by_cases k0 : k < 0
    · rw [if_pos k0] at h ⊢; exact h
    rw [if_neg k0] at h ⊢
    by_cases k4 : 5 < k
    · rw [if_pos k4] at h
      rw [if_neg (by omega)]; exact h
    rw [if_neg k4] at h
    rw [if_pos (by omega)]
    obtain ⟨t, rfl⟩ := Int.eq_ofNat_of_zero_le (show 0 ≤ t by omega)
    rw [Int.toNat_natCast] at h
    have ht : t < α.1 0 1 := by omega
    have hk := wf_kind hw t ht
    have a1 := (sp_at_ok hw ht).1
    rw [wb_eq (by omega) (by omega), Int.toNat_natCast, vX_kind hv t ht, Int.toNat_natCast, wb_eq (by omega) (by omega)]
    refine X_isU1_ok hk (by omega) (by omega) ?_
    refine gI_mk ?_
    by_cases c : sp_tasOk (α.1 2 t) k = true
    · rw [if_pos c] at h ⊢
      rw [if_neg (by decide)]
      refine X_placeOf_ok hv hw ht ?_
      refine gI_mk ?_
      rw [wb_eq (by omega) (by omega), vX_word hv t ht]
      refine X_works_ok hv hw ht a1 ?_
      refine gI_mk ?_
      rcases sp_works01 α t (sp_at α t) ((α.1 5 t : Nat) : Int) with e | e <;> rw [e] at h ⊢
      · rw [if_pos rfl]; exact h
      · rw [if_neg (by decide)]; exact h
    · rw [if_neg c] at h ⊢
      rw [if_pos rfl]
      exact h
  · rw [if_neg c1] at h ⊢
    exact h
set_option maxRecDepth 20000 in
theorem X_may_ok {d : Nat} {n a b : Int} {μ : Mem} {α : Al} {Q : AV → Mem → Prop} (hv : vX μ α) (hw : wf α) (h : Q (xI (r_may α n a b)) μ) : GM (d + 3) 55 [xR 0, xI n, xI a, xI b] μ Q := by
  have hT := wf_T hw
  have hN := wf_N hw
  refine ge_X_may ?_
  unfold r_may at h
  rw [vX_T hv, vX_N hv]
  by_cases c0 : n < 0
  · rw [if_pos c0] at h ⊢; exact h
  rw [if_neg c0] at h ⊢
  by_cases c1 : n < ((α.1 0 2 : Nat) : Int)
  · rw [if_pos c1] at h ⊢
    by_cases a0 : a < 0
    · rw [if_pos a0] at h ⊢; exact h
    rw [if_neg a0] at h ⊢
    by_cases a1 : a < ((α.1 0 1 : Nat) : Int)
    · rw [if_pos a1] at h ⊢
      by_cases b0 : b < 0
      · rw [if_pos b0] at h ⊢; exact h
      rw [if_neg b0] at h ⊢
      by_cases b1 : b < ((α.1 0 1 : Nat) : Int)
      · rw [if_pos b1] at h ⊢
        by_cases ab : a = b
        · rw [if_pos ab] at h ⊢; exact h
        rw [if_neg ab] at h ⊢
        obtain ⟨n, rfl⟩ := Int.eq_ofNat_of_zero_le (show 0 ≤ n by omega)
        obtain ⟨a, rfl⟩ := Int.eq_ofNat_of_zero_le (show 0 ≤ a by omega)
        obtain ⟨b, rfl⟩ := Int.eq_ofNat_of_zero_le (show 0 ≤ b by omega)
        simp only [Int.toNat_natCast] at h
        refine X_allows_ok hv hw (by omega) (by omega) (by omega) ?_
        refine gI_mk ?_
        by_cases c : sp_may α n a b = true <;> simp [c] at h ⊢ <;> exact h
      · rw [if_neg b1] at h ⊢; exact h
    · rw [if_neg a1] at h ⊢; exact h
  · rw [if_neg c1] at h ⊢
    exact h
set_option maxRecDepth 20000 in
theorem X_show_ok {d : Nat} {p : Int} {μ : Mem} {α : Al} {Q : AV → Mem → Prop} (hv : vX μ α) (hw : wf α) (h : Q (xI (r_show α p)) μ) : GM (d + 3) 72 [xR 0, xI p] μ Q := by
  have hT := wf_T hw
  have hP := wf_P hw
  refine ge_X_show ?_
  unfold r_show at h
  rw [vX_P hv]
  by_cases c0 : p < 0
  · rw [if_pos c0] at h ⊢; exact h
  rw [if_neg c0] at h ⊢
  by_cases c1 : p < ((α.1 0 0 : Nat) : Int)
  · rw [if_pos c1] at h ⊢
    obtain ⟨p, rfl⟩ := Int.eq_ofNat_of_zero_le (show 0 ≤ p by omega)
    rw [Int.toNat_natCast] at h
    refine ge_Now_showable ?_
    generalize hf : (fun q => α.1 4 q == p && decide (sp_works α (α.1 9 q) q ((α.1 5 q : Nat) : Int) = 1)) = f at h
    have hfq : ∀ q, f q = (α.1 4 q == p && decide (sp_works α (α.1 9 q) q ((α.1 5 q : Nat) : Int) = 1)) := fun q => by rw [← hf]
    have key : ∀ n q, q + n = α.1 0 1 → DW (d + 2) 73 4 [xR 3, xI (p : Int), xI ((sp_cnt f q : Nat) : Int), xI (q : Int)] μ (gI (fun r2 m1 => Q (xI r2) m1)) := by
      intro n
      induction n with
      | zero =>
        intro q hq
        refine sg_Now_showable_4 ?_
        rw [vX_T hv, if_neg (by omega), show q = α.1 0 1 by omega]
        exact h
      | succ n ih =>
        intro q hq
        have hb := sp_cnt_le f q
        have hl := (wf_lie hw q (by omega)).1
        have hi := ih (q + 1) (by omega)
        rw [sp_cnt, hfq] at hi
        refine sg_Now_showable_4 ?_
        simp (disch := omega) only [vX_T hv, ii_lt, wb_eq, Int.toNat_natCast, vX_keep hv, vX_lie hv, vX_word hv, ii_eq, iw_k1]
        rw [if_pos (by omega)]
        by_cases c : α.1 4 q = p
        · rw [if_pos c]
          refine X_works_ok hv hw hl (by omega) ?_
          refine gI_mk ?_
          rcases sp_works01 α (α.1 9 q) q ((α.1 5 q : Nat) : Int) with e | e <;> rw [e] at hi ⊢
          · rw [if_pos rfl]; simpa [c] using hi
          · rw [if_neg (by decide)]; simpa [c] using hi
        · rw [if_neg c]
          simpa [c] using hi
    exact key (α.1 0 1) 0 (by omega)
  · rw [if_neg c1] at h ⊢
    exact h
set_option maxRecDepth 20000 in
theorem X_rings_ok {d : Nat} {μ : Mem} {α : Al} {Q : AV → Mem → Prop} (hv : vX μ α) (hw : wf α) (h : Q (xI (r_rings α)) μ) : GM (d + 1) 67 [xR 0] μ Q := by
  have hT := wf_T hw
  have hl : ∀ i, i < α.1 0 1 → α.1 9 i < α.1 0 1 := fun i hi => (wf_lie hw i hi).1
  refine ge_X_rings ?_
  refine ge_Now_ringCount ?_
  have h' : (gI fun r2 m1 => Q (xI r2) m1) (xI (r_rings α)) μ := gI_mk h
  clear h
  generalize (gI fun r2 m1 => Q (xI r2) m1) = Q' at h' ⊢
  have inner : ∀ (p c n step gone q : Nat), step + n = α.1 0 1 → gone < 64 → q < α.1 0 1 → (∀ v4 v5 : AV, DW d 68 48 [xR 3, xI (c : Int), xI ((rg_go (α.1 9) n gone q : Nat) : Int), xI (p : Int), v4, v5] μ Q') → DW d 68 23 [xR 3, xI (c : Int), xI (gone : Int), xI (p : Int), xI (q : Int), xI (step : Int)] μ Q' := by
    intro p c n
    induction n with
    | zero =>
      intro step gone q hs hg hq hx
      refine sg_Now_ringCount_23 ?_
      rw [vX_T hv, if_neg (by omega)]
      exact hx _ _
    | succ n ih =>
      intro step gone q hs hg hq hx
      refine sg_Now_ringCount_23 ?_
      rw [vX_T hv, if_pos (by omega)]
      rw [rg_go] at hx
      rw [sp_bit (by omega) (by omega)]
      cases e : gone.testBit q with
      | true =>
        rw [e, if_pos rfl] at hx
        rw [if_neg (by simp)]
        exact hx _ _
      | false =>
        have h2 : (2 : Nat) ^ q < 2 ^ 6 := Nat.pow_lt_pow_right (by decide) (by omega)
        rw [e, if_neg (by decide)] at hx
        rw [if_pos (by simp)]
        simp (disch := omega) only [wb_eq, Int.toNat_natCast, vX_lie hv, sp_one, xior_nat, iw_k1]
        exact ih _ _ _ (by omega) (Nat.or_lt_two_pow (n := 6) hg h2) (hl q hq) hx
  have outer : ∀ n p, p + n = α.1 0 1 → ∀ v4 v5 : AV, DW d 68 6 [xR 3, xI (((rg_all (α.1 9) (α.1 0 1) p).1 : Nat) : Int), xI (((rg_all (α.1 9) (α.1 0 1) p).2 : Nat) : Int), xI (p : Int), v4, v5] μ Q' := by
    intro n
    induction n with
    | zero =>
      intro p hp v4 v5
      refine sg_Now_ringCount_6 ?_
      rw [vX_T hv, if_neg (by omega), show p = α.1 0 1 by omega]
      exact h'
    | succ n ih =>
      intro p hp v4 v5
      obtain ⟨g1, g2⟩ := rg_all_lt hT hl p (by omega)
      refine sg_Now_ringCount_6 ?_
      rw [vX_T hv, if_pos (by omega), sp_bit (by omega) (by omega)]
      have hi := ih (p + 1) (by omega)
      rw [rg_all] at hi
      dsimp only at hi
      cases e : (rg_all (α.1 9) (α.1 0 1) p).2.testBit p with
      | true =>
        rw [e, if_pos rfl] at hi
        rw [if_neg (by simp)]
        refine inner p _ (α.1 0 1) 0 _ p (by omega) g1 (by omega) (fun v4 v5 => ?_)
        refine sg_Now_ringCount_48 ?_
        rw [iw_k1 (by omega)]
        exact hi _ _
      | false =>
        rw [e, if_neg (by decide)] at hi
        rw [if_pos (by simp), iw_k1 (by omega)]
        refine inner p _ (α.1 0 1) 0 _ p (by omega) g1 (by omega) (fun v4 v5 => ?_)
        refine sg_Now_ringCount_48 ?_
        rw [iw_k1 (by omega)]
        exact hi _ _
  exact outer (α.1 0 1) 0 (by omega) _ _
end
section
/-! changes of the abstract state -/
def as1 (α : Al) (a i v : Nat) : Al := (fun a' i' => if a' = a ∧ i' = i then v else α.1 a' i', α.2)
def as2 (α : Al) (a i : Nat) (v : Int) : Al := (α.1, fun a' i' => if a' = a ∧ i' = i then v else α.2 a' i')
theorem as1_s {α : Al} {a i v : Nat} : (as1 α a i v).1 a i = v := if_pos ⟨rfl, rfl⟩
theorem as1_i {α : Al} {a i v a' i' : Nat} (h : i' ≠ i) : (as1 α a i v).1 a' i' = α.1 a' i' := if_neg (fun e => h e.2)
theorem as1_a {α : Al} {a i v a' i' : Nat} (h : a' ≠ a) : (as1 α a i v).1 a' i' = α.1 a' i' := if_neg (fun e => h e.1)
def st_erase (α : Al) : Al := as1 α 0 3 0
def st_write (α : Al) (c : Nat) : Al := as1 (as1 α 8 (α.1 0 3) c) 0 3 (α.1 0 3 + 1)
def st_forget (α : Al) : Al := as1 α 0 6 0
def st_seen (α : Al) (p w v : Nat) : Al := as1 (as1 (as1 (as1 α 11 (α.1 0 6) p) 12 (α.1 0 6) w) 13 (α.1 0 6) v) 0 6 (α.1 0 6 + 1)
theorem wf_erase {α : Al} (hw : wf α) : wf (st_erase α) := ⟨(@wf_P α hw), (@wf_T α hw), (@wf_N α hw), (Nat.zero_le 160), (@wf_Ps α hw), (@wf_Kn α hw), (@wf_S α hw), (@wf_one α hw), (@wf_kind α hw), (@wf_look α hw), (@wf_keep α hw), (@wf_word α hw), (@wf_pow0 α hw), (@wf_night α hw), (fun i hi => absurd hi (Nat.not_lt_zero i)), (@wf_lie α hw), (@wf_inj α hw), (@wf_pow α hw), (@wf_sp α hw), (@wf_sw α hw), (@wf_sv α hw), (@wf_kf α hw), (@wf_kS0 α hw), (@wf_kL0 α hw), (@wf_kI0 α hw), (@wf_kS1 α hw), (@wf_kL1 α hw), (@wf_kI1 α hw)⟩
theorem vM_erase {μ : Mem} {α : Al} (hv : vM μ α) : vM (xset μ 61 6 0) (st_erase α) := ⟨(@vM_P μ α hv), (@vM_T μ α hv), (@vM_N μ α hv), rfl, (@vM_Ps μ α hv), (@vM_Kn μ α hv), (@vM_S μ α hv), (@vM_one μ α hv), (@vM_kind μ α hv), (@vM_look μ α hv), (@vM_keep μ α hv), (@vM_word μ α hv), (@vM_pow0 μ α hv), (@vM_night μ α hv), (fun i hi => absurd hi (Nat.not_lt_zero i)), (@vM_lie μ α hv), (@vM_pow μ α hv), (@vM_sp μ α hv), (@vM_sw μ α hv), (@vM_sv μ α hv), (@vM_Ch μ α hv), (@vM_wk μ α hv), (@vM_ca μ α hv), (@vM_kf μ α hv), (@vM_kP0 μ α hv), (@vM_kA0 μ α hv), (@vM_kP1 μ α hv), (@vM_kA1 μ α hv)⟩
theorem vX_erase {μ : Mem} {α : Al} (hv : vX μ α) : vX (xset μ 1 1 0) (st_erase α) := ⟨(@vX_P μ α hv), (@vX_T μ α hv), (@vX_N μ α hv), rfl, (@vX_Ps μ α hv), (@vX_Kn μ α hv), (@vX_S μ α hv), (@vX_one μ α hv), (@vX_kind μ α hv), (@vX_look μ α hv), (@vX_keep μ α hv), (@vX_word μ α hv), (@vX_pow0 μ α hv), (@vX_night μ α hv), (fun i hi => absurd hi (Nat.not_lt_zero i)), (@vX_lie μ α hv), (@vX_pow μ α hv), (@vX_sp μ α hv), (@vX_sw μ α hv), (@vX_sv μ α hv), (@vX_Ch μ α hv), (@vX_wk μ α hv), (@vX_ca μ α hv), (@vX_kf μ α hv), (@vX_kP0 μ α hv), (@vX_kA0 μ α hv), (@vX_kP1 μ α hv), (@vX_kA1 μ α hv)⟩
theorem wf_forget {α : Al} (hw : wf α) : wf (st_forget α) := ⟨(@wf_P α hw), (@wf_T α hw), (@wf_N α hw), (@wf_B α hw), (@wf_Ps α hw), (@wf_Kn α hw), (Nat.zero_le 10), (@wf_one α hw), (@wf_kind α hw), (@wf_look α hw), (@wf_keep α hw), (@wf_word α hw), (@wf_pow0 α hw), (@wf_night α hw), (@wf_text α hw), (@wf_lie α hw), (@wf_inj α hw), (@wf_pow α hw), (fun i hi => absurd hi (Nat.not_lt_zero i)), (fun i hi => absurd hi (Nat.not_lt_zero i)), (fun i hi => absurd hi (Nat.not_lt_zero i)), (@wf_kf α hw), (@wf_kS0 α hw), (@wf_kL0 α hw), (@wf_kI0 α hw), (@wf_kS1 α hw), (@wf_kL1 α hw), (@wf_kI1 α hw)⟩
theorem vM_forget {μ : Mem} {α : Al} (hv : vM μ α) : vM (xset μ 61 22 0) (st_forget α) := ⟨(@vM_P μ α hv), (@vM_T μ α hv), (@vM_N μ α hv), (@vM_B μ α hv), (@vM_Ps μ α hv), (@vM_Kn μ α hv), rfl, (@vM_one μ α hv), (@vM_kind μ α hv), (@vM_look μ α hv), (@vM_keep μ α hv), (@vM_word μ α hv), (@vM_pow0 μ α hv), (@vM_night μ α hv), (@vM_text μ α hv), (@vM_lie μ α hv), (@vM_pow μ α hv), (fun i hi => absurd hi (Nat.not_lt_zero i)), (fun i hi => absurd hi (Nat.not_lt_zero i)), (fun i hi => absurd hi (Nat.not_lt_zero i)), (@vM_Ch μ α hv), (@vM_wk μ α hv), (@vM_ca μ α hv), (@vM_kf μ α hv), (@vM_kP0 μ α hv), (@vM_kA0 μ α hv), (@vM_kP1 μ α hv), (@vM_kA1 μ α hv)⟩
theorem vX_forget {μ : Mem} {α : Al} (hv : vX μ α) : vX (xset μ 7 0 0) (st_forget α) := ⟨(@vX_P μ α hv), (@vX_T μ α hv), (@vX_N μ α hv), (@vX_B μ α hv), (@vX_Ps μ α hv), (@vX_Kn μ α hv), rfl, (@vX_one μ α hv), (@vX_kind μ α hv), (@vX_look μ α hv), (@vX_keep μ α hv), (@vX_word μ α hv), (@vX_pow0 μ α hv), (@vX_night μ α hv), (@vX_text μ α hv), (@vX_lie μ α hv), (@vX_pow μ α hv), (fun i hi => absurd hi (Nat.not_lt_zero i)), (fun i hi => absurd hi (Nat.not_lt_zero i)), (fun i hi => absurd hi (Nat.not_lt_zero i)), (@vX_Ch μ α hv), (@vX_wk μ α hv), (@vX_ca μ α hv), (@vX_kf μ α hv), (@vX_kP0 μ α hv), (@vX_kA0 μ α hv), (@vX_kP1 μ α hv), (@vX_kA1 μ α hv)⟩
theorem sp_lt1 {P : Nat → Prop} {n : Nat} (h : ∀ i, i < n → P i) (hn : P n) : ∀ i, i < n + 1 → P i := fun i hi => by
  rcases Nat.lt_or_ge i n with q | q
  · exact h i q
  · rw [show i = n by omega]; exact hn
theorem wf_write {α : Al} {c : Nat} (hw : wf α) (hB : α.1 0 3 < 160) (hc : c < 256) : wf (st_write α c) := ⟨(@wf_P α hw), (@wf_T α hw), (@wf_N α hw), hB, (@wf_Ps α hw), (@wf_Kn α hw), (@wf_S α hw), (@wf_one α hw), (@wf_kind α hw), (@wf_look α hw), (@wf_keep α hw), (@wf_word α hw), (@wf_pow0 α hw), (@wf_night α hw), (sp_lt1 (P := fun i => (st_write α c).1 8 i < 256) (fun i hi => by rw [show (st_write α c).1 8 i = α.1 8 i from as1_i (α := α) (by omega)]; exact wf_text hw i hi) (by rw [show (st_write α c).1 8 (α.1 0 3) = c from as1_s (α := α)]; exact hc)), (@wf_lie α hw), (@wf_inj α hw), (@wf_pow α hw), (@wf_sp α hw), (@wf_sw α hw), (@wf_sv α hw), (@wf_kf α hw), (@wf_kS0 α hw), (@wf_kL0 α hw), (@wf_kI0 α hw), (@wf_kS1 α hw), (@wf_kL1 α hw), (@wf_kI1 α hw)⟩
theorem vM_write {μ : Mem} {α : Al} {c : Nat} (hv : vM μ α) : vM (xset (xset μ 65 (α.1 0 3) (c : Int)) 61 6 ((α.1 0 3 + 1 : Nat) : Int)) (st_write α c) := ⟨(@vM_P μ α hv), (@vM_T μ α hv), (@vM_N μ α hv), rfl, (@vM_Ps μ α hv), (@vM_Kn μ α hv), (@vM_S μ α hv), (@vM_one μ α hv), (@vM_kind μ α hv), (@vM_look μ α hv), (@vM_keep μ α hv), (@vM_word μ α hv), (@vM_pow0 μ α hv), (@vM_night μ α hv), (sp_lt1 (P := fun i => (xset (xset μ 65 (α.1 0 3) (c : Int)) 61 6 ((α.1 0 3 + 1 : Nat) : Int)) 65 i = (((st_write α c).1 8 i : Nat) : Int)) (fun i hi => by rw [show (st_write α c).1 8 i = α.1 8 i from as1_i (α := α) (by omega), show (xset (xset μ 65 (α.1 0 3) (c : Int)) 61 6 ((α.1 0 3 + 1 : Nat) : Int)) 65 i = μ 65 i from xs_j (μ := μ) (c := 65) (by omega)]; exact vM_text hv i hi) (by rw [show (st_write α c).1 8 (α.1 0 3) = c from as1_s (α := α)]; exact xs_s (μ := μ))), (@vM_lie μ α hv), (@vM_pow μ α hv), (@vM_sp μ α hv), (@vM_sw μ α hv), (@vM_sv μ α hv), (@vM_Ch μ α hv), (@vM_wk μ α hv), (@vM_ca μ α hv), (@vM_kf μ α hv), (@vM_kP0 μ α hv), (@vM_kA0 μ α hv), (@vM_kP1 μ α hv), (@vM_kA1 μ α hv)⟩
theorem vX_write {μ : Mem} {α : Al} {c : Nat} (hv : vX μ α) : vX (xset (xset μ 13 (α.1 0 3) (c : Int)) 1 1 ((α.1 0 3 + 1 : Nat) : Int)) (st_write α c) := ⟨(@vX_P μ α hv), (@vX_T μ α hv), (@vX_N μ α hv), rfl, (@vX_Ps μ α hv), (@vX_Kn μ α hv), (@vX_S μ α hv), (@vX_one μ α hv), (@vX_kind μ α hv), (@vX_look μ α hv), (@vX_keep μ α hv), (@vX_word μ α hv), (@vX_pow0 μ α hv), (@vX_night μ α hv), (sp_lt1 (P := fun i => (xset (xset μ 13 (α.1 0 3) (c : Int)) 1 1 ((α.1 0 3 + 1 : Nat) : Int)) 13 i = (((st_write α c).1 8 i : Nat) : Int)) (fun i hi => by rw [show (st_write α c).1 8 i = α.1 8 i from as1_i (α := α) (by omega), show (xset (xset μ 13 (α.1 0 3) (c : Int)) 1 1 ((α.1 0 3 + 1 : Nat) : Int)) 13 i = μ 13 i from xs_j (μ := μ) (c := 13) (by omega)]; exact vX_text hv i hi) (by rw [show (st_write α c).1 8 (α.1 0 3) = c from as1_s (α := α)]; exact xs_s (μ := μ))), (@vX_lie μ α hv), (@vX_pow μ α hv), (@vX_sp μ α hv), (@vX_sw μ α hv), (@vX_sv μ α hv), (@vX_Ch μ α hv), (@vX_wk μ α hv), (@vX_ca μ α hv), (@vX_kf μ α hv), (@vX_kP0 μ α hv), (@vX_kA0 μ α hv), (@vX_kP1 μ α hv), (@vX_kA1 μ α hv)⟩
theorem wf_seen {α : Al} {p w v : Nat} (hw : wf α) (hS : α.1 0 6 < 10) (hp : p < α.1 0 1) (hww : w < 4) (hvv : v < 2) : wf (st_seen α p w v) := ⟨(@wf_P α hw), (@wf_T α hw), (@wf_N α hw), (@wf_B α hw), (@wf_Ps α hw), (@wf_Kn α hw), hS, (@wf_one α hw), (@wf_kind α hw), (@wf_look α hw), (@wf_keep α hw), (@wf_word α hw), (@wf_pow0 α hw), (@wf_night α hw), (@wf_text α hw), (@wf_lie α hw), (@wf_inj α hw), (@wf_pow α hw), (sp_lt1 (P := fun i => (st_seen α p w v).1 11 i < α.1 0 1) (fun i hi => by rw [show (st_seen α p w v).1 11 i = α.1 11 i from as1_i (α := α) (a := 11) (by omega)]; exact wf_sp hw i hi) (by rw [show (st_seen α p w v).1 11 (α.1 0 6) = p from as1_s (α := α) (a := 11)]; exact hp)), (sp_lt1 (P := fun i => (st_seen α p w v).1 12 i < 4) (fun i hi => by rw [show (st_seen α p w v).1 12 i = α.1 12 i from as1_i (α := α) (a := 12) (by omega)]; exact wf_sw hw i hi) (by rw [show (st_seen α p w v).1 12 (α.1 0 6) = w from as1_s (α := α) (a := 12)]; exact hww)), (sp_lt1 (P := fun i => (st_seen α p w v).1 13 i < 2) (fun i hi => by rw [show (st_seen α p w v).1 13 i = α.1 13 i from as1_i (α := α) (a := 13) (by omega)]; exact wf_sv hw i hi) (by rw [show (st_seen α p w v).1 13 (α.1 0 6) = v from as1_s (α := α) (a := 13)]; exact hvv)), (@wf_kf α hw), (@wf_kS0 α hw), (@wf_kL0 α hw), (@wf_kI0 α hw), (@wf_kS1 α hw), (@wf_kL1 α hw), (@wf_kI1 α hw)⟩
theorem vM_seen {μ : Mem} {α : Al} {p w v : Nat} (hv : vM μ α) : vM (xset (xset (xset (xset μ 70 (3 * α.1 0 6) (p : Int)) 70 (3 * α.1 0 6 + 1) (w : Int)) 70 (3 * α.1 0 6 + 2) (v : Int)) 61 22 ((α.1 0 6 + 1 : Nat) : Int)) (st_seen α p w v) := ⟨(@vM_P μ α hv), (@vM_T μ α hv), (@vM_N μ α hv), (@vM_B μ α hv), (@vM_Ps μ α hv), (@vM_Kn μ α hv), rfl, (@vM_one μ α hv), (@vM_kind μ α hv), (@vM_look μ α hv), (@vM_keep μ α hv), (@vM_word μ α hv), (@vM_pow0 μ α hv), (@vM_night μ α hv), (@vM_text μ α hv), (@vM_lie μ α hv), (@vM_pow μ α hv), (sp_lt1 (P := fun i => (xset (xset (xset (xset μ 70 (3 * α.1 0 6) (p : Int)) 70 (3 * α.1 0 6 + 1) (w : Int)) 70 (3 * α.1 0 6 + 2) (v : Int)) 61 22 ((α.1 0 6 + 1 : Nat) : Int)) 70 (3 * i) = (((st_seen α p w v).1 11 i : Nat) : Int)) (fun i hi => by rw [show (st_seen α p w v).1 11 i = α.1 11 i from as1_i (α := α) (a := 11) (by omega), xs_c (by decide), xs_j (by omega), xs_j (by omega), xs_j (by omega)]; exact vM_sp hv i hi) (by rw [show (st_seen α p w v).1 11 (α.1 0 6) = p from as1_s (α := α) (a := 11), xs_c (by decide), xs_j (by omega), xs_j (by omega), xs_s])), (sp_lt1 (P := fun i => (xset (xset (xset (xset μ 70 (3 * α.1 0 6) (p : Int)) 70 (3 * α.1 0 6 + 1) (w : Int)) 70 (3 * α.1 0 6 + 2) (v : Int)) 61 22 ((α.1 0 6 + 1 : Nat) : Int)) 70 (3 * i + 1) = (((st_seen α p w v).1 12 i : Nat) : Int)) (fun i hi => by rw [show (st_seen α p w v).1 12 i = α.1 12 i from as1_i (α := α) (a := 12) (by omega), xs_c (by decide), xs_j (by omega), xs_j (by omega), xs_j (by omega)]; exact vM_sw hv i hi) (by rw [show (st_seen α p w v).1 12 (α.1 0 6) = w from as1_s (α := α) (a := 12), xs_c (by decide), xs_j (by omega), xs_s])), (sp_lt1 (P := fun i => (xset (xset (xset (xset μ 70 (3 * α.1 0 6) (p : Int)) 70 (3 * α.1 0 6 + 1) (w : Int)) 70 (3 * α.1 0 6 + 2) (v : Int)) 61 22 ((α.1 0 6 + 1 : Nat) : Int)) 70 (3 * i + 2) = (((st_seen α p w v).1 13 i : Nat) : Int)) (fun i hi => by rw [show (st_seen α p w v).1 13 i = α.1 13 i from as1_i (α := α) (a := 13) (by omega), xs_c (by decide), xs_j (by omega), xs_j (by omega), xs_j (by omega)]; exact vM_sv hv i hi) (by rw [show (st_seen α p w v).1 13 (α.1 0 6) = v from as1_s (α := α) (a := 13), xs_c (by decide), xs_s])), (@vM_Ch μ α hv), (@vM_wk μ α hv), (@vM_ca μ α hv), (@vM_kf μ α hv), (@vM_kP0 μ α hv), (@vM_kA0 μ α hv), (@vM_kP1 μ α hv), (@vM_kA1 μ α hv)⟩
theorem vX_seen {μ : Mem} {α : Al} {p w v : Nat} (hv : vX μ α) : vX (xset (xset (xset (xset μ 35 (α.1 0 6) (p : Int)) 36 (α.1 0 6) (w : Int)) 37 (α.1 0 6) (v : Int)) 7 0 ((α.1 0 6 + 1 : Nat) : Int)) (st_seen α p w v) := ⟨(@vX_P μ α hv), (@vX_T μ α hv), (@vX_N μ α hv), (@vX_B μ α hv), (@vX_Ps μ α hv), (@vX_Kn μ α hv), rfl, (@vX_one μ α hv), (@vX_kind μ α hv), (@vX_look μ α hv), (@vX_keep μ α hv), (@vX_word μ α hv), (@vX_pow0 μ α hv), (@vX_night μ α hv), (@vX_text μ α hv), (@vX_lie μ α hv), (@vX_pow μ α hv), (sp_lt1 (P := fun i => (xset (xset (xset (xset μ 35 (α.1 0 6) (p : Int)) 36 (α.1 0 6) (w : Int)) 37 (α.1 0 6) (v : Int)) 7 0 ((α.1 0 6 + 1 : Nat) : Int)) 35 i = (((st_seen α p w v).1 11 i : Nat) : Int)) (fun i hi => by rw [show (st_seen α p w v).1 11 i = α.1 11 i from as1_i (α := α) (a := 11) (by omega), xs_c (by decide), xs_c (by decide), xs_c (by decide), xs_j (by omega)]; exact vX_sp hv i hi) (by rw [show (st_seen α p w v).1 11 (α.1 0 6) = p from as1_s (α := α) (a := 11), xs_c (by decide), xs_c (by decide), xs_c (by decide), xs_s])), (sp_lt1 (P := fun i => (xset (xset (xset (xset μ 35 (α.1 0 6) (p : Int)) 36 (α.1 0 6) (w : Int)) 37 (α.1 0 6) (v : Int)) 7 0 ((α.1 0 6 + 1 : Nat) : Int)) 36 i = (((st_seen α p w v).1 12 i : Nat) : Int)) (fun i hi => by rw [show (st_seen α p w v).1 12 i = α.1 12 i from as1_i (α := α) (a := 12) (by omega), xs_c (by decide), xs_c (by decide), xs_j (by omega), xs_c (by decide)]; exact vX_sw hv i hi) (by rw [show (st_seen α p w v).1 12 (α.1 0 6) = w from as1_s (α := α) (a := 12), xs_c (by decide), xs_c (by decide), xs_s])), (sp_lt1 (P := fun i => (xset (xset (xset (xset μ 35 (α.1 0 6) (p : Int)) 36 (α.1 0 6) (w : Int)) 37 (α.1 0 6) (v : Int)) 7 0 ((α.1 0 6 + 1 : Nat) : Int)) 37 i = (((st_seen α p w v).1 13 i : Nat) : Int)) (fun i hi => by rw [show (st_seen α p w v).1 13 i = α.1 13 i from as1_i (α := α) (a := 13) (by omega), xs_c (by decide), xs_j (by omega), xs_c (by decide), xs_c (by decide)]; exact vX_sv hv i hi) (by rw [show (st_seen α p w v).1 13 (α.1 0 6) = v from as1_s (α := α) (a := 13), xs_c (by decide), xs_s])), (@vX_Ch μ α hv), (@vX_wk μ α hv), (@vX_ca μ α hv), (@vX_kf μ α hv), (@vX_kP0 μ α hv), (@vX_kA0 μ α hv), (@vX_kP1 μ α hv), (@vX_kA1 μ α hv)⟩
def r_write (α : Al) (c : Int) : Int := if c < 0 then -3 else if 255 < c then -3 else if α.1 0 3 = 160 then -5 else ((α.1 0 3 + 1 : Nat) : Int)
def t_write (α : Al) (c : Int) : Al := if c < 0 then α else if 255 < c then α else if α.1 0 3 = 160 then α else st_write α c.toNat
def r_seen (α : Al) (p w v : Int) : Int := if p < 0 then -2 else if p < ((α.1 0 1 : Nat) : Int) then (if w < 0 then -3 else if 3 < w then -3 else if v < 0 then -3 else if 1 < v then -3 else if α.1 0 6 = 10 then -5 else ((α.1 0 6 + 1 : Nat) : Int)) else -2
def t_seen (α : Al) (p w v : Int) : Al := if p < 0 then α else if p < ((α.1 0 1 : Nat) : Int) then (if w < 0 then α else if 3 < w then α else if v < 0 then α else if 1 < v then α else if α.1 0 6 = 10 then α else st_seen α p.toNat w.toNat v.toNat) else α
theorem wf_tw {α : Al} (hw : wf α) (c : Int) : wf (t_write α c) := by
  unfold t_write
  have := wf_B hw
  split
  · exact hw
  split
  · exact hw
  split
  · exact hw
  · exact wf_write hw (by omega) (by omega)
theorem wf_ts {α : Al} (hw : wf α) (p w v : Int) : wf (t_seen α p w v) := by
  unfold t_seen
  have := wf_S hw
  split
  · exact hw
  split
  · split
    · exact hw
    split
    · exact hw
    split
    · exact hw
    split
    · exact hw
    split
    · exact hw
    · exact wf_seen hw (by omega) (by omega) (by omega) (by omega)
  · exact hw
set_option maxRecDepth 20000 in
theorem M_write_ok {d : Nat} {c : Int} {μ : Mem} {α : Al} {Q : AV → Mem → Prop} (hv : vM μ α) (hw : wf α) (h : ∀ μ', vM μ' (t_write α c) → Q (xI (r_write α c)) μ') : GM (d + 1) 126 [xR 61, xI c] μ Q := by
  have hB := wf_B hw
  refine ge_M_write ?_
  unfold r_write t_write at h
  refine wi (fun c0 => ?_) (fun c0 => ?_)
  · rw [if_pos c0, if_pos c0] at h; exact h μ hv
  rw [if_neg c0, if_neg c0] at h
  refine wi (fun c1 => ?_) (fun c1 => ?_)
  · rw [if_pos c1, if_pos c1] at h; exact h μ hv
  rw [if_neg c1, if_neg c1] at h
  rw [vM_B hv]
  refine wi (fun c2 => ?_) (fun c2 => ?_)
  · rw [if_pos (by omega), if_pos (by omega)] at h; exact h μ hv
  rw [if_neg (by omega), if_neg (by omega)] at h
  obtain ⟨c, rfl⟩ := Int.eq_ofNat_of_zero_le (show 0 ≤ c by omega)
  rw [wb_eq (by omega) (by omega), iw_k1 (by omega), Int.toNat_natCast]
  rw [Int.toNat_natCast] at h
  exact h _ (vM_write hv)
theorem M_erase_ok {d : Nat} {μ : Mem} {α : Al} {Q : AV → Mem → Prop} (hv : vM μ α) (h : ∀ μ', vM μ' (st_erase α) → Q (xI ((α.1 0 3 : Nat) : Int)) μ') : GM d 128 [xR 61] μ Q := by
  refine ge_M_erase ?_
  rw [vM_B hv]
  exact h _ (vM_erase hv)
theorem M_forget_ok {d : Nat} {μ : Mem} {α : Al} {Q : AV → Mem → Prop} (hv : vM μ α) (h : ∀ μ', vM μ' (st_forget α) → Q (xI ((α.1 0 6 : Nat) : Int)) μ') : GM d 177 [xR 61] μ Q := by
  refine ge_M_forget ?_
  rw [vM_S hv]
  exact h _ (vM_forget hv)
theorem iw_3 {n : Nat} (h : n < 1000000) : iw (3 * (n : Int)) = ((3 * n : Nat) : Int) := by simp only [iw_def]; omega
set_option maxRecDepth 20000 in
theorem M_seen_ok {d : Nat} {p w v : Int} {μ : Mem} {α : Al} {Q : AV → Mem → Prop} (hv : vM μ α) (hw : wf α) (h : ∀ μ', vM μ' (t_seen α p w v) → Q (xI (r_seen α p w v)) μ') : GM (d + 2) 176 [xR 61, xI p, xI w, xI v] μ Q := by
  have hT := wf_T hw
  have hS := wf_S hw
  refine ge_M_seen ?_
  unfold r_seen t_seen at h
  rw [vM_T hv, vM_S hv, iw_m1 (by omega)]
  refine wi (fun c0 => ?_) (fun c0 => ?_)
  · rw [if_pos c0, if_pos c0] at h; exact h μ hv
  rw [if_neg c0, if_neg c0] at h
  refine wi (fun c1 => ?_) (fun c1 => ?_)
  · have c1' : ¬ p < ((α.1 0 1 : Nat) : Int) := by omega
    rw [if_neg c1', if_neg c1'] at h; exact h μ hv
  have c1' : p < ((α.1 0 1 : Nat) : Int) := by omega
  rw [if_pos c1', if_pos c1'] at h
  refine wi (fun c2 => ?_) (fun c2 => ?_)
  · rw [if_pos c2, if_pos c2] at h; exact h μ hv
  rw [if_neg c2, if_neg c2] at h
  refine wi (fun c3 => ?_) (fun c3 => ?_)
  · rw [if_pos c3, if_pos c3] at h; exact h μ hv
  rw [if_neg c3, if_neg c3] at h
  refine wi (fun c4 => ?_) (fun c4 => ?_)
  · rw [if_pos c4, if_pos c4] at h; exact h μ hv
  rw [if_neg c4, if_neg c4] at h
  refine wi (fun c5 => ?_) (fun c5 => ?_)
  · rw [if_pos c5, if_pos c5] at h; exact h μ hv
  rw [if_neg c5, if_neg c5] at h
  refine wi (fun c6 => ?_) (fun c6 => ?_)
  · have c6' : α.1 0 6 = 10 := by omega
    rw [if_pos c6', if_pos c6'] at h; exact h μ hv
  have c6' : ¬ α.1 0 6 = 10 := by omega
  rw [if_neg c6', if_neg c6'] at h
  obtain ⟨p, rfl⟩ := Int.eq_ofNat_of_zero_le (show 0 ≤ p by omega)
  obtain ⟨w, rfl⟩ := Int.eq_ofNat_of_zero_le (show 0 ≤ w by omega)
  obtain ⟨v, rfl⟩ := Int.eq_ofNat_of_zero_le (show 0 ≤ v by omega)
  simp only [Int.toNat_natCast] at h
  simp (disch := omega) only [iw_3, iw_k1, iw_k2, wb_eq, Int.toNat_natCast]
  exact h _ (vM_seen hv)
set_option maxRecDepth 20000 in
theorem X_write_ok {d : Nat} {c : Int} {μ : Mem} {α : Al} {Q : AV → Mem → Prop} (hv : vX μ α) (hw : wf α) (h : ∀ μ', (∀ c j, c ≠ 1 → c ≠ 13 → μ' c j = μ c j) → vX μ' (t_write α c) → Q (xI (r_write α c)) μ') : GM (d + 1) 0 [xR 0, xI c] μ Q := by
  have hB := wf_B hw
  refine ge_X_write ?_
  unfold r_write t_write at h
  refine wi (fun c0 => ?_) (fun c0 => ?_)
  · rw [if_pos c0, if_pos c0] at h; exact h μ (fun _ _ _ _ => rfl) hv
  rw [if_neg c0, if_neg c0] at h
  refine wi (fun c1 => ?_) (fun c1 => ?_)
  · rw [if_pos c1, if_pos c1] at h; exact h μ (fun _ _ _ _ => rfl) hv
  rw [if_neg c1, if_neg c1] at h
  refine ge_Text_append ?_
  rw [vX_B hv]
  refine wi (fun c2 => ?_) (fun c2 => ?_)
  · rw [if_neg (by omega), if_neg (by omega)] at h
    obtain ⟨c, rfl⟩ := Int.eq_ofNat_of_zero_le (show 0 ≤ c by omega)
    rw [wb_eq (by omega) (by omega), iw_k1 (by omega), Int.toNat_natCast]
    rw [Int.toNat_natCast] at h
    refine gI_mk ?_
    rw [if_neg (by decide), xs_s]
    exact h _ (fun c' j h1 h13 => by rw [xs_c h1, xs_c h13]) (vX_write hv)
  · rw [if_pos (by omega), if_pos (by omega)] at h
    refine gI_mk ?_
    rw [if_pos rfl]
    exact h μ (fun _ _ _ _ => rfl) hv
set_option maxRecDepth 20000 in
theorem X_seen_ok {d : Nat} {p w v : Int} {μ : Mem} {α : Al} {Q : AV → Mem → Prop} (hv : vX μ α) (hw : wf α) (h : ∀ μ', (∀ c j, c ≠ 7 → c ≠ 35 → c ≠ 36 → c ≠ 37 → μ' c j = μ c j) → vX μ' (t_seen α p w v) → Q (xI (r_seen α p w v)) μ') : GM (d + 1) 85 [xR 0, xI p, xI w, xI v] μ Q := by
  have hT := wf_T hw
  have hS := wf_S hw
  have rf : ∀ c j, c ≠ 7 → c ≠ 35 → c ≠ 36 → c ≠ 37 → μ c j = μ c j := fun _ _ _ _ _ _ => rfl
  refine ge_X_seen ?_
  unfold r_seen t_seen at h
  rw [vX_T hv]
  refine wi (fun c0 => ?_) (fun c0 => ?_)
  · rw [if_pos c0, if_pos c0] at h; exact h μ rf hv
  rw [if_neg c0, if_neg c0] at h
  refine wi (fun c1 => ?_) (fun c1 => ?_)
  · rw [if_pos c1, if_pos c1] at h
    refine wi (fun c2 => ?_) (fun c2 => ?_)
    · rw [if_pos c2, if_pos c2] at h; exact h μ rf hv
    rw [if_neg c2, if_neg c2] at h
    refine wi (fun c3 => ?_) (fun c3 => ?_)
    · have c3' : ¬ 3 < w := by omega
      rw [if_neg c3', if_neg c3'] at h
      refine wi (fun c4 => ?_) (fun c4 => ?_)
      · rw [if_pos c4, if_pos c4] at h; exact h μ rf hv
      rw [if_neg c4, if_neg c4] at h
      refine wi (fun c5 => ?_) (fun c5 => ?_)
      · rw [if_pos c5, if_pos c5] at h; exact h μ rf hv
      rw [if_neg c5, if_neg c5] at h
      obtain ⟨p, rfl⟩ := Int.eq_ofNat_of_zero_le (show 0 ≤ p by omega)
      obtain ⟨w, rfl⟩ := Int.eq_ofNat_of_zero_le (show 0 ≤ w by omega)
      obtain ⟨v, rfl⟩ := Int.eq_ofNat_of_zero_le (show 0 ≤ v by omega)
      simp only [Int.toNat_natCast] at h
      have key : GM d 86 [xR 7, xI (p : Int), xI (w : Int), xI (v : Int)] μ (gI (fun r2 m1 => if r2 = 0 then (Q (xI (-5)) m1) else (Q (xI (m1 7 0)) m1))) := by
        refine ge_Seen_append ?_
        rw [vX_S hv]
        refine wi (fun c6 => ?_) (fun c6 => ?_)
        · have c6' : ¬ α.1 0 6 = 10 := by omega
          rw [if_neg c6', if_neg c6'] at h
          simp (disch := omega) only [wb_eq, iw_k1, Int.toNat_natCast]
          refine gI_mk ?_
          rw [if_neg (by decide), xs_s]
          exact h _ (fun c' j h7 h35 h36 h37 => by rw [xs_c h7, xs_c h37, xs_c h36, xs_c h35]) (vX_seen hv)
        · have c6' : α.1 0 6 = 10 := by omega
          rw [if_pos c6', if_pos c6'] at h
          refine gI_mk ?_
          rw [if_pos rfl]
          exact h μ rf hv
      refine wi (fun c7 => ?_) (fun c7 => ?_)
      · rw [c7] at key; exact key
      · rw [show (v : Int) = 0 by omega] at key; exact key
    · have c3' : 3 < w := by omega
      rw [if_pos c3', if_pos c3'] at h; exact h μ rf hv
  · rw [if_neg c1, if_neg c1] at h; exact h μ rf hv
theorem X_erase_ok {d : Nat} {μ : Mem} {α : Al} {Q : AV → Mem → Prop} (hv : vX μ α) (h : ∀ μ', (∀ c j, c ≠ 1 → μ' c j = μ c j) → vX μ' (st_erase α) → Q (xI ((α.1 0 3 : Nat) : Int)) μ') : GM d 2 [xR 0] μ Q := by
  refine ge_X_erase ?_
  rw [vX_B hv]
  exact h _ (fun c j h1 => xs_c h1) (vX_erase hv)
theorem X_forget_ok {d : Nat} {μ : Mem} {α : Al} {Q : AV → Mem → Prop} (hv : vX μ α) (h : ∀ μ', (∀ c j, c ≠ 7 → μ' c j = μ c j) → vX μ' (st_forget α) → Q (xI ((α.1 0 6 : Nat) : Int)) μ') : GM d 87 [xR 0] μ Q := by
  refine ge_X_forget ?_
  rw [vX_S hv]
  exact h _ (fun c j h1 => xs_c h1) (vX_forget hv)
end
