section
-- ===== PART A: goes FIRST, ahead of the names: the tables' words, and 'selects' of the private methods out of them =====
/-- a private method of a class that the tables say can be made, by its rows of tables_1 -/
def lw_okq (q : MethodName × Nat) : Prop := (q.1.cls ≠ "java/lang/invoke/MethodHandle" ∧ q.1.cls ≠ "java/lang/invoke/VarHandle") ∧ Cond.instantiable q.1.cls q.2 ∈ tables_1 ∧ Cond.privateMethod q.1 ∈ tables_1 ∧ Cond.instanceMethod q.1 ∈ tables_1
theorem lw_p0 : lw_okq (⟨"SandPicture", "isMonk", "(I)Z"⟩, 10) := ⟨⟨by decide +kernel, by decide +kernel⟩, List.mem_of_getElem? (i := 17) (by decide +kernel), List.mem_of_getElem? (i := 262) (by decide +kernel), List.mem_of_getElem? (i := 263) (by decide +kernel)⟩
theorem lw_p1 : lw_okq (⟨"SandPicture$Picture", "draw", "()I"⟩, 19) := ⟨⟨by decide +kernel, by decide +kernel⟩, List.mem_of_getElem? (i := 79) (by decide +kernel), List.mem_of_getElem? (i := 357) (by decide +kernel), List.mem_of_getElem? (i := 358) (by decide +kernel)⟩
theorem lw_p2 : lw_okq (⟨"SandPicture$Picture", "work", "(I)V"⟩, 19) := ⟨⟨by decide +kernel, by decide +kernel⟩, List.mem_of_getElem? (i := 79) (by decide +kernel), List.mem_of_getElem? (i := 379) (by decide +kernel), List.mem_of_getElem? (i := 380) (by decide +kernel)⟩
theorem lw_p3 : lw_okq (⟨"SandPicture$Picture", "blowFrom", "(I)V"⟩, 19) := ⟨⟨by decide +kernel, by decide +kernel⟩, List.mem_of_getElem? (i := 79) (by decide +kernel), List.mem_of_getElem? (i := 386) (by decide +kernel), List.mem_of_getElem? (i := 387) (by decide +kernel)⟩
theorem lw_p4 : lw_okq (⟨"SandPicture$Picture", "allAreDone", "()Z"⟩, 19) := ⟨⟨by decide +kernel, by decide +kernel⟩, List.mem_of_getElem? (i := 79) (by decide +kernel), List.mem_of_getElem? (i := 390) (by decide +kernel), List.mem_of_getElem? (i := 391) (by decide +kernel)⟩
theorem lw_p5 : lw_okq (⟨"SandPicture$Picture", "wipe", "(I)V"⟩, 19) := ⟨⟨by decide +kernel, by decide +kernel⟩, List.mem_of_getElem? (i := 79) (by decide +kernel), List.mem_of_getElem? (i := 394) (by decide +kernel), List.mem_of_getElem? (i := 395) (by decide +kernel)⟩
theorem lw_p6 : lw_okq (⟨"SandPicture$Tape", "step", "()V"⟩, 6) := ⟨⟨by decide +kernel, by decide +kernel⟩, List.mem_of_getElem? (i := 27) (by decide +kernel), List.mem_of_getElem? (i := 496) (by decide +kernel), List.mem_of_getElem? (i := 497) (by decide +kernel)⟩
theorem lw_p7 : lw_okq (⟨"SandPicture$Tape", "here", "()I"⟩, 6) := ⟨⟨by decide +kernel, by decide +kernel⟩, List.mem_of_getElem? (i := 27) (by decide +kernel), List.mem_of_getElem? (i := 500) (by decide +kernel), List.mem_of_getElem? (i := 501) (by decide +kernel)⟩
theorem lw_p8 : lw_okq (⟨"SandPicture$Tape", "readKey", "(LSandPicture$Text;)V"⟩, 6) := ⟨⟨by decide +kernel, by decide +kernel⟩, List.mem_of_getElem? (i := 27) (by decide +kernel), List.mem_of_getElem? (i := 511) (by decide +kernel), List.mem_of_getElem? (i := 512) (by decide +kernel)⟩
theorem lw_p9 : lw_okq (⟨"SandPicture$Tape", "wordIs", "(Ljava/lang/String;)Z"⟩, 6) := ⟨⟨by decide +kernel, by decide +kernel⟩, List.mem_of_getElem? (i := 27) (by decide +kernel), List.mem_of_getElem? (i := 521) (by decide +kernel), List.mem_of_getElem? (i := 522) (by decide +kernel)⟩
theorem lw_p10 : lw_okq (⟨"SandPicture$Tape", "fail", "()V"⟩, 6) := ⟨⟨by decide +kernel, by decide +kernel⟩, List.mem_of_getElem? (i := 27) (by decide +kernel), List.mem_of_getElem? (i := 573) (by decide +kernel), List.mem_of_getElem? (i := 574) (by decide +kernel)⟩
theorem lw_p11 : lw_okq (⟨"SandPicture$Tape", "readLevel", "(LSandPicture$Text;III)V"⟩, 6) := ⟨⟨by decide +kernel, by decide +kernel⟩, List.mem_of_getElem? (i := 27) (by decide +kernel), List.mem_of_getElem? (i := 577) (by decide +kernel), List.mem_of_getElem? (i := 578) (by decide +kernel)⟩
theorem lw_p12 : lw_okq (⟨"SandPicture$Tape", "readPiece", "(LSandPicture$Text;II)V"⟩, 6) := ⟨⟨by decide +kernel, by decide +kernel⟩, List.mem_of_getElem? (i := 27) (by decide +kernel), List.mem_of_getElem? (i := 581) (by decide +kernel), List.mem_of_getElem? (i := 582) (by decide +kernel)⟩
theorem lw_p13 : lw_okq (⟨"SandPicture$Tape", "readName", "(LSandPicture$Text;)V"⟩, 6) := ⟨⟨by decide +kernel, by decide +kernel⟩, List.mem_of_getElem? (i := 27) (by decide +kernel), List.mem_of_getElem? (i := 585) (by decide +kernel), List.mem_of_getElem? (i := 586) (by decide +kernel)⟩
theorem lw_p14 : lw_okq (⟨"SandPicture$Text", "addCode", "(I)V"⟩, 4) := ⟨⟨by decide +kernel, by decide +kernel⟩, List.mem_of_getElem? (i := 57) (by decide +kernel), List.mem_of_getElem? (i := 654) (by decide +kernel), List.mem_of_getElem? (i := 655) (by decide +kernel)⟩
theorem lw_p15 : lw_okq (⟨"SandPicture$Tape", "readNumber", "(LSandPicture$Text;)V"⟩, 6) := ⟨⟨by decide +kernel, by decide +kernel⟩, List.mem_of_getElem? (i := 27) (by decide +kernel), List.mem_of_getElem? (i := 658) (by decide +kernel), List.mem_of_getElem? (i := 659) (by decide +kernel)⟩
def lw_privs_1 : List (MethodName × Nat) := [(⟨"SandPicture", "isMonk", "(I)Z"⟩, 10), (⟨"SandPicture$Picture", "draw", "()I"⟩, 19), (⟨"SandPicture$Picture", "work", "(I)V"⟩, 19), (⟨"SandPicture$Picture", "blowFrom", "(I)V"⟩, 19), (⟨"SandPicture$Picture", "allAreDone", "()Z"⟩, 19), (⟨"SandPicture$Picture", "wipe", "(I)V"⟩, 19), (⟨"SandPicture$Tape", "step", "()V"⟩, 6), (⟨"SandPicture$Tape", "here", "()I"⟩, 6), (⟨"SandPicture$Tape", "readKey", "(LSandPicture$Text;)V"⟩, 6), (⟨"SandPicture$Tape", "wordIs", "(Ljava/lang/String;)Z"⟩, 6), (⟨"SandPicture$Tape", "fail", "()V"⟩, 6), (⟨"SandPicture$Tape", "readLevel", "(LSandPicture$Text;III)V"⟩, 6), (⟨"SandPicture$Tape", "readPiece", "(LSandPicture$Text;II)V"⟩, 6), (⟨"SandPicture$Tape", "readName", "(LSandPicture$Text;)V"⟩, 6), (⟨"SandPicture$Text", "addCode", "(I)V"⟩, 4), (⟨"SandPicture$Tape", "readNumber", "(LSandPicture$Text;)V"⟩, 6)]
theorem lw_r1 : ∀ q ∈ lw_privs_1, lw_okq q := List.forall_mem_cons.mpr ⟨lw_p0, List.forall_mem_cons.mpr ⟨lw_p1, List.forall_mem_cons.mpr ⟨lw_p2, List.forall_mem_cons.mpr ⟨lw_p3, List.forall_mem_cons.mpr ⟨lw_p4, List.forall_mem_cons.mpr ⟨lw_p5, List.forall_mem_cons.mpr ⟨lw_p6, List.forall_mem_cons.mpr ⟨lw_p7, List.forall_mem_cons.mpr ⟨lw_p8, List.forall_mem_cons.mpr ⟨lw_p9, List.forall_mem_cons.mpr ⟨lw_p10, List.forall_mem_cons.mpr ⟨lw_p11, List.forall_mem_cons.mpr ⟨lw_p12, List.forall_mem_cons.mpr ⟨lw_p13, List.forall_mem_cons.mpr ⟨lw_p14, List.forall_mem_cons.mpr ⟨lw_p15, fun _ h => absurd h List.not_mem_nil⟩⟩⟩⟩⟩⟩⟩⟩⟩⟩⟩⟩⟩⟩⟩⟩
theorem lw_p16 : lw_okq (⟨"SandPicture$Tape", "readClosing", "()V"⟩, 6) := ⟨⟨by decide +kernel, by decide +kernel⟩, List.mem_of_getElem? (i := 27) (by decide +kernel), List.mem_of_getElem? (i := 670) (by decide +kernel), List.mem_of_getElem? (i := 671) (by decide +kernel)⟩
theorem lw_p17 : lw_okq (⟨"SandPictureModel", "comes", "(III)I"⟩, 34) := ⟨⟨by decide +kernel, by decide +kernel⟩, List.mem_of_getElem? (i := 768) (by decide +kernel), List.mem_of_getElem? (i := 891) (by decide +kernel), List.mem_of_getElem? (i := 892) (by decide +kernel)⟩
theorem lw_p18 : lw_okq (⟨"SandPictureModel", "isMonk", "(I)Z"⟩, 34) := ⟨⟨by decide +kernel, by decide +kernel⟩, List.mem_of_getElem? (i := 768) (by decide +kernel), List.mem_of_getElem? (i := 899) (by decide +kernel), List.mem_of_getElem? (i := 900) (by decide +kernel)⟩
theorem lw_p19 : lw_okq (⟨"SandPictureModel", "of", "(II)I"⟩, 34) := ⟨⟨by decide +kernel, by decide +kernel⟩, List.mem_of_getElem? (i := 768) (by decide +kernel), List.mem_of_getElem? (i := 903) (by decide +kernel), List.mem_of_getElem? (i := 904) (by decide +kernel)⟩
theorem lw_p20 : lw_okq (⟨"SandPictureModel", "worthOf", "(I)I"⟩, 34) := ⟨⟨by decide +kernel, by decide +kernel⟩, List.mem_of_getElem? (i := 768) (by decide +kernel), List.mem_of_getElem? (i := 907) (by decide +kernel), List.mem_of_getElem? (i := 908) (by decide +kernel)⟩
theorem lw_p21 : lw_okq (⟨"SandPictureModel", "poursBy", "(II)I"⟩, 34) := ⟨⟨by decide +kernel, by decide +kernel⟩, List.mem_of_getElem? (i := 768) (by decide +kernel), List.mem_of_getElem? (i := 915) (by decide +kernel), List.mem_of_getElem? (i := 916) (by decide +kernel)⟩
theorem lw_p22 : lw_okq (⟨"SandPictureModel", "counts", "(I)I"⟩, 34) := ⟨⟨by decide +kernel, by decide +kernel⟩, List.mem_of_getElem? (i := 768) (by decide +kernel), List.mem_of_getElem? (i := 919) (by decide +kernel), List.mem_of_getElem? (i := 920) (by decide +kernel)⟩
theorem lw_p23 : lw_okq (⟨"SandPictureModel", "at0", "(II)I"⟩, 34) := ⟨⟨by decide +kernel, by decide +kernel⟩, List.mem_of_getElem? (i := 768) (by decide +kernel), List.mem_of_getElem? (i := 923) (by decide +kernel), List.mem_of_getElem? (i := 924) (by decide +kernel)⟩
theorem lw_p24 : lw_okq (⟨"SandPictureModel", "worksOut", "(I)I"⟩, 34) := ⟨⟨by decide +kernel, by decide +kernel⟩, List.mem_of_getElem? (i := 768) (by decide +kernel), List.mem_of_getElem? (i := 927) (by decide +kernel), List.mem_of_getElem? (i := 928) (by decide +kernel)⟩
theorem lw_p25 : lw_okq (⟨"SandPictureModel", "spills", "(II)I"⟩, 34) := ⟨⟨by decide +kernel, by decide +kernel⟩, List.mem_of_getElem? (i := 768) (by decide +kernel), List.mem_of_getElem? (i := 937) (by decide +kernel), List.mem_of_getElem? (i := 938) (by decide +kernel)⟩
theorem lw_p26 : lw_okq (⟨"SandPictureModel", "adds", "(II)I"⟩, 34) := ⟨⟨by decide +kernel, by decide +kernel⟩, List.mem_of_getElem? (i := 768) (by decide +kernel), List.mem_of_getElem? (i := 941) (by decide +kernel), List.mem_of_getElem? (i := 942) (by decide +kernel)⟩
theorem lw_p27 : lw_okq (⟨"SandPictureModel", "becomes", "(II)I"⟩, 34) := ⟨⟨by decide +kernel, by decide +kernel⟩, List.mem_of_getElem? (i := 768) (by decide +kernel), List.mem_of_getElem? (i := 957) (by decide +kernel), List.mem_of_getElem? (i := 958) (by decide +kernel)⟩
theorem lw_p28 : lw_okq (⟨"SandPictureModel", "draw", "()I"⟩, 34) := ⟨⟨by decide +kernel, by decide +kernel⟩, List.mem_of_getElem? (i := 768) (by decide +kernel), List.mem_of_getElem? (i := 986) (by decide +kernel), List.mem_of_getElem? (i := 987) (by decide +kernel)⟩
theorem lw_p29 : lw_okq (⟨"SandPictureModel", "goesOn", "(I)I"⟩, 34) := ⟨⟨by decide +kernel, by decide +kernel⟩, List.mem_of_getElem? (i := 768) (by decide +kernel), List.mem_of_getElem? (i := 999) (by decide +kernel), List.mem_of_getElem? (i := 1000) (by decide +kernel)⟩
theorem lw_p30 : lw_okq (⟨"SandPictureModel", "hour", "()I"⟩, 34) := ⟨⟨by decide +kernel, by decide +kernel⟩, List.mem_of_getElem? (i := 768) (by decide +kernel), List.mem_of_getElem? (i := 1003) (by decide +kernel), List.mem_of_getElem? (i := 1004) (by decide +kernel)⟩
theorem lw_p31 : lw_okq (⟨"SandPictureModel", "pours", "(II)V"⟩, 34) := ⟨⟨by decide +kernel, by decide +kernel⟩, List.mem_of_getElem? (i := 768) (by decide +kernel), List.mem_of_getElem? (i := 1007) (by decide +kernel), List.mem_of_getElem? (i := 1008) (by decide +kernel)⟩
def lw_privs_2 : List (MethodName × Nat) := [(⟨"SandPicture$Tape", "readClosing", "()V"⟩, 6), (⟨"SandPictureModel", "comes", "(III)I"⟩, 34), (⟨"SandPictureModel", "isMonk", "(I)Z"⟩, 34), (⟨"SandPictureModel", "of", "(II)I"⟩, 34), (⟨"SandPictureModel", "worthOf", "(I)I"⟩, 34), (⟨"SandPictureModel", "poursBy", "(II)I"⟩, 34), (⟨"SandPictureModel", "counts", "(I)I"⟩, 34), (⟨"SandPictureModel", "at0", "(II)I"⟩, 34), (⟨"SandPictureModel", "worksOut", "(I)I"⟩, 34), (⟨"SandPictureModel", "spills", "(II)I"⟩, 34), (⟨"SandPictureModel", "adds", "(II)I"⟩, 34), (⟨"SandPictureModel", "becomes", "(II)I"⟩, 34), (⟨"SandPictureModel", "draw", "()I"⟩, 34), (⟨"SandPictureModel", "goesOn", "(I)I"⟩, 34), (⟨"SandPictureModel", "hour", "()I"⟩, 34), (⟨"SandPictureModel", "pours", "(II)V"⟩, 34)]
theorem lw_r2 : ∀ q ∈ lw_privs_2, lw_okq q := List.forall_mem_cons.mpr ⟨lw_p16, List.forall_mem_cons.mpr ⟨lw_p17, List.forall_mem_cons.mpr ⟨lw_p18, List.forall_mem_cons.mpr ⟨lw_p19, List.forall_mem_cons.mpr ⟨lw_p20, List.forall_mem_cons.mpr ⟨lw_p21, List.forall_mem_cons.mpr ⟨lw_p22, List.forall_mem_cons.mpr ⟨lw_p23, List.forall_mem_cons.mpr ⟨lw_p24, List.forall_mem_cons.mpr ⟨lw_p25, List.forall_mem_cons.mpr ⟨lw_p26, List.forall_mem_cons.mpr ⟨lw_p27, List.forall_mem_cons.mpr ⟨lw_p28, List.forall_mem_cons.mpr ⟨lw_p29, List.forall_mem_cons.mpr ⟨lw_p30, List.forall_mem_cons.mpr ⟨lw_p31, fun _ h => absurd h List.not_mem_nil⟩⟩⟩⟩⟩⟩⟩⟩⟩⟩⟩⟩⟩⟩⟩⟩
theorem lw_p32 : lw_okq (⟨"SandPictureModel", "blows", "()V"⟩, 34) := ⟨⟨by decide +kernel, by decide +kernel⟩, List.mem_of_getElem? (i := 768) (by decide +kernel), List.mem_of_getElem? (i := 1011) (by decide +kernel), List.mem_of_getElem? (i := 1012) (by decide +kernel)⟩
theorem lw_p33 : lw_okq (⟨"SandPictureModel", "isDone", "(I)Z"⟩, 34) := ⟨⟨by decide +kernel, by decide +kernel⟩, List.mem_of_getElem? (i := 768) (by decide +kernel), List.mem_of_getElem? (i := 1015) (by decide +kernel), List.mem_of_getElem? (i := 1016) (by decide +kernel)⟩
theorem lw_p34 : lw_okq (⟨"SandPictureModel", "wipes", "(I)V"⟩, 34) := ⟨⟨by decide +kernel, by decide +kernel⟩, List.mem_of_getElem? (i := 768) (by decide +kernel), List.mem_of_getElem? (i := 1019) (by decide +kernel), List.mem_of_getElem? (i := 1020) (by decide +kernel)⟩
theorem lw_p35 : lw_okq (⟨"SandPictureModel", "sumOf", "(I)I"⟩, 34) := ⟨⟨by decide +kernel, by decide +kernel⟩, List.mem_of_getElem? (i := 768) (by decide +kernel), List.mem_of_getElem? (i := 1027) (by decide +kernel), List.mem_of_getElem? (i := 1028) (by decide +kernel)⟩
theorem lw_p36 : lw_okq (⟨"SandPictureModel", "thinks", "()V"⟩, 34) := ⟨⟨by decide +kernel, by decide +kernel⟩, List.mem_of_getElem? (i := 768) (by decide +kernel), List.mem_of_getElem? (i := 1039) (by decide +kernel), List.mem_of_getElem? (i := 1040) (by decide +kernel)⟩
theorem lw_p37 : lw_okq (⟨"SandPictureModel", "putsBack", "()V"⟩, 34) := ⟨⟨by decide +kernel, by decide +kernel⟩, List.mem_of_getElem? (i := 768) (by decide +kernel), List.mem_of_getElem? (i := 1043) (by decide +kernel), List.mem_of_getElem? (i := 1044) (by decide +kernel)⟩
theorem lw_p38 : lw_okq (⟨"SandPictureModel", "offBy", "(III)J"⟩, 34) := ⟨⟨by decide +kernel, by decide +kernel⟩, List.mem_of_getElem? (i := 768) (by decide +kernel), List.mem_of_getElem? (i := 1080) (by decide +kernel), List.mem_of_getElem? (i := 1081) (by decide +kernel)⟩
theorem lw_p39 : lw_okq (⟨"SandPictureModel", "go", "()V"⟩, 34) := ⟨⟨by decide +kernel, by decide +kernel⟩, List.mem_of_getElem? (i := 768) (by decide +kernel), List.mem_of_getElem? (i := 1100) (by decide +kernel), List.mem_of_getElem? (i := 1101) (by decide +kernel)⟩
theorem lw_p40 : lw_okq (⟨"SandPictureModel", "isLetter", "(I)Z"⟩, 34) := ⟨⟨by decide +kernel, by decide +kernel⟩, List.mem_of_getElem? (i := 768) (by decide +kernel), List.mem_of_getElem? (i := 1104) (by decide +kernel), List.mem_of_getElem? (i := 1105) (by decide +kernel)⟩
theorem lw_p41 : lw_okq (⟨"SandPictureModel", "isFigure", "(I)Z"⟩, 34) := ⟨⟨by decide +kernel, by decide +kernel⟩, List.mem_of_getElem? (i := 768) (by decide +kernel), List.mem_of_getElem? (i := 1108) (by decide +kernel), List.mem_of_getElem? (i := 1109) (by decide +kernel)⟩
theorem lw_p42 : lw_okq (⟨"SandPictureModel", "takesKey", "()Z"⟩, 34) := ⟨⟨by decide +kernel, by decide +kernel⟩, List.mem_of_getElem? (i := 768) (by decide +kernel), List.mem_of_getElem? (i := 1112) (by decide +kernel), List.mem_of_getElem? (i := 1113) (by decide +kernel)⟩
theorem lw_p43 : lw_okq (⟨"SandPictureModel", "takesE", "()Z"⟩, 34) := ⟨⟨by decide +kernel, by decide +kernel⟩, List.mem_of_getElem? (i := 768) (by decide +kernel), List.mem_of_getElem? (i := 1116) (by decide +kernel), List.mem_of_getElem? (i := 1117) (by decide +kernel)⟩
theorem lw_p44 : lw_okq (⟨"SandPictureModel", "takesPart", "()Z"⟩, 34) := ⟨⟨by decide +kernel, by decide +kernel⟩, List.mem_of_getElem? (i := 768) (by decide +kernel), List.mem_of_getElem? (i := 1120) (by decide +kernel), List.mem_of_getElem? (i := 1121) (by decide +kernel)⟩
theorem lw_p45 : lw_okq (⟨"SandPictureModel", "nameOf", "(I)I"⟩, 34) := ⟨⟨by decide +kernel, by decide +kernel⟩, List.mem_of_getElem? (i := 768) (by decide +kernel), List.mem_of_getElem? (i := 1124) (by decide +kernel), List.mem_of_getElem? (i := 1125) (by decide +kernel)⟩
theorem lw_p46 : lw_okq (⟨"SandPictureModel", "settle", "(I)V"⟩, 34) := ⟨⟨by decide +kernel, by decide +kernel⟩, List.mem_of_getElem? (i := 768) (by decide +kernel), List.mem_of_getElem? (i := 1128) (by decide +kernel), List.mem_of_getElem? (i := 1129) (by decide +kernel)⟩
theorem lw_p47 : lw_okq (⟨"SandPictureModel", "notsOpen", "()I"⟩, 34) := ⟨⟨by decide +kernel, by decide +kernel⟩, List.mem_of_getElem? (i := 768) (by decide +kernel), List.mem_of_getElem? (i := 1135) (by decide +kernel), List.mem_of_getElem? (i := 1136) (by decide +kernel)⟩
def lw_privs_3 : List (MethodName × Nat) := [(⟨"SandPictureModel", "blows", "()V"⟩, 34), (⟨"SandPictureModel", "isDone", "(I)Z"⟩, 34), (⟨"SandPictureModel", "wipes", "(I)V"⟩, 34), (⟨"SandPictureModel", "sumOf", "(I)I"⟩, 34), (⟨"SandPictureModel", "thinks", "()V"⟩, 34), (⟨"SandPictureModel", "putsBack", "()V"⟩, 34), (⟨"SandPictureModel", "offBy", "(III)J"⟩, 34), (⟨"SandPictureModel", "go", "()V"⟩, 34), (⟨"SandPictureModel", "isLetter", "(I)Z"⟩, 34), (⟨"SandPictureModel", "isFigure", "(I)Z"⟩, 34), (⟨"SandPictureModel", "takesKey", "()Z"⟩, 34), (⟨"SandPictureModel", "takesE", "()Z"⟩, 34), (⟨"SandPictureModel", "takesPart", "()Z"⟩, 34), (⟨"SandPictureModel", "nameOf", "(I)I"⟩, 34), (⟨"SandPictureModel", "settle", "(I)V"⟩, 34), (⟨"SandPictureModel", "notsOpen", "()I"⟩, 34)]
theorem lw_r3 : ∀ q ∈ lw_privs_3, lw_okq q := List.forall_mem_cons.mpr ⟨lw_p32, List.forall_mem_cons.mpr ⟨lw_p33, List.forall_mem_cons.mpr ⟨lw_p34, List.forall_mem_cons.mpr ⟨lw_p35, List.forall_mem_cons.mpr ⟨lw_p36, List.forall_mem_cons.mpr ⟨lw_p37, List.forall_mem_cons.mpr ⟨lw_p38, List.forall_mem_cons.mpr ⟨lw_p39, List.forall_mem_cons.mpr ⟨lw_p40, List.forall_mem_cons.mpr ⟨lw_p41, List.forall_mem_cons.mpr ⟨lw_p42, List.forall_mem_cons.mpr ⟨lw_p43, List.forall_mem_cons.mpr ⟨lw_p44, List.forall_mem_cons.mpr ⟨lw_p45, List.forall_mem_cons.mpr ⟨lw_p46, List.forall_mem_cons.mpr ⟨lw_p47, fun _ h => absurd h List.not_mem_nil⟩⟩⟩⟩⟩⟩⟩⟩⟩⟩⟩⟩⟩⟩⟩⟩
theorem lw_p48 : lw_okq (⟨"SandPictureModel", "signHere", "()I"⟩, 34) := ⟨⟨by decide +kernel, by decide +kernel⟩, List.mem_of_getElem? (i := 768) (by decide +kernel), List.mem_of_getElem? (i := 1139) (by decide +kernel), List.mem_of_getElem? (i := 1140) (by decide +kernel)⟩
theorem lw_p49 : lw_okq (⟨"SandPictureModel", "sandAll", "()I"⟩, 34) := ⟨⟨by decide +kernel, by decide +kernel⟩, List.mem_of_getElem? (i := 768) (by decide +kernel), List.mem_of_getElem? (i := 1205) (by decide +kernel), List.mem_of_getElem? (i := 1206) (by decide +kernel)⟩
theorem lw_p50 : lw_okq (⟨"SandPictureModel", "faulty", "()I"⟩, 34) := ⟨⟨by decide +kernel, by decide +kernel⟩, List.mem_of_getElem? (i := 768) (by decide +kernel), List.mem_of_getElem? (i := 1221) (by decide +kernel), List.mem_of_getElem? (i := 1222) (by decide +kernel)⟩
def lw_privs_4 : List (MethodName × Nat) := [(⟨"SandPictureModel", "signHere", "()I"⟩, 34), (⟨"SandPictureModel", "sandAll", "()I"⟩, 34), (⟨"SandPictureModel", "faulty", "()I"⟩, 34)]
theorem lw_r4 : ∀ q ∈ lw_privs_4, lw_okq q := List.forall_mem_cons.mpr ⟨lw_p48, List.forall_mem_cons.mpr ⟨lw_p49, List.forall_mem_cons.mpr ⟨lw_p50, fun _ h => absurd h List.not_mem_nil⟩⟩⟩
def lw_privs : List (MethodName × Nat) := lw_privs_1 ++ (lw_privs_2 ++ (lw_privs_3 ++ (lw_privs_4)))
def lw_tbl : List Cond := k2_sels lw_privs ++ tables_1
theorem lw_privs_ok : ∀ q ∈ lw_privs, lw_okq q := by
  show ∀ q ∈ lw_privs_1 ++ (lw_privs_2 ++ (lw_privs_3 ++ (lw_privs_4))), lw_okq q
  exact List.forall_mem_append.mpr ⟨lw_r1, List.forall_mem_append.mpr ⟨lw_r2, List.forall_mem_append.mpr ⟨lw_r3, lw_r4⟩⟩⟩
end
section
/-! THE WORLD: cells at consecutive addresses from a base b on; each cell has a SHAPE (which never changes behind the constructors), and the ints in it are told by ONE function mem: cell, place -> int. -/
abbrev Mm : Type := Nat → Nat → Int32
/-- a place of an object: none: an int; some none: null; some (some t): a reference to cell t -/
abbrev Sl : Type := Option (Option Nat)
/-- a cell: an object (its class, its places); a row of ints (its class, its length); a row of references (its class, what they are) -/
abbrev Sh : Type := (Nat × List Sl) ⊕ ((Nat × Nat) ⊕ (Nat × List (Option Nat)))
abbrev En : Type := va_G × (Nat → ClassId) × Nat × (Nat → Nat) × (Nat → Nat)
abbrev Cx : Type := Program × Launch × Env × Room × State × MethodId × Array Value × List Frame × Method × Code × (Nat × Nat) × (State → Prop)
def mst (mem : Mm) (k i : Nat) (v : Int32) : Mm := va_up mem k (upd (mem k) i v)
def slv (b : Nat) (f : Nat → Int32) (i : Nat) (s : Sl) : Value := match s with
  | none => .int (f i)
  | some r => va_rf (r.map (fun t => b + t))
def fls (b : Nat) (f : Nat → Int32) (sl : List Sl) : List Value := sl.mapIdx (fun i s => slv b f i s)
def cel (cA : Nat → ClassId) (b : Nat) (f : Nat → Int32) (h : Sh) : va_E := match h with
  | .inl q => .inr (q.1, fls b f q.2)
  | .inr (.inl q) => .inl (cA q.1, q.2, .inl f)
  | .inr (.inr q) => .inl (cA q.1, q.2.length, .inr (.inr (.inr (.inr (fun j => (q.2.getD j none).map (fun t => b + t))))))
def wd (E : En) (sh : List Sh) (mem : Mm) : va_W := sh.mapIdx (fun k h => (E.2.2.1 + k, cel E.2.1 E.2.2.1 (mem k) h))
abbrev eb (E : En) : Nat := E.2.2.1
def Ab (E : En) : Nat → Prop := fun q => E.2.2.1 ≤ q
theorem wd_at {E : En} {sh : List Sh} {mem : Mm} {k : Nat} {h : Sh} (hk : sh[k]? = some h) : (wd E sh mem)[k]? = some (E.2.2.1 + k, cel E.2.1 E.2.2.1 (mem k) h) := by
  unfold wd
  rw [List.getElem?_mapIdx, hk]
  rfl
theorem wd_out {E : En} {sh : List Sh} {mem : Mm} {k : Nat} {q : Nat × va_E} (h : (wd E sh mem)[k]? = some q) : ∃ s, sh[k]? = some s ∧ q = (E.2.2.1 + k, cel E.2.1 E.2.2.1 (mem k) s) := by
  unfold wd at h
  rw [List.getElem?_mapIdx] at h
  cases hs : sh[k]? with
  | none => rw [hs] at h; cases h
  | some s => rw [hs] at h; exact ⟨s, rfl, (Option.some.inj h).symm⟩
theorem wd_D (E : En) (sh : List Sh) (mem : Mm) : va_D (Ab E) (wd E sh mem) := by
  refine ⟨fun i j p q hi hj hpq => ?_, fun k q hk => ?_⟩
  · obtain ⟨_, _, e1⟩ := wd_out hi
    obtain ⟨_, _, e2⟩ := wd_out hj
    rw [e1, e2] at hpq
    exact Nat.add_left_cancel hpq
  · obtain ⟨-, -, rfl⟩ := wd_out hk
    exact Nat.le_add_right _ _
theorem wd_set {E : En} {sh : List Sh} {mem : Mm} {k : Nat} {h : Sh} (hk : sh[k]? = some h) (g : Nat → Int32) : (wd E sh mem).set k (E.2.2.1 + k, cel E.2.1 E.2.2.1 g h) = wd E sh (va_up mem k g) := by
  have hlt : k < sh.length := (List.getElem?_eq_some_iff.mp hk).1
  have hlen : k < (wd E sh mem).length := by unfold wd; rw [List.length_mapIdx]; exact hlt
  apply List.ext_getElem?
  intro j
  by_cases hj : j = k
  · subst hj
    rw [List.getElem?_set_self hlen, wd_at hk, va_up_self]
  · rw [List.getElem?_set_ne (Ne.symm hj)]
    cases hs : sh[j]? with
    | none => simp [wd, List.getElem?_mapIdx, hs]
    | some s => rw [wd_at hs, wd_at hs, va_up_ne _ _ hj]
theorem wd_seth {E : En} {sh : List Sh} {mem : Mm} {k : Nat} {h : Sh} (hk : sh[k]? = some h) (h2 : Sh) : (wd E sh mem).set k (E.2.2.1 + k, cel E.2.1 E.2.2.1 (mem k) h2) = wd E (sh.set k h2) mem := by
  have hlt : k < sh.length := (List.getElem?_eq_some_iff.mp hk).1
  have hlen : k < (wd E sh mem).length := by unfold wd; rw [List.length_mapIdx]; exact hlt
  apply List.ext_getElem?
  intro j
  by_cases hj : j = k
  · subst hj
    rw [List.getElem?_set_self hlen, wd_at (List.getElem?_set_self hlt)]
  · rw [List.getElem?_set_ne (Ne.symm hj)]
    cases hs : sh[j]? with
    | none => simp [wd, List.getElem?_mapIdx, hs, List.getElem?_set_ne (Ne.symm hj)]
    | some s => rw [wd_at hs, wd_at (by rw [List.getElem?_set_ne (Ne.symm hj)]; exact hs)]
theorem wd_push (E : En) (sh : List Sh) (mem : Mm) (h : Sh) (g : Nat → Int32) : wd E sh mem ++ [(E.2.2.1 + sh.length, cel E.2.1 E.2.2.1 g h)] = wd E (sh ++ [h]) (va_up mem sh.length g) := by
  have hl : (wd E sh mem).length = sh.length := by unfold wd; rw [List.length_mapIdx]
  apply List.ext_getElem?
  intro j
  rcases Nat.lt_trichotomy j sh.length with hj | hj | hj
  · obtain ⟨s, hs⟩ : ∃ s, sh[j]? = some s := ⟨_, List.getElem?_eq_getElem hj⟩
    rw [List.getElem?_append_left (by rw [hl]; exact hj), wd_at hs, wd_at (by rw [List.getElem?_append_left hj]; exact hs), va_up_ne _ _ (Nat.ne_of_lt hj)]
  · subst hj
    rw [List.getElem?_append_right (by rw [hl]; exact Nat.le_refl _), hl, Nat.sub_self, wd_at (h := h) (by rw [List.getElem?_append_right (Nat.le_refl _), Nat.sub_self]; rfl), va_up_self]
    rfl
  · rw [List.getElem?_eq_none (by simp [hl]; omega), List.getElem?_eq_none (by simp [wd]; omega)]
theorem fls_at {b : Nat} {f : Nat → Int32} {sl : List Sl} {i : Nat} {s : Sl} (h : sl[i]? = some s) : (fls b f sl)[i]? = some (slv b f i s) := by
  unfold fls
  rw [List.getElem?_mapIdx, h]
  rfl
theorem fls_len (b : Nat) (f : Nat → Int32) (sl : List Sl) : (fls b f sl).length = sl.length := by unfold fls; rw [List.length_mapIdx]
theorem fls_int {b : Nat} {f : Nat → Int32} {sl : List Sl} {i : Nat} (h : sl[i]? = some none) (v : Int32) : (fls b f sl).set i (.int v) = fls b (upd f i v) sl := by
  have hlt : i < sl.length := (List.getElem?_eq_some_iff.mp h).1
  apply List.ext_getElem?
  intro j
  by_cases hj : j = i
  · subst hj
    rw [List.getElem?_set_self (by rw [fls_len]; exact hlt), fls_at h]
    simp [slv, upd]
  · rw [List.getElem?_set_ne (Ne.symm hj)]
    cases hs : sl[j]? with
    | none => simp [fls, List.getElem?_mapIdx, hs]
    | some s =>
      rw [fls_at hs, fls_at hs]
      cases s with
      | none => simp [slv, upd, hj]
      | some r => rfl
theorem fls_ref {b : Nat} {f : Nat → Int32} {sl : List Sl} {i : Nat} {s : Sl} (h : sl[i]? = some s) (t : Nat) : (fls b f sl).set i (.ref (b + t)) = fls b f (sl.set i (some (some t))) := by
  have hlt : i < sl.length := (List.getElem?_eq_some_iff.mp h).1
  apply List.ext_getElem?
  intro j
  by_cases hj : j = i
  · subst hj
    rw [List.getElem?_set_self (by rw [fls_len]; exact hlt), fls_at (List.getElem?_set_self hlt)]
    rfl
  · rw [List.getElem?_set_ne (Ne.symm hj)]
    cases hs : sl[j]? with
    | none => simp [fls, List.getElem?_mapIdx, hs, List.getElem?_set_ne (Ne.symm hj)]
    | some s => rw [fls_at hs, fls_at (by rw [List.getElem?_set_ne (Ne.symm hj)]; exact hs)]
-- indices
def inb (i : Int32) (n : Nat) : Bool := decide (0 ≤ i) && decide (i.toNatClampNeg < n)
abbrev ix (i : Int32) : Nat := i.toNatClampNeg
theorem inb_vp {i : Int32} {n : Nat} (h : inb i n = true) : vp_in i n := by
  unfold inb at h
  simp only [Bool.and_eq_true, decide_eq_true_eq] at h
  intro q
  rcases q with q | q
  · rw [Int32.lt_iff_toInt_lt] at q
    have := Int32.le_iff_toInt_le.mp h.1
    omega
  · omega
-- the tables' good words
def TB : List Cond := lw_tbl.filter goodWord
theorem tb_in {w : Cond} (h : w ∈ lw_tbl) (hg : goodWord w = true) : w ∈ TB := List.mem_filter.mpr ⟨h, hg⟩
theorem tb_t {w : Cond} (i : Nat) (h : tables_1[i]? = some w ∧ goodWord w = true) : w ∈ TB := tb_in (List.mem_append_right _ (List.mem_of_getElem? h.1)) h.2
theorem tb_s {w : Cond} (i : Nat) (h : (k2_sels lw_privs)[i]? = some w ∧ goodWord w = true) : w ∈ TB := tb_in (List.mem_append_left _ (List.mem_of_getElem? h.1)) h.2
theorem tb_good {w : Cond} (h : w ∈ TB) : (w.onTables && w.keeps) = true ∨ ∃ ty, w = .arrayClass ty := good_of_word (List.mem_filter.mp h).2
end
section
def R0 : String := "SandPicture$Picture"
def T0 : u_T := fun k => match k with
  | 0 => ("SandPicture$Picture", "texts", "[LSandPicture$Text;", true)
  | 1 => ("SandPicture$Picture", "stack", "[I", true)
  | 2 => ("SandPicture$Picture", "textCount", "I", false)
  | 3 => ("SandPicture$Picture", "law", "[I", true)
  | 4 => ("SandPicture$Picture", "monks", "I", false)
  | 5 => ("SandPicture$Picture", "kind", "[I", true)
  | 6 => ("SandPicture$Picture", "pace", "[I", true)
  | 7 => ("SandPicture$Picture", "at", "[I", true)
  | 8 => ("SandPicture$Picture", "need", "[I", true)
  | 9 => ("SandPicture$Picture", "done", "[I", true)
  | 10 => ("SandPicture$Picture", "faults", "[I", true)
  | 11 => ("SandPicture$Picture", "wiped", "[I", true)
  | 12 => ("SandPicture$Picture", "sand", "[I", true)
  | 13 => ("SandPicture$Picture", "wind", "I", false)
  | 14 => ("SandPicture$Picture", "spilt", "I", false)
  | 15 => ("SandPicture$Picture", "hour", "I", false)
  | 16 => ("SandPicture$Picture", "ends", "I", false)
  | 17 => ("SandPicture$Picture", "z", "I", false)
  | _ => ("SandPicture$Picture", "idle", "I", false)
def ty0 : Nat → FieldType := fun k => match k with
  | 0 => .array (.object "SandPicture$Text")
  | 1 => .array .int
  | 2 => .int
  | 3 => .array .int
  | 4 => .int
  | 5 => .array .int
  | 6 => .array .int
  | 7 => .array .int
  | 8 => .array .int
  | 9 => .array .int
  | 10 => .array .int
  | 11 => .array .int
  | 12 => .array .int
  | 13 => .int
  | 14 => .int
  | 15 => .int
  | 16 => .int
  | 17 => .int
  | _ => .int
theorem nm0 : ∀ a, a < 19 → ∀ b, b < 19 → a ≠ b → (T0 a).2.1 ≠ (T0 b).2.1 := by decide +kernel
theorem tok0 : ∀ k, k < 19 → parseFieldDescriptor (T0 k).2.2.1 = some (ty0 k) := by decide +kernel
theorem iw0_0 : u_lay R0 T0 0 ∈ TB := tb_t 121 (by decide +kernel)
theorem iw0_1 : u_lay R0 T0 1 ∈ TB := tb_t 123 (by decide +kernel)
theorem iw0_2 : u_lay R0 T0 2 ∈ TB := tb_t 125 (by decide +kernel)
theorem iw0_3 : u_lay R0 T0 3 ∈ TB := tb_t 127 (by decide +kernel)
theorem iw0_4 : u_lay R0 T0 4 ∈ TB := tb_t 129 (by decide +kernel)
theorem iw0_5 : u_lay R0 T0 5 ∈ TB := tb_t 131 (by decide +kernel)
theorem iw0_6 : u_lay R0 T0 6 ∈ TB := tb_t 133 (by decide +kernel)
theorem iw0_7 : u_lay R0 T0 7 ∈ TB := tb_t 135 (by decide +kernel)
theorem iw0_8 : u_lay R0 T0 8 ∈ TB := tb_t 137 (by decide +kernel)
theorem iw0_9 : u_lay R0 T0 9 ∈ TB := tb_t 139 (by decide +kernel)
theorem iw0_10 : u_lay R0 T0 10 ∈ TB := tb_t 141 (by decide +kernel)
theorem iw0_11 : u_lay R0 T0 11 ∈ TB := tb_t 143 (by decide +kernel)
theorem iw0_12 : u_lay R0 T0 12 ∈ TB := tb_t 145 (by decide +kernel)
theorem iw0_13 : u_lay R0 T0 13 ∈ TB := tb_t 147 (by decide +kernel)
theorem iw0_14 : u_lay R0 T0 14 ∈ TB := tb_t 149 (by decide +kernel)
theorem iw0_15 : u_lay R0 T0 15 ∈ TB := tb_t 151 (by decide +kernel)
theorem iw0_16 : u_lay R0 T0 16 ∈ TB := tb_t 153 (by decide +kernel)
theorem iw0_17 : u_lay R0 T0 17 ∈ TB := tb_t 155 (by decide +kernel)
theorem iw0_18 : u_lay R0 T0 18 ∈ TB := tb_t 157 (by decide +kernel)
theorem iw0 : ∀ w ∈ u_ws R0 T0 19, w ∈ TB := by
  intro w hw
  obtain ⟨k, hk, rfl⟩ := List.mem_map.mp hw
  have hk := List.mem_range.mp hk
  match k, hk with
  | 0, _ => exact iw0_0
  | 1, _ => exact iw0_1
  | 2, _ => exact iw0_2
  | 3, _ => exact iw0_3
  | 4, _ => exact iw0_4
  | 5, _ => exact iw0_5
  | 6, _ => exact iw0_6
  | 7, _ => exact iw0_7
  | 8, _ => exact iw0_8
  | 9, _ => exact iw0_9
  | 10, _ => exact iw0_10
  | 11, _ => exact iw0_11
  | 12, _ => exact iw0_12
  | 13, _ => exact iw0_13
  | 14, _ => exact iw0_14
  | 15, _ => exact iw0_15
  | 16, _ => exact iw0_16
  | 17, _ => exact iw0_17
  | 18, _ => exact iw0_18
  | k + 19, h => exact absurd h (by omega)
theorem inst0 : Cond.instantiable R0 19 ∈ TB := tb_t 79 (by decide +kernel)
def R1 : String := "SandPicture$Sheet"
def T1 : u_T := fun k => match k with
  | 0 => ("SandPicture$Sheet", "sort", "I", false)
  | 1 => ("SandPicture$Sheet", "size", "I", false)
  | _ => ("SandPicture$Sheet", "places", "[I", true)
def ty1 : Nat → FieldType := fun k => match k with
  | 0 => .int
  | 1 => .int
  | _ => .array .int
theorem nm1 : ∀ a, a < 3 → ∀ b, b < 3 → a ≠ b → (T1 a).2.1 ≠ (T1 b).2.1 := by decide +kernel
theorem tok1 : ∀ k, k < 3 → parseFieldDescriptor (T1 k).2.2.1 = some (ty1 k) := by decide +kernel
theorem iw1_0 : u_lay R1 T1 0 ∈ TB := tb_t 171 (by decide +kernel)
theorem iw1_1 : u_lay R1 T1 1 ∈ TB := tb_t 173 (by decide +kernel)
theorem iw1_2 : u_lay R1 T1 2 ∈ TB := tb_t 175 (by decide +kernel)
theorem iw1 : ∀ w ∈ u_ws R1 T1 3, w ∈ TB := by
  intro w hw
  obtain ⟨k, hk, rfl⟩ := List.mem_map.mp hw
  have hk := List.mem_range.mp hk
  match k, hk with
  | 0, _ => exact iw1_0
  | 1, _ => exact iw1_1
  | 2, _ => exact iw1_2
  | k + 3, h => exact absurd h (by omega)
theorem inst1 : Cond.instantiable R1 3 ∈ TB := tb_t 160 (by decide +kernel)
def R2 : String := "SandPicture$Slot"
def T2 : u_T := fun k => match k with
  | 0 => ("SandPicture$Slot", "holds", "I", false)
  | 1 => ("SandPicture$Slot", "kind", "I", false)
  | 2 => ("SandPicture$Slot", "pace", "I", false)
  | 3 => ("SandPicture$Slot", "number", "I", false)
  | _ => ("SandPicture$Slot", "sheet", "LSandPicture$Sheet;", true)
def ty2 : Nat → FieldType := fun k => match k with
  | 0 => .int
  | 1 => .int
  | 2 => .int
  | 3 => .int
  | _ => .object "SandPicture$Sheet"
theorem nm2 : ∀ a, a < 5 → ∀ b, b < 5 → a ≠ b → (T2 a).2.1 ≠ (T2 b).2.1 := by decide +kernel
theorem tok2 : ∀ k, k < 5 → parseFieldDescriptor (T2 k).2.2.1 = some (ty2 k) := by decide +kernel
theorem iw2_0 : u_lay R2 T2 0 ∈ TB := tb_t 195 (by decide +kernel)
theorem iw2_1 : u_lay R2 T2 1 ∈ TB := tb_t 197 (by decide +kernel)
theorem iw2_2 : u_lay R2 T2 2 ∈ TB := tb_t 199 (by decide +kernel)
theorem iw2_3 : u_lay R2 T2 3 ∈ TB := tb_t 201 (by decide +kernel)
theorem iw2_4 : u_lay R2 T2 4 ∈ TB := tb_t 203 (by decide +kernel)
theorem iw2 : ∀ w ∈ u_ws R2 T2 5, w ∈ TB := by
  intro w hw
  obtain ⟨k, hk, rfl⟩ := List.mem_map.mp hw
  have hk := List.mem_range.mp hk
  match k, hk with
  | 0, _ => exact iw2_0
  | 1, _ => exact iw2_1
  | 2, _ => exact iw2_2
  | 3, _ => exact iw2_3
  | 4, _ => exact iw2_4
  | k + 5, h => exact absurd h (by omega)
theorem inst2 : Cond.instantiable R2 5 ∈ TB := tb_t 178 (by decide +kernel)
def R3 : String := "SandPicture$Tape"
def T3 : u_T := fun k => match k with
  | 0 => ("SandPicture$Tape", "size", "I", false)
  | 1 => ("SandPicture$Tape", "bytes", "[I", true)
  | 2 => ("SandPicture$Tape", "from", "I", false)
  | 3 => ("SandPicture$Tape", "to", "I", false)
  | 4 => ("SandPicture$Tape", "stuck", "Z", false)
  | _ => ("SandPicture$Tape", "fault", "I", false)
def ty3 : Nat → FieldType := fun k => match k with
  | 0 => .int
  | 1 => .array .int
  | 2 => .int
  | 3 => .int
  | 4 => .boolean
  | _ => .int
theorem nm3 : ∀ a, a < 6 → ∀ b, b < 6 → a ≠ b → (T3 a).2.1 ≠ (T3 b).2.1 := by decide +kernel
theorem tok3 : ∀ k, k < 6 → parseFieldDescriptor (T3 k).2.2.1 = some (ty3 k) := by decide +kernel
theorem iw3_0 : u_lay R3 T3 0 ∈ TB := tb_t 39 (by decide +kernel)
theorem iw3_1 : u_lay R3 T3 1 ∈ TB := tb_t 41 (by decide +kernel)
theorem iw3_2 : u_lay R3 T3 2 ∈ TB := tb_t 43 (by decide +kernel)
theorem iw3_3 : u_lay R3 T3 3 ∈ TB := tb_t 45 (by decide +kernel)
theorem iw3_4 : u_lay R3 T3 4 ∈ TB := tb_t 47 (by decide +kernel)
theorem iw3_5 : u_lay R3 T3 5 ∈ TB := tb_t 49 (by decide +kernel)
theorem iw3 : ∀ w ∈ u_ws R3 T3 6, w ∈ TB := by
  intro w hw
  obtain ⟨k, hk, rfl⟩ := List.mem_map.mp hw
  have hk := List.mem_range.mp hk
  match k, hk with
  | 0, _ => exact iw3_0
  | 1, _ => exact iw3_1
  | 2, _ => exact iw3_2
  | 3, _ => exact iw3_3
  | 4, _ => exact iw3_4
  | 5, _ => exact iw3_5
  | k + 6, h => exact absurd h (by omega)
theorem inst3 : Cond.instantiable R3 6 ∈ TB := tb_t 27 (by decide +kernel)
def R4 : String := "SandPicture$Text"
def T4 : u_T := fun k => match k with
  | 0 => ("SandPicture$Text", "key", "I", false)
  | 1 => ("SandPicture$Text", "leaves", "I", false)
  | 2 => ("SandPicture$Text", "size", "I", false)
  | _ => ("SandPicture$Text", "codes", "[I", true)
def ty4 : Nat → FieldType := fun k => match k with
  | 0 => .int
  | 1 => .int
  | 2 => .int
  | _ => .array .int
theorem nm4 : ∀ a, a < 4 → ∀ b, b < 4 → a ≠ b → (T4 a).2.1 ≠ (T4 b).2.1 := by decide +kernel
theorem tok4 : ∀ k, k < 4 → parseFieldDescriptor (T4 k).2.2.1 = some (ty4 k) := by decide +kernel
theorem iw4_0 : u_lay R4 T4 0 ∈ TB := tb_t 69 (by decide +kernel)
theorem iw4_1 : u_lay R4 T4 1 ∈ TB := tb_t 71 (by decide +kernel)
theorem iw4_2 : u_lay R4 T4 2 ∈ TB := tb_t 73 (by decide +kernel)
theorem iw4_3 : u_lay R4 T4 3 ∈ TB := tb_t 75 (by decide +kernel)
theorem iw4 : ∀ w ∈ u_ws R4 T4 4, w ∈ TB := by
  intro w hw
  obtain ⟨k, hk, rfl⟩ := List.mem_map.mp hw
  have hk := List.mem_range.mp hk
  match k, hk with
  | 0, _ => exact iw4_0
  | 1, _ => exact iw4_1
  | 2, _ => exact iw4_2
  | 3, _ => exact iw4_3
  | k + 4, h => exact absurd h (by omega)
theorem inst4 : Cond.instantiable R4 4 ∈ TB := tb_t 57 (by decide +kernel)
def R5 : String := "SandPicture"
def T5 : u_T := fun k => match k with
  | 0 => ("SandPicture", "texts", "[LSandPicture$Text;", true)
  | 1 => ("SandPicture", "tape", "LSandPicture$Tape;", true)
  | 2 => ("SandPicture", "now", "LSandPicture$Picture;", true)
  | 3 => ("SandPicture", "image", "LSandPicture$Picture;", true)
  | 4 => ("SandPicture", "thought", "LSandPicture$Picture;", true)
  | 5 => ("SandPicture", "kept", "Z", false)
  | 6 => ("SandPicture", "sheets", "[LSandPicture$Sheet;", true)
  | 7 => ("SandPicture", "slots", "[LSandPicture$Slot;", true)
  | 8 => ("SandPicture", "waiting", "[I", true)
  | _ => ("SandPicture", "waits", "I", false)
def ty5 : Nat → FieldType := fun k => match k with
  | 0 => .array (.object "SandPicture$Text")
  | 1 => .object "SandPicture$Tape"
  | 2 => .object "SandPicture$Picture"
  | 3 => .object "SandPicture$Picture"
  | 4 => .object "SandPicture$Picture"
  | 5 => .boolean
  | 6 => .array (.object "SandPicture$Sheet")
  | 7 => .array (.object "SandPicture$Slot")
  | 8 => .array .int
  | _ => .int
theorem nm5 : ∀ a, a < 10 → ∀ b, b < 10 → a ≠ b → (T5 a).2.1 ≠ (T5 b).2.1 := by decide +kernel
theorem tok5 : ∀ k, k < 10 → parseFieldDescriptor (T5 k).2.2.1 = some (ty5 k) := by decide +kernel
theorem iw5_0 : u_lay R5 T5 0 ∈ TB := tb_t 216 (by decide +kernel)
theorem iw5_1 : u_lay R5 T5 1 ∈ TB := tb_t 218 (by decide +kernel)
theorem iw5_2 : u_lay R5 T5 2 ∈ TB := tb_t 220 (by decide +kernel)
theorem iw5_3 : u_lay R5 T5 3 ∈ TB := tb_t 222 (by decide +kernel)
theorem iw5_4 : u_lay R5 T5 4 ∈ TB := tb_t 224 (by decide +kernel)
theorem iw5_5 : u_lay R5 T5 5 ∈ TB := tb_t 226 (by decide +kernel)
theorem iw5_6 : u_lay R5 T5 6 ∈ TB := tb_t 228 (by decide +kernel)
theorem iw5_7 : u_lay R5 T5 7 ∈ TB := tb_t 230 (by decide +kernel)
theorem iw5_8 : u_lay R5 T5 8 ∈ TB := tb_t 232 (by decide +kernel)
theorem iw5_9 : u_lay R5 T5 9 ∈ TB := tb_t 234 (by decide +kernel)
theorem iw5 : ∀ w ∈ u_ws R5 T5 10, w ∈ TB := by
  intro w hw
  obtain ⟨k, hk, rfl⟩ := List.mem_map.mp hw
  have hk := List.mem_range.mp hk
  match k, hk with
  | 0, _ => exact iw5_0
  | 1, _ => exact iw5_1
  | 2, _ => exact iw5_2
  | 3, _ => exact iw5_3
  | 4, _ => exact iw5_4
  | 5, _ => exact iw5_5
  | 6, _ => exact iw5_6
  | 7, _ => exact iw5_7
  | 8, _ => exact iw5_8
  | 9, _ => exact iw5_9
  | k + 10, h => exact absurd h (by omega)
theorem inst5 : Cond.instantiable R5 10 ∈ TB := tb_t 17 (by decide +kernel)
def R6 : String := "SandPictureModel"
def T6 : u_T := fun k => match k with
  | 0 => ("SandPictureModel", "now", "[I", true)
  | 1 => ("SandPictureModel", "image", "[I", true)
  | 2 => ("SandPictureModel", "aside", "[I", true)
  | 3 => ("SandPictureModel", "hasImage", "Z", false)
  | 4 => ("SandPictureModel", "idle", "I", false)
  | 5 => ("SandPictureModel", "before", "[I", true)
  | 6 => ("SandPictureModel", "tape", "[I", true)
  | 7 => ("SandPictureModel", "taped", "I", false)
  | 8 => ("SandPictureModel", "next", "I", false)
  | 9 => ("SandPictureModel", "from", "I", false)
  | 10 => ("SandPictureModel", "token", "I", false)
  | 11 => ("SandPictureModel", "value", "I", false)
  | 12 => ("SandPictureModel", "ended", "I", false)
  | 13 => ("SandPictureModel", "key", "I", false)
  | 14 => ("SandPictureModel", "keys", "[C", true)
  | 15 => ("SandPictureModel", "keyAt", "[I", true)
  | 16 => ("SandPictureModel", "code", "[I", true)
  | 17 => ("SandPictureModel", "codes", "I", false)
  | 18 => ("SandPictureModel", "atoms", "I", false)
  | 19 => ("SandPictureModel", "waits", "[I", true)
  | 20 => ("SandPictureModel", "held", "I", false)
  | 21 => ("SandPictureModel", "tested", "[Z", true)
  | 22 => ("SandPictureModel", "stack", "[I", true)
  | 23 => ("SandPictureModel", "facts", "[I", true)
  | 24 => ("SandPictureModel", "sorts", "[I", true)
  | 25 => ("SandPictureModel", "sizes", "[I", true)
  | 26 => ("SandPictureModel", "cells", "[I", true)
  | 27 => ("SandPictureModel", "holds", "[I", true)
  | 28 => ("SandPictureModel", "holdsA", "[I", true)
  | 29 => ("SandPictureModel", "holdsB", "[I", true)
  | 30 => ("SandPictureModel", "heldCells", "[I", true)
  | 31 => ("SandPictureModel", "moved", "[I", true)
  | 32 => ("SandPictureModel", "tells", "[I", true)
  | _ => ("SandPictureModel", "waiting", "I", false)
def ty6 : Nat → FieldType := fun k => match k with
  | 0 => .array .int
  | 1 => .array .int
  | 2 => .array .int
  | 3 => .boolean
  | 4 => .int
  | 5 => .array .int
  | 6 => .array .int
  | 7 => .int
  | 8 => .int
  | 9 => .int
  | 10 => .int
  | 11 => .int
  | 12 => .int
  | 13 => .int
  | 14 => .array .char
  | 15 => .array .int
  | 16 => .array .int
  | 17 => .int
  | 18 => .int
  | 19 => .array .int
  | 20 => .int
  | 21 => .array .boolean
  | 22 => .array .int
  | 23 => .array .int
  | 24 => .array .int
  | 25 => .array .int
  | 26 => .array .int
  | 27 => .array .int
  | 28 => .array .int
  | 29 => .array .int
  | 30 => .array .int
  | 31 => .array .int
  | 32 => .array .int
  | _ => .int
theorem nm6 : ∀ a, a < 34 → ∀ b, b < 34 → a ≠ b → (T6 a).2.1 ≠ (T6 b).2.1 := by decide +kernel
theorem tok6 : ∀ k, k < 34 → parseFieldDescriptor (T6 k).2.2.1 = some (ty6 k) := by decide +kernel
theorem iw6_0 : u_lay R6 T6 0 ∈ TB := tb_t 807 (by decide +kernel)
theorem iw6_1 : u_lay R6 T6 1 ∈ TB := tb_t 809 (by decide +kernel)
theorem iw6_2 : u_lay R6 T6 2 ∈ TB := tb_t 811 (by decide +kernel)
theorem iw6_3 : u_lay R6 T6 3 ∈ TB := tb_t 813 (by decide +kernel)
theorem iw6_4 : u_lay R6 T6 4 ∈ TB := tb_t 815 (by decide +kernel)
theorem iw6_5 : u_lay R6 T6 5 ∈ TB := tb_t 817 (by decide +kernel)
theorem iw6_6 : u_lay R6 T6 6 ∈ TB := tb_t 819 (by decide +kernel)
theorem iw6_7 : u_lay R6 T6 7 ∈ TB := tb_t 821 (by decide +kernel)
theorem iw6_8 : u_lay R6 T6 8 ∈ TB := tb_t 823 (by decide +kernel)
theorem iw6_9 : u_lay R6 T6 9 ∈ TB := tb_t 825 (by decide +kernel)
theorem iw6_10 : u_lay R6 T6 10 ∈ TB := tb_t 827 (by decide +kernel)
theorem iw6_11 : u_lay R6 T6 11 ∈ TB := tb_t 829 (by decide +kernel)
theorem iw6_12 : u_lay R6 T6 12 ∈ TB := tb_t 831 (by decide +kernel)
theorem iw6_13 : u_lay R6 T6 13 ∈ TB := tb_t 833 (by decide +kernel)
theorem iw6_14 : u_lay R6 T6 14 ∈ TB := tb_t 835 (by decide +kernel)
theorem iw6_15 : u_lay R6 T6 15 ∈ TB := tb_t 837 (by decide +kernel)
theorem iw6_16 : u_lay R6 T6 16 ∈ TB := tb_t 839 (by decide +kernel)
theorem iw6_17 : u_lay R6 T6 17 ∈ TB := tb_t 841 (by decide +kernel)
theorem iw6_18 : u_lay R6 T6 18 ∈ TB := tb_t 843 (by decide +kernel)
theorem iw6_19 : u_lay R6 T6 19 ∈ TB := tb_t 845 (by decide +kernel)
theorem iw6_20 : u_lay R6 T6 20 ∈ TB := tb_t 847 (by decide +kernel)
theorem iw6_21 : u_lay R6 T6 21 ∈ TB := tb_t 849 (by decide +kernel)
theorem iw6_22 : u_lay R6 T6 22 ∈ TB := tb_t 851 (by decide +kernel)
theorem iw6_23 : u_lay R6 T6 23 ∈ TB := tb_t 853 (by decide +kernel)
theorem iw6_24 : u_lay R6 T6 24 ∈ TB := tb_t 855 (by decide +kernel)
theorem iw6_25 : u_lay R6 T6 25 ∈ TB := tb_t 857 (by decide +kernel)
theorem iw6_26 : u_lay R6 T6 26 ∈ TB := tb_t 859 (by decide +kernel)
theorem iw6_27 : u_lay R6 T6 27 ∈ TB := tb_t 861 (by decide +kernel)
theorem iw6_28 : u_lay R6 T6 28 ∈ TB := tb_t 863 (by decide +kernel)
theorem iw6_29 : u_lay R6 T6 29 ∈ TB := tb_t 865 (by decide +kernel)
theorem iw6_30 : u_lay R6 T6 30 ∈ TB := tb_t 867 (by decide +kernel)
theorem iw6_31 : u_lay R6 T6 31 ∈ TB := tb_t 869 (by decide +kernel)
theorem iw6_32 : u_lay R6 T6 32 ∈ TB := tb_t 871 (by decide +kernel)
theorem iw6_33 : u_lay R6 T6 33 ∈ TB := tb_t 873 (by decide +kernel)
theorem iw6 : ∀ w ∈ u_ws R6 T6 34, w ∈ TB := by
  intro w hw
  obtain ⟨k, hk, rfl⟩ := List.mem_map.mp hw
  have hk := List.mem_range.mp hk
  match k, hk with
  | 0, _ => exact iw6_0
  | 1, _ => exact iw6_1
  | 2, _ => exact iw6_2
  | 3, _ => exact iw6_3
  | 4, _ => exact iw6_4
  | 5, _ => exact iw6_5
  | 6, _ => exact iw6_6
  | 7, _ => exact iw6_7
  | 8, _ => exact iw6_8
  | 9, _ => exact iw6_9
  | 10, _ => exact iw6_10
  | 11, _ => exact iw6_11
  | 12, _ => exact iw6_12
  | 13, _ => exact iw6_13
  | 14, _ => exact iw6_14
  | 15, _ => exact iw6_15
  | 16, _ => exact iw6_16
  | 17, _ => exact iw6_17
  | 18, _ => exact iw6_18
  | 19, _ => exact iw6_19
  | 20, _ => exact iw6_20
  | 21, _ => exact iw6_21
  | 22, _ => exact iw6_22
  | 23, _ => exact iw6_23
  | 24, _ => exact iw6_24
  | 25, _ => exact iw6_25
  | 26, _ => exact iw6_26
  | 27, _ => exact iw6_27
  | 28, _ => exact iw6_28
  | 29, _ => exact iw6_29
  | 30, _ => exact iw6_30
  | 31, _ => exact iw6_31
  | 32, _ => exact iw6_32
  | 33, _ => exact iw6_33
  | k + 34, h => exact absurd h (by omega)
theorem inst6 : Cond.instantiable R6 34 ∈ TB := tb_t 768 (by decide +kernel)
abbrev CL : List vw_C := [(R0, T0, 19), (R1, T1, 3), (R2, T2, 5), (R3, T3, 6), (R4, T4, 4), (R5, T5, 10), (R6, T6, 34)]
def tysOf (cA : Nat → ClassId) : List (ClassId × FieldType) := [(cA 0, .int), (cA 1, .boolean), (cA 2, .char), (cA 3, .object R4), (cA 4, .object R1), (cA 5, .object R2)]
end
section
/-! THE JUDGEMENT J: the machine, in a method's activation X, at pc, with the locals ls and the operand stack st, over any heap that holds the world (sh, mem), comes to X's end. One row an instruction. -/
abbrev cxP (X : Cx) : Program := X.1
abbrev cxL (X : Cx) : Launch := X.2.1
abbrev cxE (X : Cx) : Env := X.2.2.1
abbrev cxR (X : Cx) : Room := X.2.2.2.1
abbrev cxS (X : Cx) : State := X.2.2.2.2.1
abbrev cxM (X : Cx) : MethodId := X.2.2.2.2.2.1
abbrev cxA (X : Cx) : Array Value := X.2.2.2.2.2.2.1
abbrev cxB (X : Cx) : List Frame := X.2.2.2.2.2.2.2.1
abbrev cxT (X : Cx) : Method := X.2.2.2.2.2.2.2.2.1
abbrev cxC (X : Cx) : Code := X.2.2.2.2.2.2.2.2.2.1
abbrev cxN (X : Cx) : Nat := X.2.2.2.2.2.2.2.2.2.2.1.1
abbrev cxO (X : Cx) : Nat := X.2.2.2.2.2.2.2.2.2.2.1.2
abbrev cxQ (X : Cx) : State → Prop := X.2.2.2.2.2.2.2.2.2.2.2
abbrev cxK (X : Cx) (N O : Nat) : Cx := (cxP X, cxL X, cxE X, cxR X, cxS X, cxM X, cxA X, cxB X, cxT X, cxC X, (N, O), cxQ X)
def J (X : Cx) (E : En) (nL pc : Nat) (ls : List (Nat × Value)) (st : List Value) (sh : List Sh) (mem : Mm) : Prop :=
  ∀ (H : Heap) (locs : List Loc) (arr : Array Slot), va_P E.1 CL (wd E sh mem) H → va_S (Ab E) (cxS X).heap H locs → lv_has arr nL ls →
    W (cxP X) (cxL X) (cxE X) (cxR X) (cxS X) (cxM X) (cxA X) (cxB X) (cxT X) (cxC X) H locs (cxN X) (cxO X) (cxQ X) (F0 (cxM X) pc arr st)
def Kn (E : En) (U : State) : Prop := va_K E.1 CL (tysOf E.2.1) U
def kS : List Nat := [4, 4, 4, 3, 3, 2]
def kB : List (List Int32) := [[112, 111, 117, 114], [98, 97, 99, 107], [102, 105, 110, 101], [112, 100, 120], [100, 102, 119], [104, 115]]
def Ks (E : En) (U : State) (H : Heap) : Prop :=
  vk_S 6 kS kB E.2.2.2.1 E.2.2.2.2 (Ab E) U H ∧ (vk_R R3 79 "pour" (E.2.2.2.1 0) U ∧ vk_R R3 81 "back" (E.2.2.2.1 1) U ∧ vk_R R3 83 "fine" (E.2.2.2.1 2) U ∧ vk_R R3 85 "pdx" (E.2.2.2.1 3) U ∧ vk_R R3 87 "dfw" (E.2.2.2.1 4) U ∧ vk_R R3 89 "hs" (E.2.2.2.1 5) U) ∧
  va_Z "java/lang/String" "COMPACT_STRINGS" "Z" (.int 1) (Ab E) U H ∧ va_Zq "jdk/internal/util/Preconditions" "SIOOBE_FORMATTER" "Ljava/util/function/BiFunction;" (Ab E) U H
theorem Ks.warm {E : En} {s U : State} {H0 H : Heap} (h : Ks E s H0) (hW : s.WarmedH U.vm) (hq : ∀ a : Nat, a < H0.size → ¬ Ab E a → H[a]? = H0[a]?) : Ks E U H := by
  obtain ⟨h1, ⟨r0, r1, r2, r3, r4, r5⟩, h3, h4⟩ := h
  exact ⟨(h1.kept hq).moved hW.alike, ⟨r0.warm hW, r1.warm hW, r2.warm hW, r3.warm hW, r4.warm hW, r5.warm hW⟩, (h3.kept hq).moved hW.alike, (h4.kept hq).moved hW.alike⟩
/-- what stands in a method's activation: the machine, its code, its class, the tables' words, the classes, the texts, its room -/
def Std (X : Cx) (E : En) (cc : ByteArray) (own : String) (nL d : Nat) : Prop :=
  (cxP X).tables.exec = Jvm.exec ∧ (cxC X).code = cc ∧ (cxC X).maxLocals = nL ∧ (cxS X).vm.findClass own = some (cxM X).cls ∧ (∀ w ∈ TB, w.before (cxA X) (cxS X) = true) ∧ Kn E (cxS X) ∧ Ks E (cxS X) (cxS X).heap ∧
  (d ≤ (cxR X).frames ∧ 40 * d ≤ (cxR X).locals ∧ cxN X ≤ (cxR X).cells ∧ cxO X ≤ (cxR X).slots)
theorem clw {ci : Nat} {q : vw_C} (h : CL[ci]? = some q) : ∀ w ∈ u_ws q.1 q.2.1 q.2.2, w ∈ TB := by
  match ci, h with
  | 0, h => cases h; exact iw0
  | 1, h => cases h; exact iw1
  | 2, h => cases h; exact iw2
  | 3, h => cases h; exact iw3
  | 4, h => cases h; exact iw4
  | 5, h => cases h; exact iw5
  | 6, h => cases h; exact iw6
  | k + 7, h => simp [CL] at h
theorem clt {ci : Nat} {q : vw_C} (h : CL[ci]? = some q) : ∃ ty : Nat → FieldType, ∀ k, k < q.2.2 → parseFieldDescriptor (q.2.1 k).2.2.1 = some (ty k) := by
  match ci, h with
  | 0, h => cases h; exact ⟨_, tok0⟩
  | 1, h => cases h; exact ⟨_, tok1⟩
  | 2, h => cases h; exact ⟨_, tok2⟩
  | 3, h => cases h; exact ⟨_, tok3⟩
  | 4, h => cases h; exact ⟨_, tok4⟩
  | 5, h => cases h; exact ⟨_, tok5⟩
  | 6, h => cases h; exact ⟨_, tok6⟩
  | k + 7, h => simp [CL] at h
theorem cln {ci : Nat} {q : vw_C} (h : CL[ci]? = some q) : ∀ a, a < q.2.2 → ∀ b, b < q.2.2 → a ≠ b → (q.2.1 a).2.1 ≠ (q.2.1 b).2.1 := by
  match ci, h with
  | 0, h => cases h; exact nm0
  | 1, h => cases h; exact nm1
  | 2, h => cases h; exact nm2
  | 3, h => cases h; exact nm3
  | 4, h => cases h; exact nm4
  | 5, h => cases h; exact nm5
  | 6, h => cases h; exact nm6
  | k + 7, h => simp [CL] at h
/-- a field's link: entry idx of own's pool is place i of class ci -/
def FLk (own : String) (idx ci i : Nat) : Prop := ∃ q : vw_C, CL[ci]? = some q ∧ i < q.2.2 ∧ Cond.fieldLink own idx (q.2.1 i).1 (q.2.1 i).2.1 (q.2.1 i).2.2.1 ∈ TB
/-- ... that is not final, of type ty -/
def FPk (own : String) (idx ci i : Nat) (ty : FieldType) : Prop := ∃ q : vw_C, CL[ci]? = some q ∧ i < q.2.2 ∧ Cond.fieldLink own idx (q.2.1 i).1 (q.2.1 i).2.1 (q.2.1 i).2.2.1 ∈ TB ∧ parseFieldDescriptor (q.2.1 i).2.2.1 = some ty ∧ (q.2.1 i).2.2.2 = false
section JR
variable {X : Cx} {E : En} {cc : ByteArray} {own : String} {nL d pc np tg : Nat} {ls : List (Nat × Value)} {st : List Value} {sh : List Sh} {mem : Mm} {x y v : Int32} {a b : Value}
theorem j_iconst (S : Std X E cc own nL d) {n : Int} (hd : decode cc pc = .ok (.iconst n, 1) ∧ pc + 1 = np) (hv : Int32.ofInt n = v) (k : J X E nL np ls (.int v :: st) sh mem) : J X E nL pc ls st sh mem := by
  obtain ⟨hd, rfl⟩ := hd; exact fun H locs arr hP hS hl => lv_iconst S.1 S.2.1 hd hv (k H locs arr hP hS hl)
theorem j_bipush (S : Std X E cc own nL d) {n : Int} (hd : decode cc pc = .ok (.bipush n, 2) ∧ pc + 2 = np) (hv : (Int8.ofInt n).toInt32 = v) (k : J X E nL np ls (.int v :: st) sh mem) : J X E nL pc ls st sh mem := by
  obtain ⟨hd, rfl⟩ := hd; exact fun H locs arr hP hS hl => lv_bipush S.1 S.2.1 hd hv (k H locs arr hP hS hl)
theorem j_sipush (S : Std X E cc own nL d) {n : Int} (hd : decode cc pc = .ok (.sipush n, 3) ∧ pc + 3 = np) (hv : (Int16.ofInt n).toInt32 = v) (k : J X E nL np ls (.int v :: st) sh mem) : J X E nL pc ls st sh mem := by
  obtain ⟨hd, rfl⟩ := hd; exact fun H locs arr hP hS hl => lv_sipush S.1 S.2.1 hd hv (k H locs arr hP hS hl)
theorem j_ldc (S : Std X E cc own nL d) {i : Nat} (hd : decode cc pc = .ok (.ldc i, 2) ∧ pc + 2 = np) (hw : Cond.constant own i v ∈ TB) (k : J X E nL np ls (.int v :: st) sh mem) : J X E nL pc ls st sh mem := by
  obtain ⟨hd, rfl⟩ := hd; exact fun H locs arr hP hS hl => lv_ldc S.1 S.2.1 S.2.2.2.1 (S.2.2.2.2.1 _ hw) hd (k H locs arr hP hS hl)
theorem j_ldcw (S : Std X E cc own nL d) {i : Nat} (hd : decode cc pc = .ok (.ldc_w i, 3) ∧ pc + 3 = np) (hw : Cond.constant own i v ∈ TB) (k : J X E nL np ls (.int v :: st) sh mem) : J X E nL pc ls st sh mem := by
  obtain ⟨hd, rfl⟩ := hd; exact fun H locs arr hP hS hl => lv_ldcw S.1 S.2.1 S.2.2.2.1 (S.2.2.2.2.1 _ hw) hd (k H locs arr hP hS hl)
theorem j_iload_n (S : Std X E cc own nL d) {f : Fin 4} {i : Nat} (hd : decode cc pc = .ok (.iload_n f, 1) ∧ pc + 1 = np) (q : Nat) (hl : ls[q]? = some (i, .int x)) (hi : (f : Nat) = i) (k : J X E nL np ls (.int x :: st) sh mem) : J X E nL pc ls st sh mem := by
  obtain ⟨hd, rfl⟩ := hd; exact fun H locs arr hP hS h => lv_iload_n S.1 S.2.1 hd hi (lv_at h q hl) (k H locs arr hP hS h)
theorem j_iload (S : Std X E cc own nL d) {i : Nat} (hd : decode cc pc = .ok (.iload i, 2) ∧ pc + 2 = np) (q : Nat) (hl : ls[q]? = some (i, .int x)) (k : J X E nL np ls (.int x :: st) sh mem) : J X E nL pc ls st sh mem := by
  obtain ⟨hd, rfl⟩ := hd; exact fun H locs arr hP hS h => lv_iload S.1 S.2.1 hd (lv_at h q hl) (k H locs arr hP hS h)
theorem j_aload_n (S : Std X E cc own nL d) {f : Fin 4} {i r : Nat} (hd : decode cc pc = .ok (.aload_n f, 1) ∧ pc + 1 = np) (q : Nat) (hl : ls[q]? = some (i, .ref r)) (hi : (f : Nat) = i) (k : J X E nL np ls (.ref r :: st) sh mem) : J X E nL pc ls st sh mem := by
  obtain ⟨hd, rfl⟩ := hd; exact fun H locs arr hP hS h => lv_aload_n S.1 S.2.1 hd hi (lv_at h q hl) (k H locs arr hP hS h)
theorem j_aload (S : Std X E cc own nL d) {i r : Nat} (hd : decode cc pc = .ok (.aload i, 2) ∧ pc + 2 = np) (q : Nat) (hl : ls[q]? = some (i, .ref r)) (k : J X E nL np ls (.ref r :: st) sh mem) : J X E nL pc ls st sh mem := by
  obtain ⟨hd, rfl⟩ := hd; exact fun H locs arr hP hS h => lv_aload S.1 S.2.1 hd (lv_at h q hl) (k H locs arr hP hS h)
theorem j_lload (S : Std X E cc own nL d) {i : Nat} {x : Int64} (hd : decode cc pc = .ok (.lload i, 2) ∧ pc + 2 = np) (q : Nat) (hl : ls[q]? = some (i, .long x)) (k : J X E nL np ls (.long x :: st) sh mem) : J X E nL pc ls st sh mem := by
  obtain ⟨hd, rfl⟩ := hd; exact fun H locs arr hP hS h => lv_lload S.1 S.2.1 hd (lv_at h q hl) (k H locs arr hP hS h)
theorem j_istore_n (S : Std X E cc own nL d) {f : Fin 4} {i : Nat} (hd : decode cc pc = .ok (.istore_n f, 1) ∧ pc + 1 = np) {lv : List (Nat × Value)} (hl : (i, Value.int x) :: ls.filter (fun q => !(q.1 == i) && !(q.1 + 1 == i && q.2.category == 2)) = lv) (hi : (f : Nat) = i ∧ i < nL) (k : J X E nL np lv st sh mem) : J X E nL pc ls (.int x :: st) sh mem := by
  obtain ⟨hd, rfl⟩ := hd; exact fun H locs arr hP hS h => lv_istore_n S.1 S.2.1 hd hi.1 h hi.2 hl (fun arr h => k H locs arr hP hS h)
theorem j_istore (S : Std X E cc own nL d) {i : Nat} (hd : decode cc pc = .ok (.istore i, 2) ∧ pc + 2 = np) {lv : List (Nat × Value)} (hl : (i, Value.int x) :: ls.filter (fun q => !(q.1 == i) && !(q.1 + 1 == i && q.2.category == 2)) = lv) (hi : i < nL) (k : J X E nL np lv st sh mem) : J X E nL pc ls (.int x :: st) sh mem := by
  obtain ⟨hd, rfl⟩ := hd; exact fun H locs arr hP hS h => lv_istore S.1 S.2.1 hd h hi hl (fun arr h => k H locs arr hP hS h)
theorem j_astore_n (S : Std X E cc own nL d) {f : Fin 4} {i r : Nat} (hd : decode cc pc = .ok (.astore_n f, 1) ∧ pc + 1 = np) {lv : List (Nat × Value)} (hl : (i, Value.ref r) :: ls.filter (fun q => !(q.1 == i) && !(q.1 + 1 == i && q.2.category == 2)) = lv) (hi : (f : Nat) = i ∧ i < nL) (k : J X E nL np lv st sh mem) : J X E nL pc ls (.ref r :: st) sh mem := by
  obtain ⟨hd, rfl⟩ := hd; exact fun H locs arr hP hS h => lv_astore_n S.1 S.2.1 hd hi.1 h hi.2 hl (fun arr h => k H locs arr hP hS h)
theorem j_astore (S : Std X E cc own nL d) {i r : Nat} (hd : decode cc pc = .ok (.astore i, 2) ∧ pc + 2 = np) {lv : List (Nat × Value)} (hl : (i, Value.ref r) :: ls.filter (fun q => !(q.1 == i) && !(q.1 + 1 == i && q.2.category == 2)) = lv) (hi : i < nL) (k : J X E nL np lv st sh mem) : J X E nL pc ls (.ref r :: st) sh mem := by
  obtain ⟨hd, rfl⟩ := hd; exact fun H locs arr hP hS h => lv_astore S.1 S.2.1 hd h hi hl (fun arr h => k H locs arr hP hS h)
theorem j_lstore (S : Std X E cc own nL d) {i : Nat} {x : Int64} (hd : decode cc pc = .ok (.lstore i, 2) ∧ pc + 2 = np) {lv : List (Nat × Value)} (hl : (i, Value.long x) :: ls.filter (fun q => !(q.1 == i) && (!(q.1 == i + 1) && !(q.1 + 1 == i && q.2.category == 2))) = lv) (hi : i + 1 < nL) (k : J X E nL np lv st sh mem) : J X E nL pc ls (.long x :: st) sh mem := by
  obtain ⟨hd, rfl⟩ := hd; exact fun H locs arr hP hS h => lv_lstore S.1 S.2.1 hd h hi hl (fun arr h => k H locs arr hP hS h)
theorem j_iinc (S : Std X E cc own nL d) {i : Nat} {n : Int} (hd : decode cc pc = .ok (.iinc i n, 3) ∧ pc + 3 = np) (q : Nat) (hq : ls[q]? = some (i, .int x)) (hv : x + Int32.ofInt n = v) {lv : List (Nat × Value)} (hl : (i, Value.int v) :: ls.filter (fun q => !(q.1 == i) && !(q.1 + 1 == i && q.2.category == 2)) = lv) (hi : i < nL) (k : J X E nL np lv st sh mem) : J X E nL pc ls st sh mem := by
  obtain ⟨hd, rfl⟩ := hd; exact fun H locs arr hP hS h => lv_iinc S.1 S.2.1 hd h hq hv hi hl (fun arr h => k H locs arr hP hS h)
theorem j_locals {lv : List (Nat × Value)} (ks : List Nat) (hl : lv_pick ls ks = lv) (k : J X E nL pc lv st sh mem) : J X E nL pc ls st sh mem := fun H locs arr hP hS h => k H locs arr hP hS (lv_sub h ks hl)
theorem j_iadd (S : Std X E cc own nL d) (hd : decode cc pc = .ok (.iadd, 1) ∧ pc + 1 = np) (k : J X E nL np ls (.int (x + y) :: st) sh mem) : J X E nL pc ls (.int y :: .int x :: st) sh mem := by
  obtain ⟨hd, rfl⟩ := hd; exact fun H locs arr hP hS hl => lv_iadd S.1 S.2.1 hd (k H locs arr hP hS hl)
theorem j_isub (S : Std X E cc own nL d) (hd : decode cc pc = .ok (.isub, 1) ∧ pc + 1 = np) (k : J X E nL np ls (.int (x - y) :: st) sh mem) : J X E nL pc ls (.int y :: .int x :: st) sh mem := by
  obtain ⟨hd, rfl⟩ := hd; exact fun H locs arr hP hS hl => lv_isub S.1 S.2.1 hd (k H locs arr hP hS hl)
theorem j_imul (S : Std X E cc own nL d) (hd : decode cc pc = .ok (.imul, 1) ∧ pc + 1 = np) (k : J X E nL np ls (.int (x * y) :: st) sh mem) : J X E nL pc ls (.int y :: .int x :: st) sh mem := by
  obtain ⟨hd, rfl⟩ := hd; exact fun H locs arr hP hS hl => lv_imul S.1 S.2.1 hd (k H locs arr hP hS hl)
theorem j_iand (S : Std X E cc own nL d) (hd : decode cc pc = .ok (.iand, 1) ∧ pc + 1 = np) (k : J X E nL np ls (.int (x &&& y) :: st) sh mem) : J X E nL pc ls (.int y :: .int x :: st) sh mem := by
  obtain ⟨hd, rfl⟩ := hd; exact fun H locs arr hP hS hl => lv_iand S.1 S.2.1 hd (k H locs arr hP hS hl)
theorem j_ior (S : Std X E cc own nL d) (hd : decode cc pc = .ok (.ior, 1) ∧ pc + 1 = np) (k : J X E nL np ls (.int (x ||| y) :: st) sh mem) : J X E nL pc ls (.int y :: .int x :: st) sh mem := by
  obtain ⟨hd, rfl⟩ := hd; exact fun H locs arr hP hS hl => lv_ior S.1 S.2.1 hd (k H locs arr hP hS hl)
theorem j_idiv (S : Std X E cc own nL d) (hd : decode cc pc = .ok (.idiv, 1) ∧ pc + 1 = np) (hne : ¬ y = 0) (k : J X E nL np ls (.int (x / y) :: st) sh mem) : J X E nL pc ls (.int y :: .int x :: st) sh mem := by
  obtain ⟨hd, rfl⟩ := hd; exact fun H locs arr hP hS hl => lv_idiv S.1 S.2.1 hd hne (k H locs arr hP hS hl)
theorem j_irem (S : Std X E cc own nL d) (hd : decode cc pc = .ok (.irem, 1) ∧ pc + 1 = np) (hne : ¬ y = 0) (k : J X E nL np ls (.int (x - x / y * y) :: st) sh mem) : J X E nL pc ls (.int y :: .int x :: st) sh mem := by
  obtain ⟨hd, rfl⟩ := hd; exact fun H locs arr hP hS hl => lv_irem S.1 S.2.1 hd hne (k H locs arr hP hS hl)
theorem j_ineg (S : Std X E cc own nL d) (hd : decode cc pc = .ok (.ineg, 1) ∧ pc + 1 = np) (k : J X E nL np ls (.int (-x) :: st) sh mem) : J X E nL pc ls (.int x :: st) sh mem := by
  obtain ⟨hd, rfl⟩ := hd; exact fun H locs arr hP hS hl => lv_ineg S.1 S.2.1 hd (k H locs arr hP hS hl)
theorem j_ishl (S : Std X E cc own nL d) (hd : decode cc pc = .ok (.ishl, 1) ∧ pc + 1 = np) (k : J X E nL np ls (.int (x <<< (y &&& 31)) :: st) sh mem) : J X E nL pc ls (.int y :: .int x :: st) sh mem := by
  obtain ⟨hd, rfl⟩ := hd; exact fun H locs arr hP hS hl => lv_ishl S.1 S.2.1 hd (k H locs arr hP hS hl)
theorem j_ishr (S : Std X E cc own nL d) (hd : decode cc pc = .ok (.ishr, 1) ∧ pc + 1 = np) (k : J X E nL np ls (.int (x >>> (y &&& 31)) :: st) sh mem) : J X E nL pc ls (.int y :: .int x :: st) sh mem := by
  obtain ⟨hd, rfl⟩ := hd; exact fun H locs arr hP hS hl => lv_ishr S.1 S.2.1 hd (k H locs arr hP hS hl)
theorem j_iushr (S : Std X E cc own nL d) (hd : decode cc pc = .ok (.iushr, 1) ∧ pc + 1 = np) (k : J X E nL np ls (.int (x.toUInt32 >>> (y.toUInt32 &&& Int32.toUInt32 31)).toInt32 :: st) sh mem) : J X E nL pc ls (.int y :: .int x :: st) sh mem := by
  obtain ⟨hd, rfl⟩ := hd; exact fun H locs arr hP hS hl => lv_iushr S.1 S.2.1 hd rfl (k H locs arr hP hS hl)
theorem j_i2s (S : Std X E cc own nL d) (hd : decode cc pc = .ok (.i2s, 1) ∧ pc + 1 = np) (k : J X E nL np ls (.int x.toInt16.toInt32 :: st) sh mem) : J X E nL pc ls (.int x :: st) sh mem := by
  obtain ⟨hd, rfl⟩ := hd; exact fun H locs arr hP hS hl => lv_i2s S.1 S.2.1 hd rfl (k H locs arr hP hS hl)
theorem j_i2c (S : Std X E cc own nL d) (hd : decode cc pc = .ok (.i2c, 1) ∧ pc + 1 = np) (k : J X E nL np ls (.int (x.toUInt32 % 65536).toInt32 :: st) sh mem) : J X E nL pc ls (.int x :: st) sh mem := by
  obtain ⟨hd, rfl⟩ := hd; exact fun H locs arr hP hS hl => lv_i2c S.1 S.2.1 hd rfl (k H locs arr hP hS hl)
theorem j_i2l (S : Std X E cc own nL d) (hd : decode cc pc = .ok (.i2l, 1) ∧ pc + 1 = np) (k : J X E nL np ls (.long x.toInt64 :: st) sh mem) : J X E nL pc ls (.int x :: st) sh mem := by
  obtain ⟨hd, rfl⟩ := hd; exact fun H locs arr hP hS hl => lv_i2l S.1 S.2.1 hd rfl (k H locs arr hP hS hl)
theorem j_l2i (S : Std X E cc own nL d) {x : Int64} (hd : decode cc pc = .ok (.l2i, 1) ∧ pc + 1 = np) (k : J X E nL np ls (.int x.toInt32 :: st) sh mem) : J X E nL pc ls (.long x :: st) sh mem := by
  obtain ⟨hd, rfl⟩ := hd; exact fun H locs arr hP hS hl => lv_l2i S.1 S.2.1 hd rfl (k H locs arr hP hS hl)
theorem j_lconst (S : Std X E cc own nL d) {n : Fin 2} {v : Int64} (hd : decode cc pc = .ok (.lconst n, 1) ∧ pc + 1 = np) (hv : Int64.ofNat (n : Nat) = v) (k : J X E nL np ls (.long v :: st) sh mem) : J X E nL pc ls st sh mem := by
  obtain ⟨hd, rfl⟩ := hd; exact fun H locs arr hP hS hl => lv_lconst S.1 S.2.1 hd hv (k H locs arr hP hS hl)
theorem j_ladd (S : Std X E cc own nL d) {x y : Int64} (hd : decode cc pc = .ok (.ladd, 1) ∧ pc + 1 = np) (k : J X E nL np ls (.long (x + y) :: st) sh mem) : J X E nL pc ls (.long y :: .long x :: st) sh mem := by
  obtain ⟨hd, rfl⟩ := hd; exact fun H locs arr hP hS hl => lv_ladd S.1 S.2.1 hd (k H locs arr hP hS hl)
theorem j_lsub (S : Std X E cc own nL d) {x y : Int64} (hd : decode cc pc = .ok (.lsub, 1) ∧ pc + 1 = np) (k : J X E nL np ls (.long (x - y) :: st) sh mem) : J X E nL pc ls (.long y :: .long x :: st) sh mem := by
  obtain ⟨hd, rfl⟩ := hd; exact fun H locs arr hP hS hl => lv_lsub S.1 S.2.1 hd (k H locs arr hP hS hl)
theorem j_lneg (S : Std X E cc own nL d) {x : Int64} (hd : decode cc pc = .ok (.lneg, 1) ∧ pc + 1 = np) (k : J X E nL np ls (.long (-x) :: st) sh mem) : J X E nL pc ls (.long x :: st) sh mem := by
  obtain ⟨hd, rfl⟩ := hd; exact fun H locs arr hP hS hl => lv_lneg S.1 S.2.1 hd (k H locs arr hP hS hl)
theorem j_lcmp (S : Std X E cc own nL d) {x y : Int64} (hd : decode cc pc = .ok (.lcmp, 1) ∧ pc + 1 = np) (k : J X E nL np ls (.int (lg_cmp x y) :: st) sh mem) : J X E nL pc ls (.long y :: .long x :: st) sh mem := by
  obtain ⟨hd, rfl⟩ := hd; exact fun H locs arr hP hS hl => W.lcmp S.1 S.2.1 hd (k H locs arr hP hS hl)
theorem j_dup (S : Std X E cc own nL d) (hd : decode cc pc = .ok (.dup, 1) ∧ pc + 1 = np) (ha : a.category = 1) (k : J X E nL np ls (a :: a :: st) sh mem) : J X E nL pc ls (a :: st) sh mem := by
  obtain ⟨hd, rfl⟩ := hd; exact fun H locs arr hP hS hl => lv_dup S.1 S.2.1 hd ha (k H locs arr hP hS hl)
theorem j_dup2 (S : Std X E cc own nL d) (hd : decode cc pc = .ok (.dup2, 1) ∧ pc + 1 = np) (ha : a.category = 1 ∧ b.category = 1) (k : J X E nL np ls (a :: b :: a :: b :: st) sh mem) : J X E nL pc ls (a :: b :: st) sh mem := by
  obtain ⟨hd, rfl⟩ := hd; exact fun H locs arr hP hS hl => lv_dup2_11 S.1 S.2.1 hd ha.1 ha.2 (k H locs arr hP hS hl)
theorem j_pop (S : Std X E cc own nL d) (hd : decode cc pc = .ok (.pop, 1) ∧ pc + 1 = np) (ha : a.category = 1) (k : J X E nL np ls st sh mem) : J X E nL pc ls (a :: st) sh mem := by
  obtain ⟨hd, rfl⟩ := hd; exact fun H locs arr hP hS hl => lv_pop S.1 S.2.1 hd ha (k H locs arr hP hS hl)
theorem j_goto (S : Std X E cc own nL d) {o : Int} (hd : decode cc pc = .ok (.goto o, 3) ∧ (pc : Int) + o = (tg : Int)) (k : J X E nL tg ls st sh mem) : J X E nL pc ls st sh mem :=
  fun H locs arr hP hS hl => lv_goto S.1 S.2.1 hd.1 hd.2 (k H locs arr hP hS hl)
theorem j_if_eq (S : Std X E cc own nL d) {o : Int} (hd : decode cc pc = .ok (.ifCond .eq o, 3) ∧ (pc : Int) + o = (tg : Int) ∧ pc + 3 = np) (k1 : x = 0 → J X E nL tg ls st sh mem) (k2 : ¬ x = 0 → J X E nL np ls st sh mem) : J X E nL pc ls (.int x :: st) sh mem := by
  obtain ⟨hd, ht, rfl⟩ := hd; exact fun H locs arr hP hS hl => lv_if_eq S.1 S.2.1 hd ht (fun c => k1 c H locs arr hP hS hl) (fun c => k2 c H locs arr hP hS hl)
theorem j_if_ne (S : Std X E cc own nL d) {o : Int} (hd : decode cc pc = .ok (.ifCond .ne o, 3) ∧ (pc : Int) + o = (tg : Int) ∧ pc + 3 = np) (k1 : ¬ x = 0 → J X E nL tg ls st sh mem) (k2 : x = 0 → J X E nL np ls st sh mem) : J X E nL pc ls (.int x :: st) sh mem := by
  obtain ⟨hd, ht, rfl⟩ := hd; exact fun H locs arr hP hS hl => lv_if_ne S.1 S.2.1 hd ht (fun c => k1 c H locs arr hP hS hl) (fun c => k2 c H locs arr hP hS hl)
theorem j_if_lt (S : Std X E cc own nL d) {o : Int} (hd : decode cc pc = .ok (.ifCond .lt o, 3) ∧ (pc : Int) + o = (tg : Int) ∧ pc + 3 = np) (k1 : x < 0 → J X E nL tg ls st sh mem) (k2 : ¬ x < 0 → J X E nL np ls st sh mem) : J X E nL pc ls (.int x :: st) sh mem := by
  obtain ⟨hd, ht, rfl⟩ := hd; exact fun H locs arr hP hS hl => lv_if_lt S.1 S.2.1 hd ht (fun c => k1 c H locs arr hP hS hl) (fun c => k2 c H locs arr hP hS hl)
theorem j_if_ge (S : Std X E cc own nL d) {o : Int} (hd : decode cc pc = .ok (.ifCond .ge o, 3) ∧ (pc : Int) + o = (tg : Int) ∧ pc + 3 = np) (k1 : 0 ≤ x → J X E nL tg ls st sh mem) (k2 : ¬ 0 ≤ x → J X E nL np ls st sh mem) : J X E nL pc ls (.int x :: st) sh mem := by
  obtain ⟨hd, ht, rfl⟩ := hd; exact fun H locs arr hP hS hl => lv_if_ge S.1 S.2.1 hd ht (fun c => k1 c H locs arr hP hS hl) (fun c => k2 c H locs arr hP hS hl)
theorem j_if_gt (S : Std X E cc own nL d) {o : Int} (hd : decode cc pc = .ok (.ifCond .gt o, 3) ∧ (pc : Int) + o = (tg : Int) ∧ pc + 3 = np) (k1 : 0 < x → J X E nL tg ls st sh mem) (k2 : ¬ 0 < x → J X E nL np ls st sh mem) : J X E nL pc ls (.int x :: st) sh mem := by
  obtain ⟨hd, ht, rfl⟩ := hd; exact fun H locs arr hP hS hl => lv_if_gt S.1 S.2.1 hd ht (fun c => k1 c H locs arr hP hS hl) (fun c => k2 c H locs arr hP hS hl)
theorem j_if_le (S : Std X E cc own nL d) {o : Int} (hd : decode cc pc = .ok (.ifCond .le o, 3) ∧ (pc : Int) + o = (tg : Int) ∧ pc + 3 = np) (k1 : x ≤ 0 → J X E nL tg ls st sh mem) (k2 : ¬ x ≤ 0 → J X E nL np ls st sh mem) : J X E nL pc ls (.int x :: st) sh mem := by
  obtain ⟨hd, ht, rfl⟩ := hd; exact fun H locs arr hP hS hl => lv_if_le S.1 S.2.1 hd ht (fun c => k1 c H locs arr hP hS hl) (fun c => k2 c H locs arr hP hS hl)
theorem j_icmp_eq (S : Std X E cc own nL d) {o : Int} (hd : decode cc pc = .ok (.if_icmp .eq o, 3) ∧ (pc : Int) + o = (tg : Int) ∧ pc + 3 = np) (k1 : x = y → J X E nL tg ls st sh mem) (k2 : ¬ x = y → J X E nL np ls st sh mem) : J X E nL pc ls (.int y :: .int x :: st) sh mem := by
  obtain ⟨hd, ht, rfl⟩ := hd; exact fun H locs arr hP hS hl => lv_icmp_eq S.1 S.2.1 hd ht (fun c => k1 c H locs arr hP hS hl) (fun c => k2 c H locs arr hP hS hl)
theorem j_icmp_ne (S : Std X E cc own nL d) {o : Int} (hd : decode cc pc = .ok (.if_icmp .ne o, 3) ∧ (pc : Int) + o = (tg : Int) ∧ pc + 3 = np) (k1 : ¬ x = y → J X E nL tg ls st sh mem) (k2 : x = y → J X E nL np ls st sh mem) : J X E nL pc ls (.int y :: .int x :: st) sh mem := by
  obtain ⟨hd, ht, rfl⟩ := hd; exact fun H locs arr hP hS hl => lv_icmp_ne S.1 S.2.1 hd ht (fun c => k1 c H locs arr hP hS hl) (fun c => k2 c H locs arr hP hS hl)
theorem j_icmp_lt (S : Std X E cc own nL d) {o : Int} (hd : decode cc pc = .ok (.if_icmp .lt o, 3) ∧ (pc : Int) + o = (tg : Int) ∧ pc + 3 = np) (k1 : x < y → J X E nL tg ls st sh mem) (k2 : ¬ x < y → J X E nL np ls st sh mem) : J X E nL pc ls (.int y :: .int x :: st) sh mem := by
  obtain ⟨hd, ht, rfl⟩ := hd; exact fun H locs arr hP hS hl => lv_icmp_lt S.1 S.2.1 hd ht (fun c => k1 c H locs arr hP hS hl) (fun c => k2 c H locs arr hP hS hl)
theorem j_icmp_ge (S : Std X E cc own nL d) {o : Int} (hd : decode cc pc = .ok (.if_icmp .ge o, 3) ∧ (pc : Int) + o = (tg : Int) ∧ pc + 3 = np) (k1 : y ≤ x → J X E nL tg ls st sh mem) (k2 : ¬ y ≤ x → J X E nL np ls st sh mem) : J X E nL pc ls (.int y :: .int x :: st) sh mem := by
  obtain ⟨hd, ht, rfl⟩ := hd; exact fun H locs arr hP hS hl => lv_icmp_ge S.1 S.2.1 hd ht (fun c => k1 c H locs arr hP hS hl) (fun c => k2 c H locs arr hP hS hl)
theorem j_icmp_gt (S : Std X E cc own nL d) {o : Int} (hd : decode cc pc = .ok (.if_icmp .gt o, 3) ∧ (pc : Int) + o = (tg : Int) ∧ pc + 3 = np) (k1 : y < x → J X E nL tg ls st sh mem) (k2 : ¬ y < x → J X E nL np ls st sh mem) : J X E nL pc ls (.int y :: .int x :: st) sh mem := by
  obtain ⟨hd, ht, rfl⟩ := hd; exact fun H locs arr hP hS hl => lv_icmp_gt S.1 S.2.1 hd ht (fun c => k1 c H locs arr hP hS hl) (fun c => k2 c H locs arr hP hS hl)
theorem j_icmp_le (S : Std X E cc own nL d) {o : Int} (hd : decode cc pc = .ok (.if_icmp .le o, 3) ∧ (pc : Int) + o = (tg : Int) ∧ pc + 3 = np) (k1 : x ≤ y → J X E nL tg ls st sh mem) (k2 : ¬ x ≤ y → J X E nL np ls st sh mem) : J X E nL pc ls (.int y :: .int x :: st) sh mem := by
  obtain ⟨hd, ht, rfl⟩ := hd; exact fun H locs arr hP hS hl => lv_icmp_le S.1 S.2.1 hd ht (fun c => k1 c H locs arr hP hS hl) (fun c => k2 c H locs arr hP hS hl)
end JR
end
section
section JH
variable {X : Cx} {E : En} {cc : ByteArray} {own : String} {nL d pc np tg : Nat} {ls : List (Nat × Value)} {st : List Value} {sh : List Sh} {mem : Mm} {x y v : Int32}
theorem j_getI (S : Std X E cc own nL d) {idx ci i k : Nat} {sl : List Sl} (hd : decode cc pc = .ok (.getfield idx, 3) ∧ pc + 3 = np) (hf : FLk own idx ci i) (hk : sh[k]? = some (.inl (ci, sl))) (hs : sl[i]? = some none) (kk : J X E nL np ls (.int (mem k i) :: st) sh mem) : J X E nL pc ls (.ref (eb E + k) :: st) sh mem := by
  obtain ⟨hd, rfl⟩ := hd
  obtain ⟨⟨C, T, N⟩, hq, hi, hw⟩ := hf
  exact fun H locs arr hP hS hl => va_get S.1 S.2.1 (C := C) (T := T) (N := N) S.2.2.2.2.1 (clw hq) S.2.2.2.1 S.2.2.2.2.2.1 hP k (wd_at hk) hq i hi (S.2.2.2.2.1 _ hw) (fun _ h => h) (fls_at hs) hd (kk H locs arr hP hS hl)
theorem j_getR (S : Std X E cc own nL d) {idx ci i k t : Nat} {sl : List Sl} (hd : decode cc pc = .ok (.getfield idx, 3) ∧ pc + 3 = np) (hf : FLk own idx ci i) (hk : sh[k]? = some (.inl (ci, sl))) (hs : sl[i]? = some (some (some t))) (kk : J X E nL np ls (.ref (eb E + t) :: st) sh mem) : J X E nL pc ls (.ref (eb E + k) :: st) sh mem := by
  obtain ⟨hd, rfl⟩ := hd
  obtain ⟨⟨C, T, N⟩, hq, hi, hw⟩ := hf
  exact fun H locs arr hP hS hl => va_get S.1 S.2.1 (C := C) (T := T) (N := N) S.2.2.2.2.1 (clw hq) S.2.2.2.1 S.2.2.2.2.2.1 hP k (wd_at hk) hq i hi (S.2.2.2.2.1 _ hw) (fun _ h => h) (fls_at hs) hd (kk H locs arr hP hS hl)
theorem j_put (S : Std X E cc own nL d) {idx ci i k : Nat} {sl : List Sl} {ty : FieldType} (hd : decode cc pc = .ok (.putfield idx, 3) ∧ pc + 3 = np) (hf : FPk own idx ci i ty) (hk : sh[k]? = some (.inl (ci, sl))) (hs : sl[i]? = some none) (hv : narrow ty (.int v) = .int v ∧ fits ty (.int v) = true) (kk : J X E nL np ls st sh (mst mem k i v)) : J X E nL pc ls (.int v :: .ref (eb E + k) :: st) sh mem := by
  obtain ⟨hd, rfl⟩ := hd
  obtain ⟨⟨C, T, N⟩, hq, hi, hw, hty, hfin⟩ := hf
  obtain ⟨ty0, hty0⟩ := clt hq
  refine fun H locs arr hP hS hl => va_put S.1 S.2.1 (C := C) (T := T) (N := N) S.2.2.2.2.1 (clw hq) ty0 hty0 (cln hq) S.2.2.2.1 S.2.2.2.2.2.1 hP (wd_D E sh mem) hS k (wd_at hk) hq i hi (S.2.2.2.2.1 _ hw) (fun _ h => h) hfin hty hv.1 hv.2 (by rw [fls_len]; exact (List.getElem?_eq_some_iff.mp hs).1) hd (fun H1 locs1 hP1 _ hS1 => kk H1 locs1 arr ?_ hS1 hl)
  rw [fls_int hs v] at hP1
  have e := wd_set (E := E) (mem := mem) hk (upd (mem k) i v)
  exact e ▸ hP1
theorem j_putI (S : Std X E cc own nL d) {idx ci i k : Nat} {sl : List Sl} (hd : decode cc pc = .ok (.putfield idx, 3) ∧ pc + 3 = np) (hf : FPk own idx ci i .int) (hk : sh[k]? = some (.inl (ci, sl))) (hs : sl[i]? = some none) (kk : J X E nL np ls st sh (mst mem k i v)) : J X E nL pc ls (.int v :: .ref (eb E + k) :: st) sh mem :=
  j_put S hd hf hk hs ⟨rfl, rfl⟩ kk
theorem tys_at0 (cA : Nat → ClassId) : (tysOf cA)[0]? = some (cA 0, .int) := rfl
theorem j_iald (S : Std X E cc own nL d) {k n : Nat} (hd : decode cc pc = .ok (.iaload, 1) ∧ pc + 1 = np) (hk : sh[k]? = some (.inr (.inl (0, n)))) (hi : inb x n = true) (kk : J X E nL np ls (.int (mem k (ix x)) :: st) sh mem) : J X E nL pc ls (.int x :: .ref (eb E + k) :: st) sh mem := by
  obtain ⟨hd, rfl⟩ := hd
  exact fun H locs arr hP hS hl => va_iald S.1 S.2.1 S.2.2.2.2.2.1 hP k 0 (wd_at hk) rfl (inb_vp hi) hd (kk H locs arr hP hS hl)
theorem j_zald (S : Std X E cc own nL d) {k n : Nat} (hd : decode cc pc = .ok (.baload, 1) ∧ pc + 1 = np) (hk : sh[k]? = some (.inr (.inl (1, n)))) (hi : inb x n = true) (kk : J X E nL np ls (.int (mem k (ix x)) :: st) sh mem) : J X E nL pc ls (.int x :: .ref (eb E + k) :: st) sh mem := by
  obtain ⟨hd, rfl⟩ := hd
  exact fun H locs arr hP hS hl => va_zald S.1 S.2.1 S.2.2.2.2.2.1 hP k 1 (wd_at hk) rfl (inb_vp hi) hd (kk H locs arr hP hS hl)
theorem j_cald (S : Std X E cc own nL d) {k n : Nat} (hd : decode cc pc = .ok (.caload, 1) ∧ pc + 1 = np) (hk : sh[k]? = some (.inr (.inl (2, n)))) (hi : inb x n = true) (kk : J X E nL np ls (.int (mem k (ix x)) :: st) sh mem) : J X E nL pc ls (.int x :: .ref (eb E + k) :: st) sh mem := by
  obtain ⟨hd, rfl⟩ := hd
  exact fun H locs arr hP hS hl => va_cald S.1 S.2.1 S.2.2.2.2.2.1 hP k 2 (wd_at hk) rfl (inb_vp hi) hd (kk H locs arr hP hS hl)
theorem j_iast (S : Std X E cc own nL d) {k n : Nat} (hd : decode cc pc = .ok (.iastore, 1) ∧ pc + 1 = np) (hk : sh[k]? = some (.inr (.inl (0, n)))) (hi : inb x n = true) (kk : J X E nL np ls st sh (mst mem k (ix x) v)) : J X E nL pc ls (.int v :: .int x :: .ref (eb E + k) :: st) sh mem := by
  obtain ⟨hd, rfl⟩ := hd
  refine fun H locs arr hP hS hl => va_iast S.1 S.2.1 S.2.2.2.2.2.1 hP (wd_D E sh mem) hS k 0 (wd_at hk) rfl (inb_vp hi) hd (fun H1 locs1 hP1 _ hS1 => kk H1 locs1 arr ?_ hS1 hl)
  have e := wd_set (E := E) (mem := mem) hk (upd (mem k) (ix x) v)
  exact e ▸ hP1
theorem j_zast (S : Std X E cc own nL d) {k n : Nat} (hd : decode cc pc = .ok (.bastore, 1) ∧ pc + 1 = np) (hk : sh[k]? = some (.inr (.inl (1, n)))) (hi : inb x n = true) (hv : vp_nar .boolean v = v) (kk : J X E nL np ls st sh (mst mem k (ix x) v)) : J X E nL pc ls (.int v :: .int x :: .ref (eb E + k) :: st) sh mem := by
  obtain ⟨hd, rfl⟩ := hd
  refine fun H locs arr hP hS hl => va_zast S.1 S.2.1 S.2.2.2.2.2.1 hP (wd_D E sh mem) hS k 1 (wd_at hk) rfl (inb_vp hi) hd (fun H1 locs1 hP1 _ hS1 => kk H1 locs1 arr ?_ hS1 hl)
  have e := wd_set (E := E) (mem := mem) hk (upd (mem k) (ix x) v)
  rw [hv] at hP1
  exact e ▸ hP1
theorem j_aald (S : Std X E cc own nL d) {k ti t : Nat} {C : String} {l : List (Option Nat)} (hd : decode cc pc = .ok (.aaload, 1) ∧ pc + 1 = np) (hk : sh[k]? = some (.inr (.inr (ti, l)))) (ht : (tysOf E.2.1)[ti]? = some (E.2.1 ti, .object C)) (hi : inb x l.length = true) (hl : l[ix x]? = some (some t)) (kk : J X E nL np ls (.ref (eb E + t) :: st) sh mem) : J X E nL pc ls (.int x :: .ref (eb E + k) :: st) sh mem := by
  obtain ⟨hd, rfl⟩ := hd
  refine fun H locs arr hP hS h => va_aldq S.1 S.2.1 S.2.2.2.2.2.1 hP k ti (wd_at hk) ht (inb_vp hi) hd ?_
  have e : va_rf ((l.getD (ix x) none).map (fun t => E.2.2.1 + t)) = .ref (eb E + t) := by
    rw [List.getD_eq_getElem?_getD, hl]; rfl
  rw [e]
  exact kk H locs arr hP hS h
theorem j_alen (S : Std X E cc own nL d) {k n : Nat} (hd : decode cc pc = .ok (.arraylength, 1) ∧ pc + 1 = np) (hk : sh[k]? = some (.inr (.inl (0, n)))) (hv : Int32.ofNat n = v) (kk : J X E nL np ls (.int v :: st) sh mem) : J X E nL pc ls (.ref (eb E + k) :: st) sh mem := by
  obtain ⟨hd, rfl⟩ := hd
  exact fun H locs arr hP hS hl => va_alen (ty := .int) S.1 S.2.1 S.2.2.2.2.2.1 hP k 0 (wd_at hk) rfl hv hd (kk H locs arr hP hS hl)
theorem j_alenQ (S : Std X E cc own nL d) {k ti : Nat} {l : List (Option Nat)} {ty : FieldType} (hd : decode cc pc = .ok (.arraylength, 1) ∧ pc + 1 = np) (hk : sh[k]? = some (.inr (.inr (ti, l)))) (ht : (tysOf E.2.1)[ti]? = some (E.2.1 ti, ty)) (hv : Int32.ofNat l.length = v) (kk : J X E nL np ls (.int v :: st) sh mem) : J X E nL pc ls (.ref (eb E + k) :: st) sh mem := by
  obtain ⟨hd, rfl⟩ := hd
  exact fun H locs arr hP hS hl => va_alen (ty := ty) S.1 S.2.1 S.2.2.2.2.2.1 hP k ti (wd_at hk) ht hv hd (kk H locs arr hP hS hl)
-- a value gets a name
theorem j_nm {e : Int32} (h : v = e) (k : J X E nL pc ls (.int v :: st) sh mem) : J X E nL pc ls (.int e :: st) sh mem := h ▸ k
theorem j_nmL {v e : Int64} (h : v = e) (k : J X E nL pc ls (.long v :: st) sh mem) : J X E nL pc ls (.long e :: st) sh mem := h ▸ k
theorem j_mem {m2 : Mm} (h : m2 = mem) (k : J X E nL pc ls st sh m2) : J X E nL pc ls st sh mem := h ▸ k
-- switches
theorem j_tabOut (S : Std X E cc own nL d) {dflt lo hi : Int} {offs : Array Int} {len : Nat} (hd : decode cc pc = .ok (.tableswitch dflt lo hi offs, len) ∧ (pc : Int) + dflt = (tg : Int)) (h : x.toInt < lo ∨ hi < x.toInt) (k : J X E nL tg ls st sh mem) : J X E nL pc ls (.int x :: st) sh mem :=
  fun H locs arr hP hS hl => lv_tableOut S.1 S.2.1 hd.1 h hd.2 (k H locs arr hP hS hl)
theorem j_tabIn (S : Std X E cc own nL d) {dflt lo hi off : Int} {offs : Array Int} {len : Nat} (hd : decode cc pc = .ok (.tableswitch dflt lo hi offs, len)) (a : Int32) (hx : x = a) (h : ¬ a.toInt < lo ∧ ¬ hi < a.toInt ∧ offs[(a.toInt - lo).toNat]? = some off ∧ (pc : Int) + off = (tg : Int)) (k : J X E nL tg ls st sh mem) : J X E nL pc ls (.int x :: st) sh mem := by
  subst hx
  exact fun H locs arr hP hS hl => lv_tableIn S.1 S.2.1 hd h.1 h.2.1 h.2.2.1 h.2.2.2 (k H locs arr hP hS hl)
theorem j_look (S : Std X E cc own nL d) {dflt off : Int} {ps : Array (Int × Int)} {len : Nat} (hd : decode cc pc = .ok (.lookupswitch dflt ps, len)) (hp : (ps.toList.zip (ps.toList.drop 1)).all (fun (a, next) => a.1 < next.1) = true) (ho : Op.lookupswitch.offset ps.toList dflt x.toInt = off) (ht : (pc : Int) + off = (tg : Int)) (k : J X E nL tg ls st sh mem) : J X E nL pc ls (.int x :: st) sh mem :=
  fun H locs arr hP hS hl => lv_lookup S.1 S.2.1 hd hp ho ht (k H locs arr hP hS hl)
theorem j_lookE (S : Std X E cc own nL d) {dflt off : Int} {ps : Array (Int × Int)} {len : Nat} (hd : decode cc pc = .ok (.lookupswitch dflt ps, len)) (a : Int32) (hx : x = a) (h : (ps.toList.zip (ps.toList.drop 1)).all (fun (a, next) => a.1 < next.1) = true ∧ Op.lookupswitch.offset ps.toList dflt a.toInt = off ∧ (pc : Int) + off = (tg : Int)) (k : J X E nL tg ls st sh mem) : J X E nL pc ls (.int x :: st) sh mem := by
  subst hx
  exact j_look S hd h.1 h.2.1 h.2.2 k
-- Math
theorem j_mmax (S : Std X E cc own nL d) {idx : Nat} (hd : decode cc pc = .ok (.invokestatic idx, 3) ∧ pc + 3 = np) (h1 : 1 ≤ d) (hw : Cond.methodLink own idx Lib.Math.max.name ∈ TB ∧ Cond.static Lib.Math.max.name ∈ TB ∧ Cond.initialized "java/lang/Math" ∈ TB ∧ Cond.code Lib.Math.max.name Lib.Math.max.code 2 (some .int) ∈ TB) (hc : (st.map fun v => v.category).sum ≤ 8) (k : J X E nL np ls (.int (if x < y then y else x) :: st) sh mem) : J X E nL pc ls (.int y :: .int x :: st) sh mem := by
  obtain ⟨hd, rfl⟩ := hd
  have hR := S.2.2.2.2.2.2.2
  exact fun H locs arr hP hS hl => va_mmax S.1 S.2.1 (S.2.2.1.trans hl.1.symm) S.2.2.2.1 (S.2.2.2.2.1 _ hw.1) (S.2.2.2.2.1 _ hw.2.1) (S.2.2.2.2.1 _ hw.2.2.1) (S.2.2.2.2.1 _ hw.2.2.2) (by omega) (by omega) hR.2.2.1 hR.2.2.2 hd (k H locs arr hP hS hl)
theorem j_mmin (S : Std X E cc own nL d) {idx : Nat} (hd : decode cc pc = .ok (.invokestatic idx, 3) ∧ pc + 3 = np) (h1 : 1 ≤ d) (hw : Cond.methodLink own idx Lib.Math.min.name ∈ TB ∧ Cond.static Lib.Math.min.name ∈ TB ∧ Cond.initialized "java/lang/Math" ∈ TB ∧ Cond.code Lib.Math.min.name Lib.Math.min.code 2 (some .int) ∈ TB) (hc : (st.map fun v => v.category).sum ≤ 8) (k : J X E nL np ls (.int (if y < x then y else x) :: st) sh mem) : J X E nL pc ls (.int y :: .int x :: st) sh mem := by
  obtain ⟨hd, rfl⟩ := hd
  have hR := S.2.2.2.2.2.2.2
  exact fun H locs arr hP hS hl => va_mmin S.1 S.2.1 (S.2.2.1.trans hl.1.symm) S.2.2.2.1 (S.2.2.2.2.1 _ hw.1) (S.2.2.2.2.1 _ hw.2.1) (S.2.2.2.2.1 _ hw.2.2.1) (S.2.2.2.2.1 _ hw.2.2.2) (by omega) (by omega) hR.2.2.1 hR.2.2.2 hd (k H locs arr hP hS hl)
theorem j_mabs (S : Std X E cc own nL d) {idx : Nat} (hd : decode cc pc = .ok (.invokestatic idx, 3) ∧ pc + 3 = np) (h1 : 1 ≤ d) (hw : Cond.methodLink own idx Lib.Math.abs.name ∈ TB ∧ Cond.static Lib.Math.abs.name ∈ TB ∧ Cond.initialized "java/lang/Math" ∈ TB ∧ Cond.code Lib.Math.abs.name Lib.Math.abs.code 1 (some .int) ∈ TB) (hc : (st.map fun v => v.category).sum ≤ 8) (k : J X E nL np ls (.int (if 0 ≤ x then x else 0 - x) :: st) sh mem) : J X E nL pc ls (.int x :: st) sh mem := by
  obtain ⟨hd, rfl⟩ := hd
  have hR := S.2.2.2.2.2.2.2
  exact fun H locs arr hP hS hl => va_mabs S.1 S.2.1 (S.2.2.1.trans hl.1.symm) S.2.2.2.1 (S.2.2.2.2.1 _ hw.1) (S.2.2.2.2.1 _ hw.2.1) (S.2.2.2.2.1 _ hw.2.2.1) (S.2.2.2.2.1 _ hw.2.2.2) (by omega) (by omega) hR.2.2.1 hR.2.2.2 hd (k H locs arr hP hS hl)
-- System.arraycopy between rows of ints
def cpok (a n : Int32) (N : Nat) : Bool := decide (0 ≤ a) && decide (ix a + ix n ≤ N)
theorem j_copy (S : Std X E cc own nL d) {idx k1 k2 n1 n2 : Nat} {sp dp n : Int32} (hd : decode cc pc = .ok (.invokestatic idx, 3) ∧ pc + 3 = np) (h1 : 1 ≤ d) (hw : Cond.methodLink own idx arraycopyName ∈ TB ∧ Cond.native arraycopyName ∈ TB ∧ Cond.static arraycopyName ∈ TB ∧ Cond.initialized "java/lang/System" ∈ TB) (hc : (st.map fun v => v.category).sum ≤ 8)
    (hk1 : sh[k1]? = some (.inr (.inl (0, n1)))) (hk2 : sh[k2]? = some (.inr (.inl (0, n2)))) (hn : 0 ≤ n) (h4 : cpok sp n n1 = true) (h5 : cpok dp n n2 = true) (k : J X E nL np ls st sh (va_up mem k2 (va_cpy (mem k1) (mem k2) (ix sp) (ix dp) (ix n)))) : J X E nL pc ls (.int n :: .int dp :: .ref (eb E + k2) :: .int sp :: .ref (eb E + k1) :: st) sh mem := by
  obtain ⟨hd, rfl⟩ := hd
  have hR := S.2.2.2.2.2.2.2
  have nn : ∀ z : Int32, 0 ≤ z → ¬ z < 0 := fun z h q => by
    rw [Int32.lt_iff_toInt_lt] at q
    have := Int32.le_iff_toInt_le.mp h
    omega
  unfold cpok at h4 h5
  simp only [Bool.and_eq_true, decide_eq_true_eq] at h4 h5
  have hnf : nativeFrameWords "java/lang/System" "arraycopy" 5 ≤ 16 := by decide +kernel
  refine fun H locs arr hP hS hl => va_copyi S.1 S.2.1 (S.2.2.1.trans hl.1.symm) S.2.2.2.1 (S.2.2.2.2.1 _ hw.1) (S.2.2.2.2.1 _ hw.2.1) (S.2.2.2.2.1 _ hw.2.2.1) (S.2.2.2.2.1 _ hw.2.2.2) S.2.2.2.2.2.1 hP (wd_D E sh mem) hS k1 k2 0 0 (wd_at hk1) (wd_at hk2) rfl rfl rfl (nn _ h4.1) (nn _ h5.1) (nn _ hn) h4.2 h5.2 (fun _ _ => rfl) (by omega) (by omega) hd (fun H1 locs1 hP1 _ hS1 => k H1 locs1 arr ?_ hS1 hl)
  have e := wd_set (E := E) (mem := mem) hk2 (va_cpy (mem k1) (mem k2) (ix sp) (ix dp) (ix n))
  exact e ▸ hP1
end JH
end
section
/-! CONTRACTS: a method with depth d of calls under it, from the world (sh, mem), answers r and leaves (sh, mem2). Calls and returns. -/
def rmd (d : Nat) : Room := { frames := d, cells := 0, slots := 0, locals := 40 * d }
def PreC (E : En) (sh : List Sh) (mem : Mm) (U : State) : Prop := va_P E.1 CL (wd E sh mem) U.heap ∧ Kn E U ∧ Ks E U U.heap
def PosC (E : En) (sh : List Sh) (mem : Mm) (t : State) : Prop := va_P E.1 CL (wd E sh mem) t.heap
def CtI (l : Launch) (E : En) (d : Nat) (y : MethodName) (cc : ByteArray) (nL : Nat) (ret : Option FieldType) (av : List Value) (sh : List Sh) (mem : Mm) (r : Int32) (m2 : Mm) : Prop :=
  Met l y (Cond.code y cc nL ret :: TB) (rmd d) (va_Pc av (PreC E sh mem)) (va_Qi (fun (v : Int32) (_ : Unit) => v = r) (fun _ t => PosC E sh m2 t) (Ab E)) 0 0 (Ab E)
def CtL (l : Launch) (E : En) (d : Nat) (y : MethodName) (cc : ByteArray) (nL : Nat) (av : List Value) (sh : List Sh) (mem : Mm) (r : Int64) (m2 : Mm) : Prop :=
  Met l y (Cond.code y cc nL (some .long) :: TB) (rmd d) (va_Pc av (PreC E sh mem)) (va_Ql (fun (v : Int64) (_ : Unit) => v = r) (fun _ t => PosC E sh m2 t) (Ab E)) 0 0 (Ab E)
def CtV (l : Launch) (E : En) (d : Nat) (y : MethodName) (cc : ByteArray) (nL : Nat) (av : List Value) (sh : List Sh) (mem m2 : Mm) : Prop :=
  Met l y (Cond.code y cc nL none :: TB) (rmd d) (va_Pc av (PreC E sh mem)) (va_Qv (fun (_ : Unit) => True) (fun _ t => PosC E sh m2 t) (Ab E)) 0 0 (Ab E)
theorem Ks.same {E : En} {s U : State} {H : Heap} (h : Ks E s H) (hv : U.vm = s.vm) : Ks E U H := by
  obtain ⟨h1, ⟨r0, r1, r2, r3, r4, r5⟩, h3, h4⟩ := h
  have ha : s.vm.Alike U.vm := by rw [hv]; exact Vm.Alike.refl _
  exact ⟨h1.moved ha, ⟨r0.same hv, r1.same hv, r2.same hv, r3.same hv, r4.same hv, r5.same hv⟩, h3.moved ha, h4.moved ha⟩
theorem blindC {E : En} {sh : List Sh} {mem : Mm} {av : List Value} : FrameBlind (va_Pc av (PreC E sh mem)) :=
  fun a U g mk q => ⟨q.1, q.2.1, va_K.moved (u := U) (U := U.calling g mk a) (Vm.Alike.refl U.vm) q.2.2.1, Ks.same (s := U) (U := U.calling g mk a) q.2.2.2 rfl⟩
def isb (v : Int32) : Bool := decide (v = 0) || decide (v = 1)
theorem isb_or {v : Int32} (h : isb v = true) : v = 0 ∨ v = 1 := by
  unfold isb at h
  simpa only [Bool.or_eq_true, decide_eq_true_eq] using h
theorem isb_nf {v : Int32} (h : isb v = true) : narrow .boolean (.int v) = .int v ∧ fits .boolean (.int v) = true := by
  rcases isb_or h with rfl | rfl <;> exact ⟨by decide +kernel, by decide +kernel⟩
theorem isb_vn {v : Int32} (h : isb v = true) : vp_nar .boolean v = v := by
  rcases isb_or h with rfl | rfl <;> decide +kernel
def RetI (X : Cx) (E : En) (cc : ByteArray) (nL : Nat) (sh : List Sh) (r : Int32) (m2 : Mm) : Prop := ∀ (pc : Nat) (ls : List (Nat × Value)), decode cc pc = .ok (.ireturn, 1) → J X E nL pc ls [.int r] sh m2
def RetL (X : Cx) (E : En) (cc : ByteArray) (nL : Nat) (sh : List Sh) (r : Int64) (m2 : Mm) : Prop := ∀ (pc : Nat) (ls : List (Nat × Value)), decode cc pc = .ok (.lreturn, 1) → J X E nL pc ls [.long r] sh m2
def RetV (X : Cx) (E : En) (cc : ByteArray) (nL : Nat) (sh : List Sh) (m2 : Mm) : Prop := ∀ (pc : Nat) (ls : List (Nat × Value)), decode cc pc = .ok (.return_, 1) → J X E nL pc ls [] sh m2
section MK
variable {l : Launch} {E : En} {d : Nat} {y : MethodName} {cc : ByteArray} {nL : Nat} {av : List Value} {sh : List Sh} {mem m2 : Mm} {r : Int32}
theorem mk_CtI (hy : plainName y.cls = true ∧ (lg_sl av).length ≤ nL) (h : ∀ X : Cx, Std X E cc y.cls nL d → cxL X = l → RetI X E cc nL sh r m2 → J X E nL 0 (lv_args 0 av) [] sh mem) : CtI l E d y cc nL (some .int) av sh mem r m2 := by
  refine Met.ofW (cc := cc) (maxL := nL) (ret := some .int) hy.1 rfl ?_
  intro p e s m args below meth c s₁ B hml hv
  obtain ⟨rfl, hP, hK, hKs⟩ := hv
  have hx := B.exec
  have hb := B.bytes
  have hr := B.returns
  have hts := atoms_spec (ws := Cond.code y cc nL (some .int) :: TB) B.pre
  have hown : s.vm.findClass y.cls = some m.cls := findClass_of_methodNamed B.named
  have hlocks := B.notSynchronized
  rw [lg_entry_eq]
  refine h (p, l, e, rmd d, s, m, av.toArray, below, meth, c, (0, 0), MQ below (va_Qi (fun (v : Int32) (_ : Unit) => v = r) (fun _ t => PosC E sh m2 t) (Ab E)) av.toArray s 0 0 (Ab E)) ⟨hx, hb, hml, hown, fun w hw => hts w (List.mem_cons_of_mem _ hw), hK, hKs, Nat.le_refl _, Nat.le_refl _, Nat.le_refl _, Nat.le_refl _⟩ rfl ?_ s.heap [] _ hP va_S.rf (lv_entry av hy.2)
  intro pc ls hd H locs arr hP hS hl
  exact W.iret (v := r) hx hb hr (fun t ht hW => ⟨⟨r, (), rfl, rfl, by show va_P _ _ _ t.heap; rw [ht]; exact hP⟩, hS.F ht⟩) hS.2.2 hd
theorem mk_CtZ (hy : plainName y.cls = true ∧ (lg_sl av).length ≤ nL) (h : ∀ X : Cx, Std X E cc y.cls nL d → cxL X = l → (isb r = true → RetI X E cc nL sh r m2) → J X E nL 0 (lv_args 0 av) [] sh mem) : CtI l E d y cc nL (some .boolean) av sh mem r m2 := by
  refine Met.ofW (cc := cc) (maxL := nL) (ret := some .boolean) hy.1 rfl ?_
  intro p e s m args below meth c s₁ B hml hv
  obtain ⟨rfl, hP, hK, hKs⟩ := hv
  have hx := B.exec
  have hb := B.bytes
  have hr := B.returns
  have hts := atoms_spec (ws := Cond.code y cc nL (some .boolean) :: TB) B.pre
  have hown : s.vm.findClass y.cls = some m.cls := findClass_of_methodNamed B.named
  have hlocks := B.notSynchronized
  rw [lg_entry_eq]
  refine h (p, l, e, rmd d, s, m, av.toArray, below, meth, c, (0, 0), MQ below (va_Qi (fun (v : Int32) (_ : Unit) => v = r) (fun _ t => PosC E sh m2 t) (Ab E)) av.toArray s 0 0 (Ab E)) ⟨hx, hb, hml, hown, fun w hw => hts w (List.mem_cons_of_mem _ hw), hK, hKs, Nat.le_refl _, Nat.le_refl _, Nat.le_refl _, Nat.le_refl _⟩ rfl ?_ s.heap [] _ hP va_S.rf (lv_entry av hy.2)
  intro hz pc ls hd H locs arr hP hS hl
  exact W.zret (v := r) (ty := .boolean) hx hb hr (isb_nf hz).1 (fun t ht hW => ⟨⟨r, (), rfl, rfl, by show va_P _ _ _ t.heap; rw [ht]; exact hP⟩, hS.F ht⟩) hS.2.2 hd
theorem mk_CtL {r : Int64} (hy : plainName y.cls = true ∧ (lg_sl av).length ≤ nL) (h : ∀ X : Cx, Std X E cc y.cls nL d → cxL X = l → RetL X E cc nL sh r m2 → J X E nL 0 (lv_args 0 av) [] sh mem) : CtL l E d y cc nL av sh mem r m2 := by
  refine Met.ofW (cc := cc) (maxL := nL) (ret := some .long) hy.1 rfl ?_
  intro p e s m args below meth c s₁ B hml hv
  obtain ⟨rfl, hP, hK, hKs⟩ := hv
  have hx := B.exec
  have hb := B.bytes
  have hr := B.returns
  have hts := atoms_spec (ws := Cond.code y cc nL (some .long) :: TB) B.pre
  have hown : s.vm.findClass y.cls = some m.cls := findClass_of_methodNamed B.named
  have hlocks := B.notSynchronized
  rw [lg_entry_eq]
  refine h (p, l, e, rmd d, s, m, av.toArray, below, meth, c, (0, 0), MQ below (va_Ql (fun (v : Int64) (_ : Unit) => v = r) (fun _ t => PosC E sh m2 t) (Ab E)) av.toArray s 0 0 (Ab E)) ⟨hx, hb, hml, hown, fun w hw => hts w (List.mem_cons_of_mem _ hw), hK, hKs, Nat.le_refl _, Nat.le_refl _, Nat.le_refl _, Nat.le_refl _⟩ rfl ?_ s.heap [] _ hP va_S.rf (lv_entry av hy.2)
  intro pc ls hd H locs arr hP hS hl
  exact W.lret (v := r) hx hb hr (fun t ht hW => ⟨⟨r, (), rfl, rfl, by show va_P _ _ _ t.heap; rw [ht]; exact hP⟩, hS.F ht⟩) hS.2.2 hd
theorem mk_CtV (hy : plainName y.cls = true ∧ (lg_sl av).length ≤ nL) (h : ∀ X : Cx, Std X E cc y.cls nL d → cxL X = l → RetV X E cc nL sh m2 → J X E nL 0 (lv_args 0 av) [] sh mem) : CtV l E d y cc nL av sh mem m2 := by
  refine Met.ofW (cc := cc) (maxL := nL) (ret := none) hy.1 rfl ?_
  intro p e s m args below meth c s₁ B hml hv
  obtain ⟨rfl, hP, hK, hKs⟩ := hv
  have hx := B.exec
  have hb := B.bytes
  have hr := B.returns
  have hts := atoms_spec (ws := Cond.code y cc nL none :: TB) B.pre
  have hown : s.vm.findClass y.cls = some m.cls := findClass_of_methodNamed B.named
  have hlocks := B.notSynchronized
  rw [lg_entry_eq]
  refine h (p, l, e, rmd d, s, m, av.toArray, below, meth, c, (0, 0), MQ below (va_Qv (fun (_ : Unit) => True) (fun _ t => PosC E sh m2 t) (Ab E)) av.toArray s 0 0 (Ab E)) ⟨hx, hb, hml, hown, fun w hw => hts w (List.mem_cons_of_mem _ hw), hK, hKs, Nat.le_refl _, Nat.le_refl _, Nat.le_refl _, Nat.le_refl _⟩ rfl ?_ s.heap [] _ hP va_S.rf (lv_entry av hy.2)
  intro pc ls hd H locs arr hP hS hl
  exact W.vret hx hb hr (fun t ht hW => ⟨⟨(), rfl, trivial, by show va_P _ _ _ t.heap; rw [ht]; exact hP⟩, hS.F ht⟩) hS.2.2 hd
end MK
/-- a call's links -/
def MV (own : String) (idx : Nat) (y : MethodName) (cc : ByteArray) (nL : Nat) (ret : Option FieldType) (n : Nat) : Prop :=
  (Cond.methodLink own idx y ∈ TB ∧ Cond.instanceMethod y ∈ TB ∧ Cond.selects y.cls y y ∈ TB ∧ Cond.initialized y.cls ∈ TB ∧ Cond.code y cc nL ret ∈ TB) ∧ (y.cls ≠ "java/lang/invoke/MethodHandle" ∧ y.cls ≠ "java/lang/invoke/VarHandle" ∧ (parseMethodDescriptor y.desc).map (fun d => d.parameters.length) = some n) ∧ nL ≤ 21
def MS (own : String) (idx : Nat) (y : MethodName) (cc : ByteArray) (nL : Nat) (ret : Option FieldType) (n : Nat) : Prop :=
  (Cond.methodLink own idx y ∈ TB ∧ Cond.static y ∈ TB ∧ Cond.initialized y.cls ∈ TB ∧ Cond.code y cc nL ret ∈ TB) ∧ (y.cls ≠ "java/lang/invoke/MethodHandle" ∧ y.cls ≠ "java/lang/invoke/VarHandle" ∧ (parseMethodDescriptor y.desc).map (fun d => d.parameters.length) = some n) ∧ nL ≤ 21
section JC
variable {X : Cx} {E : En} {cc : ByteArray} {own : String} {nL d pc np : Nat} {ls : List (Nat × Value)} {st st0 : List Value} {sh : List Sh} {mem m2 : Mm} {r : Int32}
variable {idx k ci n d2 nL2 : Nat} {sl : List Sl} {y : MethodName} {c2 : ByteArray} {ret : Option FieldType} {As : List Value}
theorem cbV (S : Std X E cc own nL d) (hm : MV own idx y c2 nL2 ret n) (hdd : d2 < d) : CallW (cxR X) (cxS X) (cxA X) own y.cls idx y c2 nL2 ret (Cond.code y c2 nL2 ret :: TB) (rmd d2) 0 0 n := by
  obtain ⟨⟨w1, w2, w3, w4, w5⟩, ⟨h1, h2, h3⟩, h4⟩ := hm
  have hR := S.2.2.2.2.2.2.2
  have hT := S.2.2.2.2.1
  refine ⟨⟨rfl, rfl, by show d2 + 1 ≤ _; omega, by show 8 + (nL2 + 11) + 40 * d2 ≤ _; omega, fun w hw a' U hW => ?_, List.mem_cons_self, hT _ w5, hT _ w4, ⟨h1, h2⟩, fun sig h => ?_, hT _ w1⟩, hT _ w2, hT _ w3⟩
  · have hw : w ∈ TB := (List.mem_cons.mp hw).elim (fun e => e ▸ w5) id
    exact word_at hW (tb_good hw) (hT _ hw)
  · rw [h] at h3
    exact (Option.some.inj h3).symm
theorem cbS (S : Std X E cc own nL d) (hm : MS own idx y c2 nL2 ret n) (hdd : d2 < d) : CallB (cxR X) (cxS X) (cxA X) own idx y c2 nL2 ret (Cond.code y c2 nL2 ret :: TB) (rmd d2) 0 0 n ∧ (Cond.static y).before (cxA X) (cxS X) = true := by
  obtain ⟨⟨w1, w2, w4, w5⟩, ⟨h1, h2, h3⟩, h4⟩ := hm
  have hR := S.2.2.2.2.2.2.2
  have hT := S.2.2.2.2.1
  refine ⟨⟨rfl, rfl, by show d2 + 1 ≤ _; omega, by show 8 + (nL2 + 11) + 40 * d2 ≤ _; omega, fun w hw a' U hW => ?_, List.mem_cons_self, hT _ w5, hT _ w4, ⟨h1, h2⟩, fun sig h => ?_, hT _ w1⟩, hT _ w2⟩
  · have hw : w ∈ TB := (List.mem_cons.mp hw).elim (fun e => e ▸ w5) id
    exact word_at hW (tb_good hw) (hT _ hw)
  · rw [h] at h3
    exact (Option.some.inj h3).symm
theorem preV (S : Std X E cc own nL d) {H : Heap} {locs : List Loc} (hP : va_P E.1 CL (wd E sh mem) H) (hS : va_S (Ab E) (cxS X).heap H locs) (hk : sh[k]? = some (.inl (ci, sl))) {q : vw_C} (hc : CL[ci]? = some q) (hq : q.1 = y.cls) : PreV (cxS X) H y.cls (eb E + k) (va_Pc (.ref (eb E + k) :: As) (PreC E sh mem)) As :=
  ⟨blindC, hq ▸ va_recv S.2.2.2.2.2.1 hP hc (wd_at hk), fun U hU hW => ⟨rfl, by rw [hU]; exact hP, va_K.moved hW.alike S.2.2.2.2.2.1, Ks.warm S.2.2.2.2.2.2.1 hW (by rw [hU]; exact hS.2.1)⟩⟩
theorem preS (S : Std X E cc own nL d) {H : Heap} {locs : List Loc} (hP : va_P E.1 CL (wd E sh mem) H) (hS : va_S (Ab E) (cxS X).heap H locs) : PreS (cxS X) H (va_Pc As (PreC E sh mem)) As :=
  ⟨blindC, fun U hU hW => ⟨rfl, by rw [hU]; exact hP, va_K.moved hW.alike S.2.2.2.2.2.1, Ks.warm S.2.2.2.2.2.2.1 hW (by rw [hU]; exact hS.2.1)⟩⟩
theorem j_callVI (S : Std X E cc own nL d) (hd : decode cc pc = .ok (.invokevirtual idx, 3) ∧ pc + 3 = np) (hm : MV own idx y c2 nL2 ret n) (hM : CtI (cxL X) E d2 y c2 nL2 ret (.ref (eb E + k) :: As) sh mem r m2) (hdd : d2 < d) (hk : sh[k]? = some (.inl (ci, sl))) {q : vw_C} (hc : CL[ci]? = some q) (hq : q.1 = y.cls) (hst : st0 = As.reverse ++ .ref (eb E + k) :: st) (hn : As.length = n) (hcat : (st.map fun v => v.category).sum ≤ 8) (kk : J X E nL np ls (.int r :: st) sh m2) : J X E nL pc ls st0 sh mem := by
  obtain ⟨hd, rfl⟩ := hd
  have hR := S.2.2.2.2.2.2.2
  exact fun H locs arr hP hS hl => va_calli (va_runV (As := As) (rest := st) ⟨S.1, S.2.1, S.2.2.1, S.2.2.2.1, S.2.2.2.2.1⟩ hM (cbV S hm hdd) (preV S hP hS hk hc hq) rfl hn hl.1 hst (lv_room hcat) hd ⟨hR.2.2.1, hR.2.2.2⟩) hS (fun _ _ h => h) (fun _ h => h) (fun r1 u t H1 locs1 ht hvm hw hB hz hk1 hS1 => by
    cases hw
    exact kk H1 locs1 arr (ht ▸ hB) hS1 hl)
theorem j_callSI (S : Std X E cc own nL d) (hd : decode cc pc = .ok (.invokestatic idx, 3) ∧ pc + 3 = np) (hm : MS own idx y c2 nL2 ret n) (hM : CtI (cxL X) E d2 y c2 nL2 ret As sh mem r m2) (hdd : d2 < d) (hst : st0 = As.reverse ++ st) (hn : As.length = n) (hcat : (st.map fun v => v.category).sum ≤ 8) (kk : J X E nL np ls (.int r :: st) sh m2) : J X E nL pc ls st0 sh mem := by
  obtain ⟨hd, rfl⟩ := hd
  have hR := S.2.2.2.2.2.2.2
  exact fun H locs arr hP hS hl => va_calli (va_runS (As := As) (rest := st) ⟨S.1, S.2.1, S.2.2.1, S.2.2.2.1, S.2.2.2.2.1⟩ hM (cbS S hm hdd) (preS S hP hS) rfl hn hl.1 hst (lv_room hcat) hd ⟨hR.2.2.1, hR.2.2.2⟩) hS (fun _ _ h => h) (fun _ h => h) (fun r1 u t H1 locs1 ht hvm hw hB hz hk1 hS1 => by
    cases hw
    exact kk H1 locs1 arr (ht ▸ hB) hS1 hl)
theorem j_callVL {r : Int64} (S : Std X E cc own nL d) (hd : decode cc pc = .ok (.invokevirtual idx, 3) ∧ pc + 3 = np) (hm : MV own idx y c2 nL2 (some .long) n) (hM : CtL (cxL X) E d2 y c2 nL2 (.ref (eb E + k) :: As) sh mem r m2) (hdd : d2 < d) (hk : sh[k]? = some (.inl (ci, sl))) {q : vw_C} (hc : CL[ci]? = some q) (hq : q.1 = y.cls) (hst : st0 = As.reverse ++ .ref (eb E + k) :: st) (hn : As.length = n) (hcat : (st.map fun v => v.category).sum ≤ 8) (kk : J X E nL np ls (.long r :: st) sh m2) : J X E nL pc ls st0 sh mem := by
  obtain ⟨hd, rfl⟩ := hd
  have hR := S.2.2.2.2.2.2.2
  exact fun H locs arr hP hS hl => va_calll (va_runV (As := As) (rest := st) ⟨S.1, S.2.1, S.2.2.1, S.2.2.2.1, S.2.2.2.2.1⟩ hM (cbV S hm hdd) (preV S hP hS hk hc hq) rfl hn hl.1 hst (lv_room hcat) hd ⟨hR.2.2.1, hR.2.2.2⟩) hS (fun _ _ h => h) (fun _ h => h) (fun r1 u t H1 locs1 ht hvm hw hB hz hk1 hS1 => by
    cases hw
    exact kk H1 locs1 arr (ht ▸ hB) hS1 hl)
theorem j_callVV (S : Std X E cc own nL d) (hd : decode cc pc = .ok (.invokevirtual idx, 3) ∧ pc + 3 = np) (hm : MV own idx y c2 nL2 none n) (hM : CtV (cxL X) E d2 y c2 nL2 (.ref (eb E + k) :: As) sh mem m2) (hdd : d2 < d) (hk : sh[k]? = some (.inl (ci, sl))) {q : vw_C} (hc : CL[ci]? = some q) (hq : q.1 = y.cls) (hst : st0 = As.reverse ++ .ref (eb E + k) :: st) (hn : As.length = n) (hcat : (st.map fun v => v.category).sum ≤ 8) (kk : J X E nL np ls st sh m2) : J X E nL pc ls st0 sh mem := by
  obtain ⟨hd, rfl⟩ := hd
  have hR := S.2.2.2.2.2.2.2
  exact fun H locs arr hP hS hl => va_callv (va_runV (As := As) (rest := st) ⟨S.1, S.2.1, S.2.2.1, S.2.2.2.1, S.2.2.2.2.1⟩ hM (cbV S hm hdd) (preV S hP hS hk hc hq) rfl hn hl.1 hst (lv_room hcat) hd ⟨hR.2.2.1, hR.2.2.2⟩) hS (fun _ _ h => h) (fun _ h => h) (fun u t H1 locs1 ht hvm hw hB hz hk1 hS1 => kk H1 locs1 arr (ht ▸ hB) hS1 hl)
theorem j_callSV (S : Std X E cc own nL d) (hd : decode cc pc = .ok (.invokestatic idx, 3) ∧ pc + 3 = np) (hm : MS own idx y c2 nL2 none n) (hM : CtV (cxL X) E d2 y c2 nL2 As sh mem m2) (hdd : d2 < d) (hst : st0 = As.reverse ++ st) (hn : As.length = n) (hcat : (st.map fun v => v.category).sum ≤ 8) (kk : J X E nL np ls st sh m2) : J X E nL pc ls st0 sh mem := by
  obtain ⟨hd, rfl⟩ := hd
  have hR := S.2.2.2.2.2.2.2
  exact fun H locs arr hP hS hl => va_callv (va_runS (As := As) (rest := st) ⟨S.1, S.2.1, S.2.2.1, S.2.2.2.1, S.2.2.2.2.1⟩ hM (cbS S hm hdd) (preS S hP hS) rfl hn hl.1 hst (lv_room hcat) hd ⟨hR.2.2.1, hR.2.2.2⟩) hS (fun _ _ h => h) (fun _ h => h) (fun u t H1 locs1 ht hvm hw hB hz hk1 hS1 => kk H1 locs1 arr (ht ▸ hB) hS1 hl)
end JC
-- how the printed functions are taken apart
def lt {α β : Type} (e : α) (f : α → Option β) : Option β := f e
theorem ltE {α β : Type} {e : α} {f : α → Option β} {z : β} (h : lt e f = some z) : ∃ x, x = e ∧ f x = some z := ⟨e, rfl, h⟩
theorem gdE {α : Type} {c : Prop} [Decidable c] {a : Option α} {z : α} (h : (if c then a else none) = some z) : c ∧ a = some z := by
  by_cases hc : c
  · exact ⟨hc, by rw [if_pos hc] at h; exact h⟩
  · rw [if_neg hc] at h; cases h
def bp {α β : Type} (o : Option α) (f : α → Option β) : Option β := match o with
  | none => none
  | some x => f x
theorem bpE {α β : Type} {o : Option α} {f : α → Option β} {z : β} (h : bp o f = some z) : ∃ x, o = some x ∧ f x = some z := by
  cases o with
  | none => cases h
  | some x => exact ⟨x, rfl, h⟩
def bd {α β : Type} (o : Option (α × Mm)) (f : α → Mm → Option β) : Option β := match o with
  | none => none
  | some x => f x.1 x.2
theorem bdE {α β : Type} {o : Option (α × Mm)} {f : α → Mm → Option β} {z : β} (h : bd o f = some z) : ∃ x m, o = some (x, m) ∧ f x m = some z := by
  cases o with
  | none => cases h
  | some x => exact ⟨x.1, x.2, rfl, h⟩
theorem ifT {α : Type} {c : Prop} [Decidable c] {a b z : α} (hc : c) (h : (if c then a else b) = z) : a = z := by rw [if_pos hc] at h; exact h
theorem ifF {α : Type} {c : Prop} [Decidable c] {a b z : α} (hc : ¬ c) (h : (if c then a else b) = z) : b = z := by rw [if_neg hc] at h; exact h
end
section
/-! THE SHAPES of all cells: the class (0 .. 90), the reference (91 .. 112) -/
def SH : List Sh := [
  .inl (5, [some (some 1), some (some 2), some (some 38), some (some 48), some (some 58), none, some (some 4), some (some 5), some (some 6), none]),
  .inr (.inr (3, [some 7, some 9, some 11, some 13, some 15, some 17, some 19, some 21, some 23, some 25, some 27, some 29, some 31, some 33, some 35])),
  .inl (3, [none, some (some 3), none, none, none, none]),
  .inr (.inl (0, 96)),
  .inr (.inr (4, [some 68, some 70, some 72, some 74])),
  .inr (.inr (5, [some 76, some 79, some 82, some 85, some 88])),
  .inr (.inl (0, 60)),
  .inl (4, [none, none, none, some (some 8)]),
  .inr (.inl (0, 96)),
  .inl (4, [none, none, none, some (some 10)]),
  .inr (.inl (0, 96)),
  .inl (4, [none, none, none, some (some 12)]),
  .inr (.inl (0, 96)),
  .inl (4, [none, none, none, some (some 14)]),
  .inr (.inl (0, 96)),
  .inl (4, [none, none, none, some (some 16)]),
  .inr (.inl (0, 96)),
  .inl (4, [none, none, none, some (some 18)]),
  .inr (.inl (0, 96)),
  .inl (4, [none, none, none, some (some 20)]),
  .inr (.inl (0, 96)),
  .inl (4, [none, none, none, some (some 22)]),
  .inr (.inl (0, 96)),
  .inl (4, [none, none, none, some (some 24)]),
  .inr (.inl (0, 96)),
  .inl (4, [none, none, none, some (some 26)]),
  .inr (.inl (0, 96)),
  .inl (4, [none, none, none, some (some 28)]),
  .inr (.inl (0, 96)),
  .inl (4, [none, none, none, some (some 30)]),
  .inr (.inl (0, 96)),
  .inl (4, [none, none, none, some (some 32)]),
  .inr (.inl (0, 96)),
  .inl (4, [none, none, none, some (some 34)]),
  .inr (.inl (0, 96)),
  .inl (4, [none, none, none, some (some 36)]),
  .inr (.inl (0, 96)),
  .inr (.inl (0, 96)),
  .inl (0, [some (some 1), some (some 37), none, some (some 39), none, some (some 40), some (some 41), some (some 42), some (some 43), some (some 44), some (some 45), some (some 46), some (some 47), none, none, none, none, none, none]),
  .inr (.inl (0, 3)),
  .inr (.inl (0, 10)),
  .inr (.inl (0, 10)),
  .inr (.inl (0, 10)),
  .inr (.inl (0, 6)),
  .inr (.inl (0, 6)),
  .inr (.inl (0, 6)),
  .inr (.inl (0, 6)),
  .inr (.inl (0, 3)),
  .inl (0, [some (some 1), some (some 37), none, some (some 49), none, some (some 50), some (some 51), some (some 52), some (some 53), some (some 54), some (some 55), some (some 56), some (some 57), none, none, none, none, none, none]),
  .inr (.inl (0, 3)),
  .inr (.inl (0, 10)),
  .inr (.inl (0, 10)),
  .inr (.inl (0, 10)),
  .inr (.inl (0, 6)),
  .inr (.inl (0, 6)),
  .inr (.inl (0, 6)),
  .inr (.inl (0, 6)),
  .inr (.inl (0, 3)),
  .inl (0, [some (some 1), some (some 37), none, some (some 59), none, some (some 60), some (some 61), some (some 62), some (some 63), some (some 64), some (some 65), some (some 66), some (some 67), none, none, none, none, none, none]),
  .inr (.inl (0, 3)),
  .inr (.inl (0, 10)),
  .inr (.inl (0, 10)),
  .inr (.inl (0, 10)),
  .inr (.inl (0, 6)),
  .inr (.inl (0, 6)),
  .inr (.inl (0, 6)),
  .inr (.inl (0, 6)),
  .inr (.inl (0, 3)),
  .inl (1, [none, none, some (some 69)]),
  .inr (.inl (0, 24)),
  .inl (1, [none, none, some (some 71)]),
  .inr (.inl (0, 24)),
  .inl (1, [none, none, some (some 73)]),
  .inr (.inl (0, 24)),
  .inl (1, [none, none, some (some 75)]),
  .inr (.inl (0, 24)),
  .inl (2, [none, none, none, none, some (some 77)]),
  .inl (1, [none, none, some (some 78)]),
  .inr (.inl (0, 24)),
  .inl (2, [none, none, none, none, some (some 80)]),
  .inl (1, [none, none, some (some 81)]),
  .inr (.inl (0, 24)),
  .inl (2, [none, none, none, none, some (some 83)]),
  .inl (1, [none, none, some (some 84)]),
  .inr (.inl (0, 24)),
  .inl (2, [none, none, none, none, some (some 86)]),
  .inl (1, [none, none, some (some 87)]),
  .inr (.inl (0, 24)),
  .inl (2, [none, none, none, none, some (some 89)]),
  .inl (1, [none, none, some (some 90)]),
  .inr (.inl (0, 24)),
  .inl (6, [some (some 92), some (some 93), some (some 94), none, none, some (some 95), some (some 96), none, none, none, none, none, none, none, some (some 97), some (some 98), some (some 99), none, none, some (some 100), none, some (some 101), some (some 102), some (some 103), some (some 104), some (some 105), some (some 106), some (some 107), some (some 108), some (some 109), some (some 110), some (some 111), some (some 112), none]),
  .inr (.inl (0, 1436)),
  .inr (.inl (0, 1436)),
  .inr (.inl (0, 1436)),
  .inr (.inl (0, 64)),
  .inr (.inl (0, 96)),
  .inr (.inl (2, 12)),
  .inr (.inl (0, 4)),
  .inr (.inl (0, 96)),
  .inr (.inl (0, 96)),
  .inr (.inl (1, 10)),
  .inr (.inl (0, 96)),
  .inr (.inl (0, 4)),
  .inr (.inl (0, 4)),
  .inr (.inl (0, 4)),
  .inr (.inl (0, 96)),
  .inr (.inl (0, 5)),
  .inr (.inl (0, 5)),
  .inr (.inl (0, 5)),
  .inr (.inl (0, 120)),
  .inr (.inl (0, 24)),
  .inr (.inl (0, 60))]
abbrev slSand : List Sl := [some (some 1), some (some 2), some (some 38), some (some 48), some (some 58), none, some (some 4), some (some 5), some (some 6), none]
abbrev slTape : List Sl := [none, some (some 3), none, none, none, none]
abbrev slMod : List Sl := [some (some 92), some (some 93), some (some 94), none, none, some (some 95), some (some 96), none, none, none, none, none, none, none, some (some 97), some (some 98), some (some 99), none, none, some (some 100), none, some (some 101), some (some 102), some (some 103), some (some 104), some (some 105), some (some 106), some (some 107), some (some 108), some (some 109), some (some 110), some (some 111), some (some 112), none]
abbrev slPic (p : Nat) : List Sl := [some (some 1), some (some 37), none, some (some (p + 1)), none, some (some (p + 2)), some (some (p + 3)), some (some (p + 4)), some (some (p + 5)), some (some (p + 6)), some (some (p + 7)), some (some (p + 8)), some (some (p + 9)), none, none, none, none, none, none]
abbrev slTxt (k : Nat) : List Sl := [none, none, none, some (some (k + 1))]
abbrev slSht (k : Nat) : List Sl := [none, none, some (some (k + 1))]
abbrev slSlt (k : Nat) : List Sl := [none, none, none, none, some (some (k + 1))]
theorem sh_Sand : SH[0]? = some (.inl (5, slSand)) := rfl
theorem sh_Tape : SH[2]? = some (.inl (3, slTape)) := rfl
theorem sh_Mod : SH[91]? = some (.inl (6, slMod)) := rfl
theorem sh_1 : SH[1]? = some (.inr (.inr (3, [some 7, some 9, some 11, some 13, some 15, some 17, some 19, some 21, some 23, some 25, some 27, some 29, some 31, some 33, some 35]))) := rfl
theorem sh_3 : SH[3]? = some (.inr (.inl (0, 96))) := rfl
theorem sh_4 : SH[4]? = some (.inr (.inr (4, [some 68, some 70, some 72, some 74]))) := rfl
theorem sh_5 : SH[5]? = some (.inr (.inr (5, [some 76, some 79, some 82, some 85, some 88]))) := rfl
theorem sh_6 : SH[6]? = some (.inr (.inl (0, 60))) := rfl
theorem sh_8 : SH[8]? = some (.inr (.inl (0, 96))) := rfl
theorem sh_10 : SH[10]? = some (.inr (.inl (0, 96))) := rfl
theorem sh_12 : SH[12]? = some (.inr (.inl (0, 96))) := rfl
theorem sh_14 : SH[14]? = some (.inr (.inl (0, 96))) := rfl
theorem sh_16 : SH[16]? = some (.inr (.inl (0, 96))) := rfl
theorem sh_18 : SH[18]? = some (.inr (.inl (0, 96))) := rfl
theorem sh_20 : SH[20]? = some (.inr (.inl (0, 96))) := rfl
theorem sh_22 : SH[22]? = some (.inr (.inl (0, 96))) := rfl
theorem sh_24 : SH[24]? = some (.inr (.inl (0, 96))) := rfl
theorem sh_26 : SH[26]? = some (.inr (.inl (0, 96))) := rfl
theorem sh_28 : SH[28]? = some (.inr (.inl (0, 96))) := rfl
theorem sh_30 : SH[30]? = some (.inr (.inl (0, 96))) := rfl
theorem sh_32 : SH[32]? = some (.inr (.inl (0, 96))) := rfl
theorem sh_34 : SH[34]? = some (.inr (.inl (0, 96))) := rfl
theorem sh_36 : SH[36]? = some (.inr (.inl (0, 96))) := rfl
theorem sh_37 : SH[37]? = some (.inr (.inl (0, 96))) := rfl
theorem sh_39 : SH[39]? = some (.inr (.inl (0, 3))) := rfl
theorem sh_40 : SH[40]? = some (.inr (.inl (0, 10))) := rfl
theorem sh_41 : SH[41]? = some (.inr (.inl (0, 10))) := rfl
theorem sh_42 : SH[42]? = some (.inr (.inl (0, 10))) := rfl
theorem sh_43 : SH[43]? = some (.inr (.inl (0, 6))) := rfl
theorem sh_44 : SH[44]? = some (.inr (.inl (0, 6))) := rfl
theorem sh_45 : SH[45]? = some (.inr (.inl (0, 6))) := rfl
theorem sh_46 : SH[46]? = some (.inr (.inl (0, 6))) := rfl
theorem sh_47 : SH[47]? = some (.inr (.inl (0, 3))) := rfl
theorem sh_49 : SH[49]? = some (.inr (.inl (0, 3))) := rfl
theorem sh_50 : SH[50]? = some (.inr (.inl (0, 10))) := rfl
theorem sh_51 : SH[51]? = some (.inr (.inl (0, 10))) := rfl
theorem sh_52 : SH[52]? = some (.inr (.inl (0, 10))) := rfl
theorem sh_53 : SH[53]? = some (.inr (.inl (0, 6))) := rfl
theorem sh_54 : SH[54]? = some (.inr (.inl (0, 6))) := rfl
theorem sh_55 : SH[55]? = some (.inr (.inl (0, 6))) := rfl
theorem sh_56 : SH[56]? = some (.inr (.inl (0, 6))) := rfl
theorem sh_57 : SH[57]? = some (.inr (.inl (0, 3))) := rfl
theorem sh_59 : SH[59]? = some (.inr (.inl (0, 3))) := rfl
theorem sh_60 : SH[60]? = some (.inr (.inl (0, 10))) := rfl
theorem sh_61 : SH[61]? = some (.inr (.inl (0, 10))) := rfl
theorem sh_62 : SH[62]? = some (.inr (.inl (0, 10))) := rfl
theorem sh_63 : SH[63]? = some (.inr (.inl (0, 6))) := rfl
theorem sh_64 : SH[64]? = some (.inr (.inl (0, 6))) := rfl
theorem sh_65 : SH[65]? = some (.inr (.inl (0, 6))) := rfl
theorem sh_66 : SH[66]? = some (.inr (.inl (0, 6))) := rfl
theorem sh_67 : SH[67]? = some (.inr (.inl (0, 3))) := rfl
theorem sh_69 : SH[69]? = some (.inr (.inl (0, 24))) := rfl
theorem sh_71 : SH[71]? = some (.inr (.inl (0, 24))) := rfl
theorem sh_73 : SH[73]? = some (.inr (.inl (0, 24))) := rfl
theorem sh_75 : SH[75]? = some (.inr (.inl (0, 24))) := rfl
theorem sh_78 : SH[78]? = some (.inr (.inl (0, 24))) := rfl
theorem sh_81 : SH[81]? = some (.inr (.inl (0, 24))) := rfl
theorem sh_84 : SH[84]? = some (.inr (.inl (0, 24))) := rfl
theorem sh_87 : SH[87]? = some (.inr (.inl (0, 24))) := rfl
theorem sh_90 : SH[90]? = some (.inr (.inl (0, 24))) := rfl
theorem sh_92 : SH[92]? = some (.inr (.inl (0, 1436))) := rfl
theorem sh_93 : SH[93]? = some (.inr (.inl (0, 1436))) := rfl
theorem sh_94 : SH[94]? = some (.inr (.inl (0, 1436))) := rfl
theorem sh_95 : SH[95]? = some (.inr (.inl (0, 64))) := rfl
theorem sh_96 : SH[96]? = some (.inr (.inl (0, 96))) := rfl
theorem sh_97 : SH[97]? = some (.inr (.inl (2, 12))) := rfl
theorem sh_98 : SH[98]? = some (.inr (.inl (0, 4))) := rfl
theorem sh_99 : SH[99]? = some (.inr (.inl (0, 96))) := rfl
theorem sh_100 : SH[100]? = some (.inr (.inl (0, 96))) := rfl
theorem sh_101 : SH[101]? = some (.inr (.inl (1, 10))) := rfl
theorem sh_102 : SH[102]? = some (.inr (.inl (0, 96))) := rfl
theorem sh_103 : SH[103]? = some (.inr (.inl (0, 4))) := rfl
theorem sh_104 : SH[104]? = some (.inr (.inl (0, 4))) := rfl
theorem sh_105 : SH[105]? = some (.inr (.inl (0, 4))) := rfl
theorem sh_106 : SH[106]? = some (.inr (.inl (0, 96))) := rfl
theorem sh_107 : SH[107]? = some (.inr (.inl (0, 5))) := rfl
theorem sh_108 : SH[108]? = some (.inr (.inl (0, 5))) := rfl
theorem sh_109 : SH[109]? = some (.inr (.inl (0, 5))) := rfl
theorem sh_110 : SH[110]? = some (.inr (.inl (0, 120))) := rfl
theorem sh_111 : SH[111]? = some (.inr (.inl (0, 24))) := rfl
theorem sh_112 : SH[112]? = some (.inr (.inl (0, 60))) := rfl
def isPic (k : Nat) : Prop := k ∈ ([38, 48, 58] : List Nat)
def isTxt (k : Nat) : Prop := k ∈ ([7, 9, 11, 13, 15, 17, 19, 21, 23, 25, 27, 29, 31, 33, 35] : List Nat)
def isSht (k : Nat) : Prop := k ∈ ([68, 70, 72, 74, 77, 80, 83, 86, 89] : List Nat)
def isSlt (k : Nat) : Prop := k ∈ ([76, 79, 82, 85, 88] : List Nat)
theorem sh_pic {k : Nat} (h : isPic k) : SH[k]? = some (.inl (0, slPic k)) := by
  unfold isPic at h
  simp only [List.mem_cons, List.not_mem_nil, or_false] at h
  rcases h with rfl | rfl | rfl <;> rfl
theorem sh_pic1 {k : Nat} (h : isPic k) : SH[k + 1]? = some (.inr (.inl (0, 3))) := by
  unfold isPic at h
  simp only [List.mem_cons, List.not_mem_nil, or_false] at h
  rcases h with rfl | rfl | rfl <;> rfl
theorem sh_pic2 {k : Nat} (h : isPic k) : SH[k + 2]? = some (.inr (.inl (0, 10))) := by
  unfold isPic at h
  simp only [List.mem_cons, List.not_mem_nil, or_false] at h
  rcases h with rfl | rfl | rfl <;> rfl
theorem sh_pic3 {k : Nat} (h : isPic k) : SH[k + 3]? = some (.inr (.inl (0, 10))) := by
  unfold isPic at h
  simp only [List.mem_cons, List.not_mem_nil, or_false] at h
  rcases h with rfl | rfl | rfl <;> rfl
theorem sh_pic4 {k : Nat} (h : isPic k) : SH[k + 4]? = some (.inr (.inl (0, 10))) := by
  unfold isPic at h
  simp only [List.mem_cons, List.not_mem_nil, or_false] at h
  rcases h with rfl | rfl | rfl <;> rfl
theorem sh_pic5 {k : Nat} (h : isPic k) : SH[k + 5]? = some (.inr (.inl (0, 6))) := by
  unfold isPic at h
  simp only [List.mem_cons, List.not_mem_nil, or_false] at h
  rcases h with rfl | rfl | rfl <;> rfl
theorem sh_pic6 {k : Nat} (h : isPic k) : SH[k + 6]? = some (.inr (.inl (0, 6))) := by
  unfold isPic at h
  simp only [List.mem_cons, List.not_mem_nil, or_false] at h
  rcases h with rfl | rfl | rfl <;> rfl
theorem sh_pic7 {k : Nat} (h : isPic k) : SH[k + 7]? = some (.inr (.inl (0, 6))) := by
  unfold isPic at h
  simp only [List.mem_cons, List.not_mem_nil, or_false] at h
  rcases h with rfl | rfl | rfl <;> rfl
theorem sh_pic8 {k : Nat} (h : isPic k) : SH[k + 8]? = some (.inr (.inl (0, 6))) := by
  unfold isPic at h
  simp only [List.mem_cons, List.not_mem_nil, or_false] at h
  rcases h with rfl | rfl | rfl <;> rfl
theorem sh_pic9 {k : Nat} (h : isPic k) : SH[k + 9]? = some (.inr (.inl (0, 3))) := by
  unfold isPic at h
  simp only [List.mem_cons, List.not_mem_nil, or_false] at h
  rcases h with rfl | rfl | rfl <;> rfl
theorem sh_txt {k : Nat} (h : isTxt k) : SH[k]? = some (.inl (4, slTxt k)) := by
  unfold isTxt at h
  simp only [List.mem_cons, List.not_mem_nil, or_false] at h
  rcases h with rfl | rfl | rfl | rfl | rfl | rfl | rfl | rfl | rfl | rfl | rfl | rfl | rfl | rfl | rfl <;> rfl
theorem sh_txt1 {k : Nat} (h : isTxt k) : SH[k + 1]? = some (.inr (.inl (0, 96))) := by
  unfold isTxt at h
  simp only [List.mem_cons, List.not_mem_nil, or_false] at h
  rcases h with rfl | rfl | rfl | rfl | rfl | rfl | rfl | rfl | rfl | rfl | rfl | rfl | rfl | rfl | rfl <;> rfl
theorem sh_sht {k : Nat} (h : isSht k) : SH[k]? = some (.inl (1, slSht k)) := by
  unfold isSht at h
  simp only [List.mem_cons, List.not_mem_nil, or_false] at h
  rcases h with rfl | rfl | rfl | rfl | rfl | rfl | rfl | rfl | rfl <;> rfl
theorem sh_sht1 {k : Nat} (h : isSht k) : SH[k + 1]? = some (.inr (.inl (0, 24))) := by
  unfold isSht at h
  simp only [List.mem_cons, List.not_mem_nil, or_false] at h
  rcases h with rfl | rfl | rfl | rfl | rfl | rfl | rfl | rfl | rfl <;> rfl
theorem sh_slt {k : Nat} (h : isSlt k) : SH[k]? = some (.inl (2, slSlt k)) := by
  unfold isSlt at h
  simp only [List.mem_cons, List.not_mem_nil, or_false] at h
  rcases h with rfl | rfl | rfl | rfl | rfl <;> rfl
theorem inb_lt {x : Int32} {n : Nat} (h : inb x n = true) : ix x < n := by
  unfold inb at h
  simp only [Bool.and_eq_true, decide_eq_true_eq] at h
  exact h.2
theorem el_txt {x : Int32} (h : inb x 15 = true) : ([some 7, some 9, some 11, some 13, some 15, some 17, some 19, some 21, some 23, some 25, some 27, some 29, some 31, some 33, some 35] : List (Option Nat))[ix x]? = some (some (7 + 2 * ix x)) := by
  have hx := inb_lt h
  generalize ix x = j at hx ⊢
  match j, hx with
  | 0, _ => rfl
  | 1, _ => rfl
  | 2, _ => rfl
  | 3, _ => rfl
  | 4, _ => rfl
  | 5, _ => rfl
  | 6, _ => rfl
  | 7, _ => rfl
  | 8, _ => rfl
  | 9, _ => rfl
  | 10, _ => rfl
  | 11, _ => rfl
  | 12, _ => rfl
  | 13, _ => rfl
  | 14, _ => rfl
  | j + 15, h => exact absurd h (by omega)
theorem ro_txt {x : Int32} (h : inb x 15 = true) : isTxt (7 + 2 * ix x) := by
  have hx := inb_lt h
  generalize ix x = j at hx ⊢
  match j, hx with
  | 0, _ => exact List.mem_of_getElem? (i := 0) rfl
  | 1, _ => exact List.mem_of_getElem? (i := 1) rfl
  | 2, _ => exact List.mem_of_getElem? (i := 2) rfl
  | 3, _ => exact List.mem_of_getElem? (i := 3) rfl
  | 4, _ => exact List.mem_of_getElem? (i := 4) rfl
  | 5, _ => exact List.mem_of_getElem? (i := 5) rfl
  | 6, _ => exact List.mem_of_getElem? (i := 6) rfl
  | 7, _ => exact List.mem_of_getElem? (i := 7) rfl
  | 8, _ => exact List.mem_of_getElem? (i := 8) rfl
  | 9, _ => exact List.mem_of_getElem? (i := 9) rfl
  | 10, _ => exact List.mem_of_getElem? (i := 10) rfl
  | 11, _ => exact List.mem_of_getElem? (i := 11) rfl
  | 12, _ => exact List.mem_of_getElem? (i := 12) rfl
  | 13, _ => exact List.mem_of_getElem? (i := 13) rfl
  | 14, _ => exact List.mem_of_getElem? (i := 14) rfl
  | j + 15, h => exact absurd h (by omega)
theorem el_sht {x : Int32} (h : inb x 4 = true) : ([some 68, some 70, some 72, some 74] : List (Option Nat))[ix x]? = some (some (68 + 2 * ix x)) := by
  have hx := inb_lt h
  generalize ix x = j at hx ⊢
  match j, hx with
  | 0, _ => rfl
  | 1, _ => rfl
  | 2, _ => rfl
  | 3, _ => rfl
  | j + 4, h => exact absurd h (by omega)
theorem ro_sht {x : Int32} (h : inb x 4 = true) : isSht (68 + 2 * ix x) := by
  have hx := inb_lt h
  generalize ix x = j at hx ⊢
  match j, hx with
  | 0, _ => exact List.mem_of_getElem? (i := 0) rfl
  | 1, _ => exact List.mem_of_getElem? (i := 1) rfl
  | 2, _ => exact List.mem_of_getElem? (i := 2) rfl
  | 3, _ => exact List.mem_of_getElem? (i := 3) rfl
  | j + 4, h => exact absurd h (by omega)
theorem el_slt {x : Int32} (h : inb x 5 = true) : ([some 76, some 79, some 82, some 85, some 88] : List (Option Nat))[ix x]? = some (some (76 + 3 * ix x)) := by
  have hx := inb_lt h
  generalize ix x = j at hx ⊢
  match j, hx with
  | 0, _ => rfl
  | 1, _ => rfl
  | 2, _ => rfl
  | 3, _ => rfl
  | 4, _ => rfl
  | j + 5, h => exact absurd h (by omega)
theorem ro_slt {x : Int32} (h : inb x 5 = true) : isSlt (76 + 3 * ix x) := by
  have hx := inb_lt h
  generalize ix x = j at hx ⊢
  match j, hx with
  | 0, _ => exact List.mem_of_getElem? (i := 0) rfl
  | 1, _ => exact List.mem_of_getElem? (i := 1) rfl
  | 2, _ => exact List.mem_of_getElem? (i := 2) rfl
  | 3, _ => exact List.mem_of_getElem? (i := 3) rfl
  | 4, _ => exact List.mem_of_getElem? (i := 4) rfl
  | j + 5, h => exact absurd h (by omega)
theorem ro_slsh {k : Nat} (h : isSlt k) : isSht (k + 1) := by
  unfold isSlt at h
  simp only [List.mem_cons, List.not_mem_nil, or_false] at h
  rcases h with rfl | rfl | rfl | rfl | rfl <;> (unfold isSht; decide)
theorem pic_38 : isPic 38 := by unfold isPic; decide
theorem pic_48 : isPic 48 := by unfold isPic; decide
theorem pic_58 : isPic 58 := by unfold isPic; decide
end
section
def RK : String := "SandPicture$Kinds"
def R_law : String := "SandPictureLaw"
theorem fl_R5_11 : FLk R5 11 5 0 := ⟨_, rfl, by decide, tb_t 206 (by decide +kernel)⟩
theorem fl_R5_18 : FLk R5 18 5 1 := ⟨_, rfl, by decide, tb_t 207 (by decide +kernel)⟩
theorem fl_R5_22 : FLk R5 22 5 5 := ⟨_, rfl, by decide, tb_t 211 (by decide +kernel)⟩
theorem fp_R5_22 : FPk R5 22 5 5 .boolean := ⟨_, rfl, by decide, tb_t 211 (by decide +kernel), by decide +kernel, by decide +kernel⟩
theorem fl_R5_28 : FLk R5 28 5 6 := ⟨_, rfl, by decide, tb_t 212 (by decide +kernel)⟩
theorem fl_R5_34 : FLk R5 34 5 7 := ⟨_, rfl, by decide, tb_t 213 (by decide +kernel)⟩
theorem fl_R5_38 : FLk R5 38 5 8 := ⟨_, rfl, by decide, tb_t 214 (by decide +kernel)⟩
theorem fl_R5_42 : FLk R5 42 5 9 := ⟨_, rfl, by decide, tb_t 215 (by decide +kernel)⟩
theorem fp_R5_42 : FPk R5 42 5 9 .int := ⟨_, rfl, by decide, tb_t 215 (by decide +kernel), by decide +kernel, by decide +kernel⟩
theorem fl_R5_52 : FLk R5 52 5 2 := ⟨_, rfl, by decide, tb_t 208 (by decide +kernel)⟩
theorem fl_R5_56 : FLk R5 56 5 3 := ⟨_, rfl, by decide, tb_t 209 (by decide +kernel)⟩
theorem fl_R5_59 : FLk R5 59 5 4 := ⟨_, rfl, by decide, tb_t 210 (by decide +kernel)⟩
theorem fl_R5_78 : FLk R5 78 0 4 := ⟨_, rfl, by decide, tb_t 92 (by decide +kernel)⟩
theorem fp_R5_78 : FPk R5 78 0 4 .int := ⟨_, rfl, by decide, tb_t 92 (by decide +kernel), by decide +kernel, by decide +kernel⟩
theorem fl_R5_89 : FLk R5 89 0 5 := ⟨_, rfl, by decide, tb_t 94 (by decide +kernel)⟩
theorem fl_R5_92 : FLk R5 92 0 6 := ⟨_, rfl, by decide, tb_t 96 (by decide +kernel)⟩
theorem fl_R5_95 : FLk R5 95 0 7 := ⟨_, rfl, by decide, tb_t 98 (by decide +kernel)⟩
theorem fl_R5_116 : FLk R5 116 0 8 := ⟨_, rfl, by decide, tb_t 100 (by decide +kernel)⟩
theorem fl_R5_119 : FLk R5 119 0 9 := ⟨_, rfl, by decide, tb_t 102 (by decide +kernel)⟩
theorem fl_R5_122 : FLk R5 122 0 10 := ⟨_, rfl, by decide, tb_t 104 (by decide +kernel)⟩
theorem fl_R5_125 : FLk R5 125 0 11 := ⟨_, rfl, by decide, tb_t 106 (by decide +kernel)⟩
theorem fl_R5_132 : FLk R5 132 0 12 := ⟨_, rfl, by decide, tb_t 108 (by decide +kernel)⟩
theorem fl_R5_135 : FLk R5 135 0 13 := ⟨_, rfl, by decide, tb_t 110 (by decide +kernel)⟩
theorem fp_R5_135 : FPk R5 135 0 13 .int := ⟨_, rfl, by decide, tb_t 110 (by decide +kernel), by decide +kernel, by decide +kernel⟩
theorem fl_R5_146 : FLk R5 146 0 17 := ⟨_, rfl, by decide, tb_t 118 (by decide +kernel)⟩
theorem fp_R5_146 : FPk R5 146 0 17 .int := ⟨_, rfl, by decide, tb_t 118 (by decide +kernel), by decide +kernel, by decide +kernel⟩
theorem fl_R5_149 : FLk R5 149 0 15 := ⟨_, rfl, by decide, tb_t 114 (by decide +kernel)⟩
theorem fp_R5_149 : FPk R5 149 0 15 .int := ⟨_, rfl, by decide, tb_t 114 (by decide +kernel), by decide +kernel, by decide +kernel⟩
theorem fl_R5_156 : FLk R5 156 0 14 := ⟨_, rfl, by decide, tb_t 112 (by decide +kernel)⟩
theorem fp_R5_156 : FPk R5 156 0 14 .int := ⟨_, rfl, by decide, tb_t 112 (by decide +kernel), by decide +kernel, by decide +kernel⟩
theorem fl_R5_163 : FLk R5 163 0 16 := ⟨_, rfl, by decide, tb_t 116 (by decide +kernel)⟩
theorem fp_R5_163 : FPk R5 163 0 16 .int := ⟨_, rfl, by decide, tb_t 116 (by decide +kernel), by decide +kernel, by decide +kernel⟩
theorem fl_R5_175 : FLk R5 175 0 18 := ⟨_, rfl, by decide, tb_t 120 (by decide +kernel)⟩
theorem fp_R5_175 : FPk R5 175 0 18 .int := ⟨_, rfl, by decide, tb_t 120 (by decide +kernel), by decide +kernel, by decide +kernel⟩
theorem fl_R5_181 : FLk R5 181 1 0 := ⟨_, rfl, by decide, tb_t 166 (by decide +kernel)⟩
theorem fp_R5_181 : FPk R5 181 1 0 .int := ⟨_, rfl, by decide, tb_t 166 (by decide +kernel), by decide +kernel, by decide +kernel⟩
theorem fl_R5_192 : FLk R5 192 3 0 := ⟨_, rfl, by decide, tb_t 33 (by decide +kernel)⟩
theorem fp_R5_192 : FPk R5 192 3 0 .int := ⟨_, rfl, by decide, tb_t 33 (by decide +kernel), by decide +kernel, by decide +kernel⟩
theorem fl_R5_199 : FLk R5 199 0 2 := ⟨_, rfl, by decide, tb_t 88 (by decide +kernel)⟩
theorem fp_R5_199 : FPk R5 199 0 2 .int := ⟨_, rfl, by decide, tb_t 88 (by decide +kernel), by decide +kernel, by decide +kernel⟩
theorem fl_R5_206 : FLk R5 206 0 3 := ⟨_, rfl, by decide, tb_t 90 (by decide +kernel)⟩
theorem fl_R5_209 : FLk R5 209 4 0 := ⟨_, rfl, by decide, tb_t 64 (by decide +kernel)⟩
theorem fp_R5_209 : FPk R5 209 4 0 .int := ⟨_, rfl, by decide, tb_t 64 (by decide +kernel), by decide +kernel, by decide +kernel⟩
theorem fl_R5_212 : FLk R5 212 4 1 := ⟨_, rfl, by decide, tb_t 66 (by decide +kernel)⟩
theorem fp_R5_212 : FPk R5 212 4 1 .int := ⟨_, rfl, by decide, tb_t 66 (by decide +kernel), by decide +kernel, by decide +kernel⟩
theorem fl_R5_220 : FLk R5 220 1 1 := ⟨_, rfl, by decide, tb_t 168 (by decide +kernel)⟩
theorem fp_R5_220 : FPk R5 220 1 1 .int := ⟨_, rfl, by decide, tb_t 168 (by decide +kernel), by decide +kernel, by decide +kernel⟩
theorem fl_R5_222 : FLk R5 222 1 2 := ⟨_, rfl, by decide, tb_t 170 (by decide +kernel)⟩
theorem fl_R5_244 : FLk R5 244 2 0 := ⟨_, rfl, by decide, tb_t 186 (by decide +kernel)⟩
theorem fp_R5_244 : FPk R5 244 2 0 .int := ⟨_, rfl, by decide, tb_t 186 (by decide +kernel), by decide +kernel, by decide +kernel⟩
theorem fl_R5_247 : FLk R5 247 2 1 := ⟨_, rfl, by decide, tb_t 188 (by decide +kernel)⟩
theorem fp_R5_247 : FPk R5 247 2 1 .int := ⟨_, rfl, by decide, tb_t 188 (by decide +kernel), by decide +kernel, by decide +kernel⟩
theorem fl_R5_249 : FLk R5 249 2 2 := ⟨_, rfl, by decide, tb_t 190 (by decide +kernel)⟩
theorem fp_R5_249 : FPk R5 249 2 2 .int := ⟨_, rfl, by decide, tb_t 190 (by decide +kernel), by decide +kernel, by decide +kernel⟩
theorem fl_R5_251 : FLk R5 251 2 4 := ⟨_, rfl, by decide, tb_t 194 (by decide +kernel)⟩
theorem fl_R5_258 : FLk R5 258 2 3 := ⟨_, rfl, by decide, tb_t 192 (by decide +kernel)⟩
theorem fp_R5_258 : FPk R5 258 2 3 .int := ⟨_, rfl, by decide, tb_t 192 (by decide +kernel), by decide +kernel, by decide +kernel⟩
theorem fl_R0_9 : FLk R0 9 0 2 := ⟨_, rfl, by decide, tb_t 87 (by decide +kernel)⟩
theorem fp_R0_9 : FPk R0 9 0 2 .int := ⟨_, rfl, by decide, tb_t 87 (by decide +kernel), by decide +kernel, by decide +kernel⟩
theorem fl_R0_16 : FLk R0 16 0 3 := ⟨_, rfl, by decide, tb_t 89 (by decide +kernel)⟩
theorem fl_R0_20 : FLk R0 20 0 4 := ⟨_, rfl, by decide, tb_t 91 (by decide +kernel)⟩
theorem fp_R0_20 : FPk R0 20 0 4 .int := ⟨_, rfl, by decide, tb_t 91 (by decide +kernel), by decide +kernel, by decide +kernel⟩
theorem fl_R0_23 : FLk R0 23 0 5 := ⟨_, rfl, by decide, tb_t 93 (by decide +kernel)⟩
theorem fl_R0_26 : FLk R0 26 0 6 := ⟨_, rfl, by decide, tb_t 95 (by decide +kernel)⟩
theorem fl_R0_29 : FLk R0 29 0 7 := ⟨_, rfl, by decide, tb_t 97 (by decide +kernel)⟩
theorem fl_R0_32 : FLk R0 32 0 8 := ⟨_, rfl, by decide, tb_t 99 (by decide +kernel)⟩
theorem fl_R0_35 : FLk R0 35 0 9 := ⟨_, rfl, by decide, tb_t 101 (by decide +kernel)⟩
theorem fl_R0_38 : FLk R0 38 0 10 := ⟨_, rfl, by decide, tb_t 103 (by decide +kernel)⟩
theorem fl_R0_41 : FLk R0 41 0 11 := ⟨_, rfl, by decide, tb_t 105 (by decide +kernel)⟩
theorem fl_R0_44 : FLk R0 44 0 12 := ⟨_, rfl, by decide, tb_t 107 (by decide +kernel)⟩
theorem fl_R0_47 : FLk R0 47 0 13 := ⟨_, rfl, by decide, tb_t 109 (by decide +kernel)⟩
theorem fp_R0_47 : FPk R0 47 0 13 .int := ⟨_, rfl, by decide, tb_t 109 (by decide +kernel), by decide +kernel, by decide +kernel⟩
theorem fl_R0_50 : FLk R0 50 0 14 := ⟨_, rfl, by decide, tb_t 111 (by decide +kernel)⟩
theorem fp_R0_50 : FPk R0 50 0 14 .int := ⟨_, rfl, by decide, tb_t 111 (by decide +kernel), by decide +kernel, by decide +kernel⟩
theorem fl_R0_53 : FLk R0 53 0 15 := ⟨_, rfl, by decide, tb_t 113 (by decide +kernel)⟩
theorem fp_R0_53 : FPk R0 53 0 15 .int := ⟨_, rfl, by decide, tb_t 113 (by decide +kernel), by decide +kernel, by decide +kernel⟩
theorem fl_R0_56 : FLk R0 56 0 16 := ⟨_, rfl, by decide, tb_t 115 (by decide +kernel)⟩
theorem fp_R0_56 : FPk R0 56 0 16 .int := ⟨_, rfl, by decide, tb_t 115 (by decide +kernel), by decide +kernel, by decide +kernel⟩
theorem fl_R0_59 : FLk R0 59 0 17 := ⟨_, rfl, by decide, tb_t 117 (by decide +kernel)⟩
theorem fp_R0_59 : FPk R0 59 0 17 .int := ⟨_, rfl, by decide, tb_t 117 (by decide +kernel), by decide +kernel, by decide +kernel⟩
theorem fl_R0_62 : FLk R0 62 0 18 := ⟨_, rfl, by decide, tb_t 119 (by decide +kernel)⟩
theorem fp_R0_62 : FPk R0 62 0 18 .int := ⟨_, rfl, by decide, tb_t 119 (by decide +kernel), by decide +kernel, by decide +kernel⟩
theorem fl_R0_65 : FLk R0 65 0 0 := ⟨_, rfl, by decide, tb_t 85 (by decide +kernel)⟩
theorem fl_R0_69 : FLk R0 69 0 1 := ⟨_, rfl, by decide, tb_t 86 (by decide +kernel)⟩
theorem fl_R1_9 : FLk R1 9 1 0 := ⟨_, rfl, by decide, tb_t 165 (by decide +kernel)⟩
theorem fp_R1_9 : FPk R1 9 1 0 .int := ⟨_, rfl, by decide, tb_t 165 (by decide +kernel), by decide +kernel, by decide +kernel⟩
theorem fl_R1_15 : FLk R1 15 1 1 := ⟨_, rfl, by decide, tb_t 167 (by decide +kernel)⟩
theorem fp_R1_15 : FPk R1 15 1 1 .int := ⟨_, rfl, by decide, tb_t 167 (by decide +kernel), by decide +kernel, by decide +kernel⟩
theorem fl_R1_18 : FLk R1 18 1 2 := ⟨_, rfl, by decide, tb_t 169 (by decide +kernel)⟩
theorem fl_R2_9 : FLk R2 9 2 0 := ⟨_, rfl, by decide, tb_t 185 (by decide +kernel)⟩
theorem fp_R2_9 : FPk R2 9 2 0 .int := ⟨_, rfl, by decide, tb_t 185 (by decide +kernel), by decide +kernel, by decide +kernel⟩
theorem fl_R2_15 : FLk R2 15 2 1 := ⟨_, rfl, by decide, tb_t 187 (by decide +kernel)⟩
theorem fp_R2_15 : FPk R2 15 2 1 .int := ⟨_, rfl, by decide, tb_t 187 (by decide +kernel), by decide +kernel, by decide +kernel⟩
theorem fl_R2_18 : FLk R2 18 2 2 := ⟨_, rfl, by decide, tb_t 189 (by decide +kernel)⟩
theorem fp_R2_18 : FPk R2 18 2 2 .int := ⟨_, rfl, by decide, tb_t 189 (by decide +kernel), by decide +kernel, by decide +kernel⟩
theorem fl_R2_21 : FLk R2 21 2 3 := ⟨_, rfl, by decide, tb_t 191 (by decide +kernel)⟩
theorem fp_R2_21 : FPk R2 21 2 3 .int := ⟨_, rfl, by decide, tb_t 191 (by decide +kernel), by decide +kernel, by decide +kernel⟩
theorem fl_R2_27 : FLk R2 27 2 4 := ⟨_, rfl, by decide, tb_t 193 (by decide +kernel)⟩
theorem fl_R3_9 : FLk R3 9 3 0 := ⟨_, rfl, by decide, tb_t 32 (by decide +kernel)⟩
theorem fp_R3_9 : FPk R3 9 3 0 .int := ⟨_, rfl, by decide, tb_t 32 (by decide +kernel), by decide +kernel, by decide +kernel⟩
theorem fl_R3_15 : FLk R3 15 3 1 := ⟨_, rfl, by decide, tb_t 34 (by decide +kernel)⟩
theorem fl_R3_19 : FLk R3 19 3 2 := ⟨_, rfl, by decide, tb_t 35 (by decide +kernel)⟩
theorem fp_R3_19 : FPk R3 19 3 2 .int := ⟨_, rfl, by decide, tb_t 35 (by decide +kernel), by decide +kernel, by decide +kernel⟩
theorem fl_R3_22 : FLk R3 22 3 3 := ⟨_, rfl, by decide, tb_t 36 (by decide +kernel)⟩
theorem fp_R3_22 : FPk R3 22 3 3 .int := ⟨_, rfl, by decide, tb_t 36 (by decide +kernel), by decide +kernel, by decide +kernel⟩
theorem fl_R3_25 : FLk R3 25 3 4 := ⟨_, rfl, by decide, tb_t 37 (by decide +kernel)⟩
theorem fp_R3_25 : FPk R3 25 3 4 .boolean := ⟨_, rfl, by decide, tb_t 37 (by decide +kernel), by decide +kernel, by decide +kernel⟩
theorem fl_R3_29 : FLk R3 29 3 5 := ⟨_, rfl, by decide, tb_t 38 (by decide +kernel)⟩
theorem fp_R3_29 : FPk R3 29 3 5 .int := ⟨_, rfl, by decide, tb_t 38 (by decide +kernel), by decide +kernel, by decide +kernel⟩
theorem fl_R3_76 : FLk R3 76 4 0 := ⟨_, rfl, by decide, tb_t 63 (by decide +kernel)⟩
theorem fp_R3_76 : FPk R3 76 4 0 .int := ⟨_, rfl, by decide, tb_t 63 (by decide +kernel), by decide +kernel, by decide +kernel⟩
theorem fl_R4_9 : FLk R4 9 4 0 := ⟨_, rfl, by decide, tb_t 62 (by decide +kernel)⟩
theorem fp_R4_9 : FPk R4 9 4 0 .int := ⟨_, rfl, by decide, tb_t 62 (by decide +kernel), by decide +kernel, by decide +kernel⟩
theorem fl_R4_15 : FLk R4 15 4 1 := ⟨_, rfl, by decide, tb_t 65 (by decide +kernel)⟩
theorem fp_R4_15 : FPk R4 15 4 1 .int := ⟨_, rfl, by decide, tb_t 65 (by decide +kernel), by decide +kernel, by decide +kernel⟩
theorem fl_R4_18 : FLk R4 18 4 2 := ⟨_, rfl, by decide, tb_t 67 (by decide +kernel)⟩
theorem fp_R4_18 : FPk R4 18 4 2 .int := ⟨_, rfl, by decide, tb_t 67 (by decide +kernel), by decide +kernel, by decide +kernel⟩
theorem fl_R4_21 : FLk R4 21 4 3 := ⟨_, rfl, by decide, tb_t 68 (by decide +kernel)⟩
theorem fl_R6_9 : FLk R6 9 6 0 := ⟨_, rfl, by decide, tb_t 773 (by decide +kernel)⟩
theorem fl_R6_13 : FLk R6 13 6 1 := ⟨_, rfl, by decide, tb_t 774 (by decide +kernel)⟩
theorem fl_R6_16 : FLk R6 16 6 2 := ⟨_, rfl, by decide, tb_t 775 (by decide +kernel)⟩
theorem fl_R6_19 : FLk R6 19 6 4 := ⟨_, rfl, by decide, tb_t 777 (by decide +kernel)⟩
theorem fp_R6_19 : FPk R6 19 6 4 .int := ⟨_, rfl, by decide, tb_t 777 (by decide +kernel), by decide +kernel, by decide +kernel⟩
theorem fl_R6_23 : FLk R6 23 6 5 := ⟨_, rfl, by decide, tb_t 778 (by decide +kernel)⟩
theorem fl_R6_26 : FLk R6 26 6 6 := ⟨_, rfl, by decide, tb_t 779 (by decide +kernel)⟩
theorem fl_R6_29 : FLk R6 29 6 14 := ⟨_, rfl, by decide, tb_t 787 (by decide +kernel)⟩
theorem fl_R6_33 : FLk R6 33 6 15 := ⟨_, rfl, by decide, tb_t 788 (by decide +kernel)⟩
theorem fl_R6_36 : FLk R6 36 6 16 := ⟨_, rfl, by decide, tb_t 789 (by decide +kernel)⟩
theorem fl_R6_39 : FLk R6 39 6 19 := ⟨_, rfl, by decide, tb_t 792 (by decide +kernel)⟩
theorem fl_R6_42 : FLk R6 42 6 21 := ⟨_, rfl, by decide, tb_t 794 (by decide +kernel)⟩
theorem fl_R6_46 : FLk R6 46 6 22 := ⟨_, rfl, by decide, tb_t 795 (by decide +kernel)⟩
theorem fl_R6_49 : FLk R6 49 6 23 := ⟨_, rfl, by decide, tb_t 796 (by decide +kernel)⟩
theorem fl_R6_52 : FLk R6 52 6 24 := ⟨_, rfl, by decide, tb_t 797 (by decide +kernel)⟩
theorem fl_R6_55 : FLk R6 55 6 25 := ⟨_, rfl, by decide, tb_t 798 (by decide +kernel)⟩
theorem fl_R6_58 : FLk R6 58 6 26 := ⟨_, rfl, by decide, tb_t 799 (by decide +kernel)⟩
theorem fl_R6_61 : FLk R6 61 6 27 := ⟨_, rfl, by decide, tb_t 800 (by decide +kernel)⟩
theorem fl_R6_64 : FLk R6 64 6 28 := ⟨_, rfl, by decide, tb_t 801 (by decide +kernel)⟩
theorem fl_R6_67 : FLk R6 67 6 29 := ⟨_, rfl, by decide, tb_t 802 (by decide +kernel)⟩
theorem fl_R6_70 : FLk R6 70 6 30 := ⟨_, rfl, by decide, tb_t 803 (by decide +kernel)⟩
theorem fl_R6_73 : FLk R6 73 6 31 := ⟨_, rfl, by decide, tb_t 804 (by decide +kernel)⟩
theorem fl_R6_76 : FLk R6 76 6 32 := ⟨_, rfl, by decide, tb_t 805 (by decide +kernel)⟩
theorem fl_R6_177 : FLk R6 177 6 7 := ⟨_, rfl, by decide, tb_t 780 (by decide +kernel)⟩
theorem fp_R6_177 : FPk R6 177 6 7 .int := ⟨_, rfl, by decide, tb_t 780 (by decide +kernel), by decide +kernel, by decide +kernel⟩
theorem fl_R6_180 : FLk R6 180 6 8 := ⟨_, rfl, by decide, tb_t 781 (by decide +kernel)⟩
theorem fp_R6_180 : FPk R6 180 6 8 .int := ⟨_, rfl, by decide, tb_t 781 (by decide +kernel), by decide +kernel, by decide +kernel⟩
theorem fl_R6_183 : FLk R6 183 6 9 := ⟨_, rfl, by decide, tb_t 782 (by decide +kernel)⟩
theorem fp_R6_183 : FPk R6 183 6 9 .int := ⟨_, rfl, by decide, tb_t 782 (by decide +kernel), by decide +kernel, by decide +kernel⟩
theorem fl_R6_186 : FLk R6 186 6 12 := ⟨_, rfl, by decide, tb_t 785 (by decide +kernel)⟩
theorem fp_R6_186 : FPk R6 186 6 12 .int := ⟨_, rfl, by decide, tb_t 785 (by decide +kernel), by decide +kernel, by decide +kernel⟩
theorem fl_R6_189 : FLk R6 189 6 10 := ⟨_, rfl, by decide, tb_t 783 (by decide +kernel)⟩
theorem fp_R6_189 : FPk R6 189 6 10 .int := ⟨_, rfl, by decide, tb_t 783 (by decide +kernel), by decide +kernel, by decide +kernel⟩
theorem fl_R6_195 : FLk R6 195 6 11 := ⟨_, rfl, by decide, tb_t 784 (by decide +kernel)⟩
theorem fp_R6_195 : FPk R6 195 6 11 .int := ⟨_, rfl, by decide, tb_t 784 (by decide +kernel), by decide +kernel, by decide +kernel⟩
theorem fl_R6_201 : FLk R6 201 6 13 := ⟨_, rfl, by decide, tb_t 786 (by decide +kernel)⟩
theorem fp_R6_201 : FPk R6 201 6 13 .int := ⟨_, rfl, by decide, tb_t 786 (by decide +kernel), by decide +kernel, by decide +kernel⟩
theorem fl_R6_207 : FLk R6 207 6 20 := ⟨_, rfl, by decide, tb_t 793 (by decide +kernel)⟩
theorem fp_R6_207 : FPk R6 207 6 20 .int := ⟨_, rfl, by decide, tb_t 793 (by decide +kernel), by decide +kernel, by decide +kernel⟩
theorem fl_R6_213 : FLk R6 213 6 17 := ⟨_, rfl, by decide, tb_t 790 (by decide +kernel)⟩
theorem fp_R6_213 : FPk R6 213 6 17 .int := ⟨_, rfl, by decide, tb_t 790 (by decide +kernel), by decide +kernel, by decide +kernel⟩
theorem fl_R6_219 : FLk R6 219 6 18 := ⟨_, rfl, by decide, tb_t 791 (by decide +kernel)⟩
theorem fp_R6_219 : FPk R6 219 6 18 .int := ⟨_, rfl, by decide, tb_t 791 (by decide +kernel), by decide +kernel, by decide +kernel⟩
theorem fl_R6_251 : FLk R6 251 6 33 := ⟨_, rfl, by decide, tb_t 806 (by decide +kernel)⟩
theorem fp_R6_251 : FPk R6 251 6 33 .int := ⟨_, rfl, by decide, tb_t 806 (by decide +kernel), by decide +kernel, by decide +kernel⟩
theorem fl_R6_254 : FLk R6 254 6 3 := ⟨_, rfl, by decide, tb_t 776 (by decide +kernel)⟩
theorem fp_R6_254 : FPk R6 254 6 3 .boolean := ⟨_, rfl, by decide, tb_t 776 (by decide +kernel), by decide +kernel, by decide +kernel⟩
theorem co_R5_77 : Cond.constant R5 77 (-1000000001) ∈ TB := tb_t 250 (by decide +kernel)
theorem co_R5_81 : Cond.constant R5 81 (-1000000003) ∈ TB := tb_t 251 (by decide +kernel)
theorem co_R5_115 : Cond.constant R5 115 (-1000000012) ∈ TB := tb_t 318 (by decide +kernel)
theorem co_R5_131 : Cond.constant R5 131 (99999) ∈ TB := tb_t 342 (by decide +kernel)
theorem co_R5_174 : Cond.constant R5 174 (-1000000005) ∈ TB := tb_t 429 (by decide +kernel)
theorem co_R5_184 : Cond.constant R5 184 (-1000000011) ∈ TB := tb_t 453 (by decide +kernel)
theorem co_R5_219 : Cond.constant R5 219 (-1000000014) ∈ TB := tb_t 693 (by decide +kernel)
theorem co_R5_221 : Cond.constant R5 221 (-1000000013) ∈ TB := tb_t 698 (by decide +kernel)
theorem co_R5_225 : Cond.constant R5 225 (-99999) ∈ TB := tb_t 699 (by decide +kernel)
theorem co_R5_261 : Cond.constant R5 261 (-1000000002) ∈ TB := tb_t 743 (by decide +kernel)
theorem co_R0_15 : Cond.constant R0 15 (-1000000005) ∈ TB := tb_t 84 (by decide +kernel)
theorem co_R0_78 : Cond.constant R0 78 (-1000000003) ∈ TB := tb_t 256 (by decide +kernel)
theorem co_R0_87 : Cond.constant R0 87 (1103515245) ∈ TB := tb_t 360 (by decide +kernel)
theorem co_R0_138 : Cond.constant R0 138 (99999) ∈ TB := tb_t 397 (by decide +kernel)
theorem co_R1_28 : Cond.constant R1 28 (-1000000005) ∈ TB := tb_t 462 (by decide +kernel)
theorem co_R6_87 : Cond.constant R6 87 (-1000000001) ∈ TB := tb_t 888 (by decide +kernel)
theorem co_R6_88 : Cond.constant R6 88 (-1000000003) ∈ TB := tb_t 889 (by decide +kernel)
theorem co_R6_129 : Cond.constant R6 129 (-1000000012) ∈ TB := tb_t 951 (by decide +kernel)
theorem co_R6_133 : Cond.constant R6 133 (99999) ∈ TB := tb_t 976 (by decide +kernel)
theorem co_R6_134 : Cond.constant R6 134 (1103515245) ∈ TB := tb_t 989 (by decide +kernel)
theorem co_R6_168 : Cond.constant R6 168 (-1000000005) ∈ TB := tb_t 1054 (by decide +kernel)
theorem co_R6_172 : Cond.constant R6 172 (-1000000011) ∈ TB := tb_t 1078 (by decide +kernel)
theorem co_R6_244 : Cond.constant R6 244 (-1000000014) ∈ TB := tb_t 1154 (by decide +kernel)
theorem co_R6_245 : Cond.constant R6 245 (-1000000013) ∈ TB := tb_t 1159 (by decide +kernel)
theorem co_R6_246 : Cond.constant R6 246 (-99999) ∈ TB := tb_t 1160 (by decide +kernel)
theorem co_R6_250 : Cond.constant R6 250 (-1000000002) ∈ TB := tb_t 1192 (by decide +kernel)
theorem ms_R5_64 : MS R5 64 ⟨"SandPicture$Kinds", "known", "(I)Z"⟩ prog_2_method_2_code 1 (some .boolean) 1 := ⟨⟨tb_t 241 (by decide +kernel), tb_t 242 (by decide +kernel), tb_t 8 (by decide +kernel), tb_t 243 (by decide +kernel)⟩, ⟨by decide, by decide, by decide +kernel⟩, by decide⟩
theorem ms_R5_70 : MS R5 70 ⟨"SandPicture", "within", "(III)Z"⟩ prog_1_method_45_code 3 (some .boolean) 3 := ⟨⟨tb_t 244 (by decide +kernel), tb_t 245 (by decide +kernel), tb_t 1 (by decide +kernel), tb_t 246 (by decide +kernel)⟩, ⟨by decide, by decide, by decide +kernel⟩, by decide⟩
theorem ms_R5_74 : MS R5 74 ⟨"SandPicture", "isTable", "(I)Z"⟩ prog_1_method_46_code 1 (some .boolean) 1 := ⟨⟨tb_t 247 (by decide +kernel), tb_t 248 (by decide +kernel), tb_t 1 (by decide +kernel), tb_t 249 (by decide +kernel)⟩, ⟨by decide, by decide, by decide +kernel⟩, by decide⟩
theorem mv_R5_82 : MV R5 82 ⟨"SandPicture$Picture", "addMonk", "(III)I"⟩ prog_3_method_3_code 4 (some .int) 3 := ⟨⟨tb_t 252 (by decide +kernel), tb_t 253 (by decide +kernel), tb_t 254 (by decide +kernel), tb_t 4 (by decide +kernel), tb_t 255 (by decide +kernel)⟩, ⟨by decide, by decide, by decide +kernel⟩, by decide⟩
theorem mv_R5_86 : MV R5 86 ⟨"SandPicture", "isMonk", "(I)Z"⟩ prog_1_method_50_code 2 (some .boolean) 1 := ⟨⟨tb_t 261 (by decide +kernel), tb_t 263 (by decide +kernel), tb_s 0 (by decide +kernel), tb_t 1 (by decide +kernel), tb_t 264 (by decide +kernel)⟩, ⟨by decide, by decide, by decide +kernel⟩, by decide⟩
theorem ms_R5_98 : MS R5 98 ⟨"SandPicture$Kinds", "worth", "(II)I"⟩ prog_2_method_8_code 2 (some .int) 2 := ⟨⟨tb_t 265 (by decide +kernel), tb_t 266 (by decide +kernel), tb_t 8 (by decide +kernel), tb_t 267 (by decide +kernel)⟩, ⟨by decide, by decide, by decide +kernel⟩, by decide⟩
theorem mv_R5_102 : MV R5 102 ⟨"SandPicture$Picture", "pours", "(II)I"⟩ prog_3_method_7_code 4 (some .int) 2 := ⟨⟨tb_t 272 (by decide +kernel), tb_t 273 (by decide +kernel), tb_t 274 (by decide +kernel), tb_t 4 (by decide +kernel), tb_t 275 (by decide +kernel)⟩, ⟨by decide, by decide, by decide +kernel⟩, by decide⟩
theorem ms_R5_105 : MS R5 105 ⟨"SandPicture$Kinds", "spills", "(II)I"⟩ prog_2_method_6_code 2 (some .int) 2 := ⟨⟨tb_t 301 (by decide +kernel), tb_t 302 (by decide +kernel), tb_t 8 (by decide +kernel), tb_t 303 (by decide +kernel)⟩, ⟨by decide, by decide, by decide +kernel⟩, by decide⟩
theorem ms_R5_108 : MS R5 108 ⟨"SandPicture$Kinds", "adds", "(II)I"⟩ prog_2_method_7_code 2 (some .int) 2 := ⟨⟨tb_t 304 (by decide +kernel), tb_t 305 (by decide +kernel), tb_t 8 (by decide +kernel), tb_t 306 (by decide +kernel)⟩, ⟨by decide, by decide, by decide +kernel⟩, by decide⟩
theorem ms_R5_111 : MS R5 111 ⟨"SandPicture$Kinds", "isUnder", "(II)Z"⟩ prog_2_method_4_code 2 (some .boolean) 2 := ⟨⟨tb_t 312 (by decide +kernel), tb_t 313 (by decide +kernel), tb_t 8 (by decide +kernel), tb_t 314 (by decide +kernel)⟩, ⟨by decide, by decide, by decide +kernel⟩, by decide⟩
theorem ms_R5_128 : MS R5 128 ⟨"SandPicture", "isRiver", "(I)Z"⟩ prog_1_method_47_code 1 (some .boolean) 1 := ⟨⟨tb_t 339 (by decide +kernel), tb_t 340 (by decide +kernel), tb_t 1 (by decide +kernel), tb_t 341 (by decide +kernel)⟩, ⟨by decide, by decide, by decide +kernel⟩, by decide⟩
theorem mm_R5_138 : Cond.methodLink R5 138 Lib.Math.min.name ∈ TB ∧ Cond.static Lib.Math.min.name ∈ TB ∧ Cond.initialized "java/lang/Math" ∈ TB ∧ Cond.code Lib.Math.min.name Lib.Math.min.code 2 (some .int) ∈ TB := ⟨tb_t 351 (by decide +kernel), tb_t 291 (by decide +kernel), tb_t 9 (by decide +kernel), tb_t 292 (by decide +kernel)⟩
theorem mv_R5_143 : MV R5 143 ⟨"SandPicture$Picture", "drawMonk", "()V"⟩ prog_3_method_4_code 4 none 0 := ⟨⟨tb_t 352 (by decide +kernel), tb_t 353 (by decide +kernel), tb_t 354 (by decide +kernel), tb_t 4 (by decide +kernel), tb_t 355 (by decide +kernel)⟩, ⟨by decide, by decide, by decide +kernel⟩, by decide⟩
theorem mv_R5_152 : MV R5 152 ⟨"SandPicture$Picture", "passHours", "(I)I"⟩ prog_3_method_8_code 4 (some .int) 1 := ⟨⟨tb_t 370 (by decide +kernel), tb_t 371 (by decide +kernel), tb_t 372 (by decide +kernel), tb_t 4 (by decide +kernel), tb_t 373 (by decide +kernel)⟩, ⟨by decide, by decide, by decide +kernel⟩, by decide⟩
theorem ms_R5_159 : MS R5 159 ⟨"SandPicture", "sum", "([I)I"⟩ prog_1_method_51_code 6 (some .int) 1 := ⟨⟨tb_t 402 (by decide +kernel), tb_t 403 (by decide +kernel), tb_t 1 (by decide +kernel), tb_t 404 (by decide +kernel)⟩, ⟨by decide, by decide, by decide +kernel⟩, by decide⟩
theorem mv_R5_166 : MV R5 166 ⟨"SandPicture$Picture", "become", "(LSandPicture$Picture;)V"⟩ prog_3_method_2_code 2 none 1 := ⟨⟨tb_t 413 (by decide +kernel), tb_t 414 (by decide +kernel), tb_t 415 (by decide +kernel), tb_t 4 (by decide +kernel), tb_t 416 (by decide +kernel)⟩, ⟨by decide, by decide, by decide +kernel⟩, by decide⟩
theorem mv_R5_170 : MV R5 170 ⟨"SandPicture$Picture", "passHour", "()I"⟩ prog_3_method_9_code 3 (some .int) 0 := ⟨⟨tb_t 428 (by decide +kernel), tb_t 375 (by decide +kernel), tb_t 376 (by decide +kernel), tb_t 4 (by decide +kernel), tb_t 377 (by decide +kernel)⟩, ⟨by decide, by decide, by decide +kernel⟩, by decide⟩
theorem ms_R5_178 : MS R5 178 ⟨"SandPicture", "isSheet", "(I)Z"⟩ prog_1_method_48_code 1 (some .boolean) 1 := ⟨⟨tb_t 450 (by decide +kernel), tb_t 451 (by decide +kernel), tb_t 1 (by decide +kernel), tb_t 452 (by decide +kernel)⟩, ⟨by decide, by decide, by decide +kernel⟩, by decide⟩
theorem mv_R5_185 : MV R5 185 ⟨"SandPicture$Sheet", "differsFrom", "([I)I"⟩ prog_4_method_6_code 5 (some .int) 1 := ⟨⟨tb_t 454 (by decide +kernel), tb_t 455 (by decide +kernel), tb_t 456 (by decide +kernel), tb_t 5 (by decide +kernel), tb_t 457 (by decide +kernel)⟩, ⟨by decide, by decide, by decide +kernel⟩, by decide⟩
theorem mv_R5_188 : MV R5 188 ⟨"SandPicture$Picture", "lawGives", "(IIIII)I"⟩ prog_3_method_6_code 7 (some .int) 5 := ⟨⟨tb_t 470 (by decide +kernel), tb_t 277 (by decide +kernel), tb_t 278 (by decide +kernel), tb_t 4 (by decide +kernel), tb_t 279 (by decide +kernel)⟩, ⟨by decide, by decide, by decide +kernel⟩, by decide⟩
theorem mv_R5_195 : MV R5 195 ⟨"SandPicture$Tape", "addBytes", "(I)V"⟩ prog_6_method_2_code 3 none 1 := ⟨⟨tb_t 475 (by decide +kernel), tb_t 476 (by decide +kernel), tb_t 477 (by decide +kernel), tb_t 2 (by decide +kernel), tb_t 478 (by decide +kernel)⟩, ⟨by decide, by decide, by decide +kernel⟩, by decide⟩
theorem mv_R5_202 : MV R5 202 ⟨"SandPicture$Tape", "readInto", "(LSandPicture$Text;)I"⟩ prog_6_method_3_code 2 (some .int) 1 := ⟨⟨tb_t 487 (by decide +kernel), tb_t 488 (by decide +kernel), tb_t 489 (by decide +kernel), tb_t 2 (by decide +kernel), tb_t 490 (by decide +kernel)⟩, ⟨by decide, by decide, by decide +kernel⟩, by decide⟩
theorem mv_R5_215 : MV R5 215 ⟨"SandPicture$Sheet", "renew", "(II)V"⟩ prog_4_method_2_code 4 none 2 := ⟨⟨tb_t 689 (by decide +kernel), tb_t 690 (by decide +kernel), tb_t 691 (by decide +kernel), tb_t 5 (by decide +kernel), tb_t 692 (by decide +kernel)⟩, ⟨by decide, by decide, by decide +kernel⟩, by decide⟩
theorem mv_R5_226 : MV R5 226 ⟨"SandPicture$Sheet", "hasNumber", "(I)Z"⟩ prog_4_method_4_code 2 (some .boolean) 1 := ⟨⟨tb_t 704 (by decide +kernel), tb_t 459 (by decide +kernel), tb_t 460 (by decide +kernel), tb_t 5 (by decide +kernel), tb_t 461 (by decide +kernel)⟩, ⟨by decide, by decide, by decide +kernel⟩, by decide⟩
theorem mm_R5_229 : Cond.methodLink R5 229 Lib.Math.max.name ∈ TB ∧ Cond.static Lib.Math.max.name ∈ TB ∧ Cond.initialized "java/lang/Math" ∈ TB ∧ Cond.code Lib.Math.max.name Lib.Math.max.code 2 (some .int) ∈ TB := ⟨tb_t 705 (by decide +kernel), tb_t 294 (by decide +kernel), tb_t 9 (by decide +kernel), tb_t 295 (by decide +kernel)⟩
theorem mv_R5_232 : MV R5 232 ⟨"SandPicture$Sheet", "hasStretch", "(II)Z"⟩ prog_4_method_5_code 3 (some .boolean) 2 := ⟨⟨tb_t 714 (by decide +kernel), tb_t 715 (by decide +kernel), tb_t 716 (by decide +kernel), tb_t 5 (by decide +kernel), tb_t 717 (by decide +kernel)⟩, ⟨by decide, by decide, by decide +kernel⟩, by decide⟩
theorem ac_R5_235 : Cond.methodLink R5 235 arraycopyName ∈ TB ∧ Cond.native arraycopyName ∈ TB ∧ Cond.static arraycopyName ∈ TB ∧ Cond.initialized "java/lang/System" ∈ TB := ⟨tb_t 718 (by decide +kernel), tb_t 419 (by decide +kernel), tb_t 418 (by decide +kernel), tb_t 10 (by decide +kernel)⟩
theorem ms_R5_241 : MS R5 241 ⟨"SandPicture", "isSlot", "(I)Z"⟩ prog_1_method_49_code 1 (some .boolean) 1 := ⟨⟨tb_t 723 (by decide +kernel), tb_t 724 (by decide +kernel), tb_t 1 (by decide +kernel), tb_t 725 (by decide +kernel)⟩, ⟨by decide, by decide, by decide +kernel⟩, by decide⟩
theorem mv_R5_255 : MV R5 255 ⟨"SandPicture$Sheet", "become", "(LSandPicture$Sheet;)V"⟩ prog_4_method_3_code 2 none 1 := ⟨⟨tb_t 726 (by decide +kernel), tb_t 727 (by decide +kernel), tb_t 728 (by decide +kernel), tb_t 5 (by decide +kernel), tb_t 729 (by decide +kernel)⟩, ⟨by decide, by decide, by decide +kernel⟩, by decide⟩
theorem ms_R5_262 : MS R5 262 ⟨"SandPicture", "howManyAboveZero", "([I)I"⟩ prog_1_method_52_code 6 (some .int) 1 := ⟨⟨tb_t 764 (by decide +kernel), tb_t 765 (by decide +kernel), tb_t 1 (by decide +kernel), tb_t 766 (by decide +kernel)⟩, ⟨by decide, by decide, by decide +kernel⟩, by decide⟩
theorem ms_RK_9 : MS RK 9 ⟨"SandPicture$Kinds", "above", "(I)I"⟩ prog_2_method_3_code 1 (some .int) 1 := ⟨⟨tb_t 315 (by decide +kernel), tb_t 316 (by decide +kernel), tb_t 8 (by decide +kernel), tb_t 317 (by decide +kernel)⟩, ⟨by decide, by decide, by decide +kernel⟩, by decide⟩
theorem mm_RK_13 : Cond.methodLink RK 13 Lib.Math.max.name ∈ TB ∧ Cond.static Lib.Math.max.name ∈ TB ∧ Cond.initialized "java/lang/Math" ∈ TB ∧ Cond.code Lib.Math.max.name Lib.Math.max.code 2 (some .int) ∈ TB := ⟨tb_t 299 (by decide +kernel), tb_t 294 (by decide +kernel), tb_t 9 (by decide +kernel), tb_t 295 (by decide +kernel)⟩
theorem mm_RK_19 : Cond.methodLink RK 19 Lib.Math.min.name ∈ TB ∧ Cond.static Lib.Math.min.name ∈ TB ∧ Cond.initialized "java/lang/Math" ∈ TB ∧ Cond.code Lib.Math.min.name Lib.Math.min.code 2 (some .int) ∈ TB := ⟨tb_t 300 (by decide +kernel), tb_t 291 (by decide +kernel), tb_t 9 (by decide +kernel), tb_t 292 (by decide +kernel)⟩
theorem ms_RK_22 : MS RK 22 ⟨"SandPicture$Kinds", "spills", "(II)I"⟩ prog_2_method_6_code 2 (some .int) 2 := ⟨⟨tb_t 307 (by decide +kernel), tb_t 302 (by decide +kernel), tb_t 8 (by decide +kernel), tb_t 303 (by decide +kernel)⟩, ⟨by decide, by decide, by decide +kernel⟩, by decide⟩
theorem ac_R0_72 : Cond.methodLink R0 72 arraycopyName ∈ TB ∧ Cond.native arraycopyName ∈ TB ∧ Cond.static arraycopyName ∈ TB ∧ Cond.initialized "java/lang/System" ∈ TB := ⟨tb_t 417 (by decide +kernel), tb_t 419 (by decide +kernel), tb_t 418 (by decide +kernel), tb_t 10 (by decide +kernel)⟩
theorem mv_R0_79 : MV R0 79 ⟨"SandPicture$Picture", "draw", "()I"⟩ prog_3_method_5_code 1 (some .int) 0 := ⟨⟨tb_t 356 (by decide +kernel), tb_t 358 (by decide +kernel), tb_s 1 (by decide +kernel), tb_t 4 (by decide +kernel), tb_t 359 (by decide +kernel)⟩, ⟨by decide, by decide, by decide +kernel⟩, by decide⟩
theorem mv_R0_83 : MV R0 83 ⟨"SandPicture$Picture", "addMonk", "(III)I"⟩ prog_3_method_3_code 4 (some .int) 3 := ⟨⟨tb_t 361 (by decide +kernel), tb_t 253 (by decide +kernel), tb_t 254 (by decide +kernel), tb_t 4 (by decide +kernel), tb_t 255 (by decide +kernel)⟩, ⟨by decide, by decide, by decide +kernel⟩, by decide⟩
theorem mv_R0_88 : MV R0 88 ⟨"SandPicture$Text", "worksOut", "(III[I)I"⟩ prog_7_method_7_code 8 (some .int) 4 := ⟨⟨tb_t 280 (by decide +kernel), tb_t 281 (by decide +kernel), tb_t 282 (by decide +kernel), tb_t 3 (by decide +kernel), tb_t 283 (by decide +kernel)⟩, ⟨by decide, by decide, by decide +kernel⟩, by decide⟩
theorem mv_R0_94 : MV R0 94 ⟨"SandPicture$Picture", "lawGives", "(IIIII)I"⟩ prog_3_method_6_code 7 (some .int) 5 := ⟨⟨tb_t 276 (by decide +kernel), tb_t 277 (by decide +kernel), tb_t 278 (by decide +kernel), tb_t 4 (by decide +kernel), tb_t 279 (by decide +kernel)⟩, ⟨by decide, by decide, by decide +kernel⟩, by decide⟩
theorem mm_R0_98 : Cond.methodLink R0 98 Lib.Math.min.name ∈ TB ∧ Cond.static Lib.Math.min.name ∈ TB ∧ Cond.initialized "java/lang/Math" ∈ TB ∧ Cond.code Lib.Math.min.name Lib.Math.min.code 2 (some .int) ∈ TB := ⟨tb_t 290 (by decide +kernel), tb_t 291 (by decide +kernel), tb_t 9 (by decide +kernel), tb_t 292 (by decide +kernel)⟩
theorem mm_R0_104 : Cond.methodLink R0 104 Lib.Math.max.name ∈ TB ∧ Cond.static Lib.Math.max.name ∈ TB ∧ Cond.initialized "java/lang/Math" ∈ TB ∧ Cond.code Lib.Math.max.name Lib.Math.max.code 2 (some .int) ∈ TB := ⟨tb_t 293 (by decide +kernel), tb_t 294 (by decide +kernel), tb_t 9 (by decide +kernel), tb_t 295 (by decide +kernel)⟩
theorem ms_R0_107 : MS R0 107 ⟨"SandPicture$Kinds", "poursOf", "(III)I"⟩ prog_2_method_5_code 3 (some .int) 3 := ⟨⟨tb_t 296 (by decide +kernel), tb_t 297 (by decide +kernel), tb_t 8 (by decide +kernel), tb_t 298 (by decide +kernel)⟩, ⟨by decide, by decide, by decide +kernel⟩, by decide⟩
theorem mv_R0_112 : MV R0 112 ⟨"SandPicture$Picture", "passHour", "()I"⟩ prog_3_method_9_code 3 (some .int) 0 := ⟨⟨tb_t 374 (by decide +kernel), tb_t 375 (by decide +kernel), tb_t 376 (by decide +kernel), tb_t 4 (by decide +kernel), tb_t 377 (by decide +kernel)⟩, ⟨by decide, by decide, by decide +kernel⟩, by decide⟩
theorem mv_R0_115 : MV R0 115 ⟨"SandPicture$Picture", "work", "(I)V"⟩ prog_3_method_10_code 7 none 1 := ⟨⟨tb_t 378 (by decide +kernel), tb_t 380 (by decide +kernel), tb_s 2 (by decide +kernel), tb_t 4 (by decide +kernel), tb_t 381 (by decide +kernel)⟩, ⟨by decide, by decide, by decide +kernel⟩, by decide⟩
theorem mv_R0_119 : MV R0 119 ⟨"SandPicture$Picture", "blowFrom", "(I)V"⟩ prog_3_method_11_code 4 none 1 := ⟨⟨tb_t 385 (by decide +kernel), tb_t 387 (by decide +kernel), tb_s 3 (by decide +kernel), tb_t 4 (by decide +kernel), tb_t 388 (by decide +kernel)⟩, ⟨by decide, by decide, by decide +kernel⟩, by decide⟩
theorem mv_R0_122 : MV R0 122 ⟨"SandPicture$Picture", "allAreDone", "()Z"⟩ prog_3_method_12_code 2 (some .boolean) 0 := ⟨⟨tb_t 389 (by decide +kernel), tb_t 391 (by decide +kernel), tb_s 4 (by decide +kernel), tb_t 4 (by decide +kernel), tb_t 392 (by decide +kernel)⟩, ⟨by decide, by decide, by decide +kernel⟩, by decide⟩
theorem mv_R0_126 : MV R0 126 ⟨"SandPicture$Picture", "wipe", "(I)V"⟩ prog_3_method_13_code 5 none 1 := ⟨⟨tb_t 393 (by decide +kernel), tb_t 395 (by decide +kernel), tb_s 5 (by decide +kernel), tb_t 4 (by decide +kernel), tb_t 396 (by decide +kernel)⟩, ⟨by decide, by decide, by decide +kernel⟩, by decide⟩
theorem mv_R0_129 : MV R0 129 ⟨"SandPicture$Picture", "pours", "(II)I"⟩ prog_3_method_7_code 4 (some .int) 2 := ⟨⟨tb_t 382 (by decide +kernel), tb_t 273 (by decide +kernel), tb_t 274 (by decide +kernel), tb_t 4 (by decide +kernel), tb_t 275 (by decide +kernel)⟩, ⟨by decide, by decide, by decide +kernel⟩, by decide⟩
theorem ms_R0_132 : MS R0 132 ⟨"SandPicture$Kinds", "spills", "(II)I"⟩ prog_2_method_6_code 2 (some .int) 2 := ⟨⟨tb_t 383 (by decide +kernel), tb_t 302 (by decide +kernel), tb_t 8 (by decide +kernel), tb_t 303 (by decide +kernel)⟩, ⟨by decide, by decide, by decide +kernel⟩, by decide⟩
theorem ms_R0_135 : MS R0 135 ⟨"SandPicture$Kinds", "adds", "(II)I"⟩ prog_2_method_7_code 2 (some .int) 2 := ⟨⟨tb_t 384 (by decide +kernel), tb_t 305 (by decide +kernel), tb_t 8 (by decide +kernel), tb_t 306 (by decide +kernel)⟩, ⟨by decide, by decide, by decide +kernel⟩, by decide⟩
theorem ac_R1_22 : Cond.methodLink R1 22 arraycopyName ∈ TB ∧ Cond.native arraycopyName ∈ TB ∧ Cond.static arraycopyName ∈ TB ∧ Cond.initialized "java/lang/System" ∈ TB := ⟨tb_t 730 (by decide +kernel), tb_t 419 (by decide +kernel), tb_t 418 (by decide +kernel), tb_t 10 (by decide +kernel)⟩
theorem mv_R1_29 : MV R1 29 ⟨"SandPicture$Sheet", "hasNumber", "(I)Z"⟩ prog_4_method_4_code 2 (some .boolean) 1 := ⟨⟨tb_t 458 (by decide +kernel), tb_t 459 (by decide +kernel), tb_t 460 (by decide +kernel), tb_t 5 (by decide +kernel), tb_t 461 (by decide +kernel)⟩, ⟨by decide, by decide, by decide +kernel⟩, by decide⟩
theorem mm_R1_33 : Cond.methodLink R1 33 Lib.Math.abs.name ∈ TB ∧ Cond.static Lib.Math.abs.name ∈ TB ∧ Cond.initialized "java/lang/Math" ∈ TB ∧ Cond.code Lib.Math.abs.name Lib.Math.abs.code 1 (some .int) ∈ TB := ⟨tb_t 463 (by decide +kernel), tb_t 464 (by decide +kernel), tb_t 9 (by decide +kernel), tb_t 465 (by decide +kernel)⟩
theorem mv_R3_32 : MV R3 32 ⟨"SandPicture$Text", "clear", "()V"⟩ prog_7_method_2_code 1 none 0 := ⟨⟨tb_t 491 (by decide +kernel), tb_t 492 (by decide +kernel), tb_t 493 (by decide +kernel), tb_t 3 (by decide +kernel), tb_t 494 (by decide +kernel)⟩, ⟨by decide, by decide, by decide +kernel⟩, by decide⟩
theorem mv_R3_37 : MV R3 37 ⟨"SandPicture$Tape", "step", "()V"⟩ prog_6_method_8_code 5 none 0 := ⟨⟨tb_t 495 (by decide +kernel), tb_t 497 (by decide +kernel), tb_s 6 (by decide +kernel), tb_t 2 (by decide +kernel), tb_t 498 (by decide +kernel)⟩, ⟨by decide, by decide, by decide +kernel⟩, by decide⟩
theorem mv_R3_40 : MV R3 40 ⟨"SandPicture$Tape", "readKey", "(LSandPicture$Text;)V"⟩ prog_6_method_9_code 3 none 1 := ⟨⟨tb_t 510 (by decide +kernel), tb_t 512 (by decide +kernel), tb_s 8 (by decide +kernel), tb_t 2 (by decide +kernel), tb_t 513 (by decide +kernel)⟩, ⟨by decide, by decide, by decide +kernel⟩, by decide⟩
theorem mv_R3_44 : MV R3 44 ⟨"SandPicture$Tape", "readLevel", "(LSandPicture$Text;III)V"⟩ prog_6_method_13_code 8 none 4 := ⟨⟨tb_t 576 (by decide +kernel), tb_t 578 (by decide +kernel), tb_s 11 (by decide +kernel), tb_t 2 (by decide +kernel), tb_t 579 (by decide +kernel)⟩, ⟨by decide, by decide, by decide +kernel⟩, by decide⟩
theorem mv_R3_48 : MV R3 48 ⟨"SandPicture$Tape", "here", "()I"⟩ prog_6_method_5_code 1 (some .int) 0 := ⟨⟨tb_t 499 (by decide +kernel), tb_t 501 (by decide +kernel), tb_s 7 (by decide +kernel), tb_t 2 (by decide +kernel), tb_t 502 (by decide +kernel)⟩, ⟨by decide, by decide, by decide +kernel⟩, by decide⟩
theorem mv_R3_52 : MV R3 52 ⟨"SandPicture$Tape", "fail", "()V"⟩ prog_6_method_4_code 1 none 0 := ⟨⟨tb_t 572 (by decide +kernel), tb_t 574 (by decide +kernel), tb_s 10 (by decide +kernel), tb_t 2 (by decide +kernel), tb_t 575 (by decide +kernel)⟩, ⟨by decide, by decide, by decide +kernel⟩, by decide⟩
theorem ms_R3_55 : MS R3 55 ⟨"SandPicture$Tape", "isLetter", "(I)Z"⟩ prog_6_method_6_code 1 (some .boolean) 1 := ⟨⟨tb_t 503 (by decide +kernel), tb_t 504 (by decide +kernel), tb_t 2 (by decide +kernel), tb_t 505 (by decide +kernel)⟩, ⟨by decide, by decide, by decide +kernel⟩, by decide⟩
theorem ms_R3_59 : MS R3 59 ⟨"SandPicture$Tape", "isDigit", "(I)Z"⟩ prog_6_method_7_code 1 (some .boolean) 1 := ⟨⟨tb_t 506 (by decide +kernel), tb_t 507 (by decide +kernel), tb_t 2 (by decide +kernel), tb_t 508 (by decide +kernel)⟩, ⟨by decide, by decide, by decide +kernel⟩, by decide⟩
theorem mm_R3_62 : Cond.methodLink R3 62 Lib.Math.min.name ∈ TB ∧ Cond.static Lib.Math.min.name ∈ TB ∧ Cond.initialized "java/lang/Math" ∈ TB ∧ Cond.code Lib.Math.min.name Lib.Math.min.code 2 (some .int) ∈ TB := ⟨tb_t 509 (by decide +kernel), tb_t 291 (by decide +kernel), tb_t 9 (by decide +kernel), tb_t 292 (by decide +kernel)⟩
theorem ms_R3_68 : MS R3 68 ⟨"SandPicture$Tape", "keyWord", "(I)Ljava/lang/String;"⟩ prog_6_method_10_code 1 (some (.object "java/lang/String")) 1 := ⟨⟨tb_t 514 (by decide +kernel), tb_t 515 (by decide +kernel), tb_t 2 (by decide +kernel), tb_t 516 (by decide +kernel)⟩, ⟨by decide, by decide, by decide +kernel⟩, by decide⟩
theorem mv_R3_72 : MV R3 72 ⟨"SandPicture$Tape", "wordIs", "(Ljava/lang/String;)Z"⟩ prog_6_method_12_code 3 (some .boolean) 1 := ⟨⟨tb_t 520 (by decide +kernel), tb_t 522 (by decide +kernel), tb_s 9 (by decide +kernel), tb_t 2 (by decide +kernel), tb_t 523 (by decide +kernel)⟩, ⟨by decide, by decide, by decide +kernel⟩, by decide⟩
theorem mv_R3_100 : MV R3 100 ⟨"SandPicture$Tape", "readPiece", "(LSandPicture$Text;II)V"⟩ prog_6_method_15_code 5 none 3 := ⟨⟨tb_t 580 (by decide +kernel), tb_t 582 (by decide +kernel), tb_s 12 (by decide +kernel), tb_t 2 (by decide +kernel), tb_t 583 (by decide +kernel)⟩, ⟨by decide, by decide, by decide +kernel⟩, by decide⟩
theorem ms_R3_104 : MS R3 104 ⟨"SandPicture$Tape", "joins", "(II)Z"⟩ prog_6_method_14_code 2 (some .boolean) 2 := ⟨⟨tb_t 673 (by decide +kernel), tb_t 674 (by decide +kernel), tb_t 2 (by decide +kernel), tb_t 675 (by decide +kernel)⟩, ⟨by decide, by decide, by decide +kernel⟩, by decide⟩
theorem mv_R3_108 : MV R3 108 ⟨"SandPicture$Text", "addSign", "(I)V"⟩ prog_7_method_5_code 2 none 1 := ⟨⟨tb_t 665 (by decide +kernel), tb_t 666 (by decide +kernel), tb_t 667 (by decide +kernel), tb_t 3 (by decide +kernel), tb_t 668 (by decide +kernel)⟩, ⟨by decide, by decide, by decide +kernel⟩, by decide⟩
theorem mv_R3_112 : MV R3 112 ⟨"SandPicture$Tape", "readName", "(LSandPicture$Text;)V"⟩ prog_6_method_17_code 3 none 1 := ⟨⟨tb_t 584 (by decide +kernel), tb_t 586 (by decide +kernel), tb_s 13 (by decide +kernel), tb_t 2 (by decide +kernel), tb_t 587 (by decide +kernel)⟩, ⟨by decide, by decide, by decide +kernel⟩, by decide⟩
theorem mv_R3_115 : MV R3 115 ⟨"SandPicture$Tape", "readNumber", "(LSandPicture$Text;)V"⟩ prog_6_method_18_code 4 none 1 := ⟨⟨tb_t 657 (by decide +kernel), tb_t 659 (by decide +kernel), tb_s 15 (by decide +kernel), tb_t 2 (by decide +kernel), tb_t 660 (by decide +kernel)⟩, ⟨by decide, by decide, by decide +kernel⟩, by decide⟩
theorem mv_R3_118 : MV R3 118 ⟨"SandPicture$Tape", "readClosing", "()V"⟩ prog_6_method_16_code 1 none 0 := ⟨⟨tb_t 669 (by decide +kernel), tb_t 671 (by decide +kernel), tb_s 16 (by decide +kernel), tb_t 2 (by decide +kernel), tb_t 672 (by decide +kernel)⟩, ⟨by decide, by decide, by decide +kernel⟩, by decide⟩
theorem ms_R3_121 : MS R3 121 ⟨"SandPicture$Tape", "namesOf", "(I)Ljava/lang/String;"⟩ prog_6_method_11_code 1 (some (.object "java/lang/String")) 1 := ⟨⟨tb_t 588 (by decide +kernel), tb_t 589 (by decide +kernel), tb_t 2 (by decide +kernel), tb_t 590 (by decide +kernel)⟩, ⟨by decide, by decide, by decide +kernel⟩, by decide⟩
theorem mv_R3_128 : MV R3 128 ⟨"SandPicture$Text", "addName", "(I)V"⟩ prog_7_method_4_code 2 none 1 := ⟨⟨tb_t 649 (by decide +kernel), tb_t 650 (by decide +kernel), tb_t 651 (by decide +kernel), tb_t 3 (by decide +kernel), tb_t 652 (by decide +kernel)⟩, ⟨by decide, by decide, by decide +kernel⟩, by decide⟩
theorem mv_R3_131 : MV R3 131 ⟨"SandPicture$Text", "addNumber", "(I)V"⟩ prog_7_method_3_code 2 none 1 := ⟨⟨tb_t 661 (by decide +kernel), tb_t 662 (by decide +kernel), tb_t 663 (by decide +kernel), tb_t 3 (by decide +kernel), tb_t 664 (by decide +kernel)⟩, ⟨by decide, by decide, by decide +kernel⟩, by decide⟩
theorem mv_R4_25 : MV R4 25 ⟨"SandPicture$Text", "addCode", "(I)V"⟩ prog_7_method_6_code 2 none 1 := ⟨⟨tb_t 653 (by decide +kernel), tb_t 655 (by decide +kernel), tb_s 14 (by decide +kernel), tb_t 3 (by decide +kernel), tb_t 656 (by decide +kernel)⟩, ⟨by decide, by decide, by decide +kernel⟩, by decide⟩
theorem ms_R4_29 : MS R4 29 ⟨"SandPicture$Text", "leaf", "(IIII)I"⟩ prog_7_method_8_code 4 (some .int) 4 := ⟨⟨tb_t 284 (by decide +kernel), tb_t 285 (by decide +kernel), tb_t 3 (by decide +kernel), tb_t 286 (by decide +kernel)⟩, ⟨by decide, by decide, by decide +kernel⟩, by decide⟩
theorem ms_R4_33 : MS R4 33 ⟨"SandPicture$Text", "joined", "(III)I"⟩ prog_7_method_9_code 3 (some .int) 3 := ⟨⟨tb_t 287 (by decide +kernel), tb_t 288 (by decide +kernel), tb_t 3 (by decide +kernel), tb_t 289 (by decide +kernel)⟩, ⟨by decide, by decide, by decide +kernel⟩, by decide⟩
theorem mv_R_law_13 : MV R_law 13 ⟨"SandPicture", "monk", "(III)I"⟩ prog_1_method_2_code 4 (some .int) 3 := ⟨⟨tb_t 237 (by decide +kernel), tb_t 238 (by decide +kernel), tb_t 239 (by decide +kernel), tb_t 1 (by decide +kernel), tb_t 240 (by decide +kernel)⟩, ⟨by decide, by decide, by decide +kernel⟩, by decide⟩
theorem mv_R_law_17 : MV R_law 17 ⟨"SandPictureModel", "monk", "(III)I"⟩ prog_9_method_11_code 4 (some .int) 3 := ⟨⟨tb_t 878 (by decide +kernel), tb_t 879 (by decide +kernel), tb_t 880 (by decide +kernel), tb_t 7 (by decide +kernel), tb_t 881 (by decide +kernel)⟩, ⟨by decide, by decide, by decide +kernel⟩, by decide⟩
theorem mv_R_law_18 : MV R_law 18 ⟨"SandPicture", "told", "(II)I"⟩ prog_1_method_3_code 3 (some .int) 2 := ⟨⟨tb_t 257 (by decide +kernel), tb_t 258 (by decide +kernel), tb_t 259 (by decide +kernel), tb_t 1 (by decide +kernel), tb_t 260 (by decide +kernel)⟩, ⟨by decide, by decide, by decide +kernel⟩, by decide⟩
theorem mv_R_law_22 : MV R_law 22 ⟨"SandPictureModel", "told", "(II)I"⟩ prog_9_method_13_code 3 (some .int) 2 := ⟨⟨tb_t 894 (by decide +kernel), tb_t 895 (by decide +kernel), tb_t 896 (by decide +kernel), tb_t 7 (by decide +kernel), tb_t 897 (by decide +kernel)⟩, ⟨by decide, by decide, by decide +kernel⟩, by decide⟩
theorem mv_R_law_23 : MV R_law 23 ⟨"SandPicture", "does", "(III)I"⟩ prog_1_method_4_code 4 (some .int) 3 := ⟨⟨tb_t 268 (by decide +kernel), tb_t 269 (by decide +kernel), tb_t 270 (by decide +kernel), tb_t 1 (by decide +kernel), tb_t 271 (by decide +kernel)⟩, ⟨by decide, by decide, by decide +kernel⟩, by decide⟩
theorem mv_R_law_26 : MV R_law 26 ⟨"SandPictureModel", "does", "(III)I"⟩ prog_9_method_17_code 4 (some .int) 3 := ⟨⟨tb_t 910 (by decide +kernel), tb_t 911 (by decide +kernel), tb_t 912 (by decide +kernel), tb_t 7 (by decide +kernel), tb_t 913 (by decide +kernel)⟩, ⟨by decide, by decide, by decide +kernel⟩, by decide⟩
theorem mv_R_law_27 : MV R_law 27 ⟨"SandPicture", "as", "(II)I"⟩ prog_1_method_5_code 3 (some .int) 2 := ⟨⟨tb_t 308 (by decide +kernel), tb_t 309 (by decide +kernel), tb_t 310 (by decide +kernel), tb_t 1 (by decide +kernel), tb_t 311 (by decide +kernel)⟩, ⟨by decide, by decide, by decide +kernel⟩, by decide⟩
theorem mv_R_law_30 : MV R_law 30 ⟨"SandPictureModel", "as", "(II)I"⟩ prog_9_method_19_code 3 (some .int) 2 := ⟨⟨tb_t 944 (by decide +kernel), tb_t 945 (by decide +kernel), tb_t 946 (by decide +kernel), tb_t 7 (by decide +kernel), tb_t 947 (by decide +kernel)⟩, ⟨by decide, by decide, by decide +kernel⟩, by decide⟩
theorem mv_R_law_31 : MV R_law 31 ⟨"SandPicture", "turns", "(II)I"⟩ prog_1_method_6_code 4 (some .int) 2 := ⟨⟨tb_t 319 (by decide +kernel), tb_t 320 (by decide +kernel), tb_t 321 (by decide +kernel), tb_t 1 (by decide +kernel), tb_t 322 (by decide +kernel)⟩, ⟨by decide, by decide, by decide +kernel⟩, by decide⟩
theorem mv_R_law_34 : MV R_law 34 ⟨"SandPictureModel", "turns", "(II)I"⟩ prog_9_method_20_code 3 (some .int) 2 := ⟨⟨tb_t 952 (by decide +kernel), tb_t 953 (by decide +kernel), tb_t 954 (by decide +kernel), tb_t 7 (by decide +kernel), tb_t 955 (by decide +kernel)⟩, ⟨by decide, by decide, by decide +kernel⟩, by decide⟩
theorem mv_R_law_35 : MV R_law 35 ⟨"SandPicture", "set", "(III)I"⟩ prog_1_method_7_code 5 (some .int) 3 := ⟨⟨tb_t 323 (by decide +kernel), tb_t 324 (by decide +kernel), tb_t 325 (by decide +kernel), tb_t 1 (by decide +kernel), tb_t 326 (by decide +kernel)⟩, ⟨by decide, by decide, by decide +kernel⟩, by decide⟩
theorem mv_R_law_38 : MV R_law 38 ⟨"SandPictureModel", "set", "(III)I"⟩ prog_9_method_21_code 4 (some .int) 3 := ⟨⟨tb_t 960 (by decide +kernel), tb_t 961 (by decide +kernel), tb_t 962 (by decide +kernel), tb_t 7 (by decide +kernel), tb_t 963 (by decide +kernel)⟩, ⟨by decide, by decide, by decide +kernel⟩, by decide⟩
theorem mv_R_law_39 : MV R_law 39 ⟨"SandPicture", "table", "(II)I"⟩ prog_1_method_8_code 3 (some .int) 2 := ⟨⟨tb_t 327 (by decide +kernel), tb_t 328 (by decide +kernel), tb_t 329 (by decide +kernel), tb_t 1 (by decide +kernel), tb_t 330 (by decide +kernel)⟩, ⟨by decide, by decide, by decide +kernel⟩, by decide⟩
theorem mv_R_law_42 : MV R_law 42 ⟨"SandPictureModel", "table", "(II)I"⟩ prog_9_method_22_code 3 (some .int) 2 := ⟨⟨tb_t 964 (by decide +kernel), tb_t 965 (by decide +kernel), tb_t 966 (by decide +kernel), tb_t 7 (by decide +kernel), tb_t 967 (by decide +kernel)⟩, ⟨by decide, by decide, by decide +kernel⟩, by decide⟩
theorem mv_R_law_43 : MV R_law 43 ⟨"SandPicture", "need", "(II)I"⟩ prog_1_method_9_code 4 (some .int) 2 := ⟨⟨tb_t 331 (by decide +kernel), tb_t 332 (by decide +kernel), tb_t 333 (by decide +kernel), tb_t 1 (by decide +kernel), tb_t 334 (by decide +kernel)⟩, ⟨by decide, by decide, by decide +kernel⟩, by decide⟩
theorem mv_R_law_46 : MV R_law 46 ⟨"SandPictureModel", "need", "(II)I"⟩ prog_9_method_23_code 3 (some .int) 2 := ⟨⟨tb_t 968 (by decide +kernel), tb_t 969 (by decide +kernel), tb_t 970 (by decide +kernel), tb_t 7 (by decide +kernel), tb_t 971 (by decide +kernel)⟩, ⟨by decide, by decide, by decide +kernel⟩, by decide⟩
theorem mv_R_law_47 : MV R_law 47 ⟨"SandPicture", "river", "(II)I"⟩ prog_1_method_10_code 4 (some .int) 2 := ⟨⟨tb_t 335 (by decide +kernel), tb_t 336 (by decide +kernel), tb_t 337 (by decide +kernel), tb_t 1 (by decide +kernel), tb_t 338 (by decide +kernel)⟩, ⟨by decide, by decide, by decide +kernel⟩, by decide⟩
theorem mv_R_law_50 : MV R_law 50 ⟨"SandPictureModel", "river", "(II)I"⟩ prog_9_method_24_code 3 (some .int) 2 := ⟨⟨tb_t 972 (by decide +kernel), tb_t 973 (by decide +kernel), tb_t 974 (by decide +kernel), tb_t 7 (by decide +kernel), tb_t 975 (by decide +kernel)⟩, ⟨by decide, by decide, by decide +kernel⟩, by decide⟩
theorem mv_R_law_51 : MV R_law 51 ⟨"SandPicture", "wind", "(I)I"⟩ prog_1_method_11_code 3 (some .int) 1 := ⟨⟨tb_t 343 (by decide +kernel), tb_t 344 (by decide +kernel), tb_t 345 (by decide +kernel), tb_t 1 (by decide +kernel), tb_t 346 (by decide +kernel)⟩, ⟨by decide, by decide, by decide +kernel⟩, by decide⟩
theorem mv_R_law_55 : MV R_law 55 ⟨"SandPictureModel", "wind", "(I)I"⟩ prog_9_method_25_code 2 (some .int) 1 := ⟨⟨tb_t 977 (by decide +kernel), tb_t 978 (by decide +kernel), tb_t 979 (by decide +kernel), tb_t 7 (by decide +kernel), tb_t 980 (by decide +kernel)⟩, ⟨by decide, by decide, by decide +kernel⟩, by decide⟩
theorem mv_R_law_56 : MV R_law 56 ⟨"SandPicture", "deal", "(I)I"⟩ prog_1_method_12_code 4 (some .int) 1 := ⟨⟨tb_t 347 (by decide +kernel), tb_t 348 (by decide +kernel), tb_t 349 (by decide +kernel), tb_t 1 (by decide +kernel), tb_t 350 (by decide +kernel)⟩, ⟨by decide, by decide, by decide +kernel⟩, by decide⟩
theorem mv_R_law_59 : MV R_law 59 ⟨"SandPictureModel", "deal", "(I)I"⟩ prog_9_method_27_code 6 (some .int) 1 := ⟨⟨tb_t 981 (by decide +kernel), tb_t 982 (by decide +kernel), tb_t 983 (by decide +kernel), tb_t 7 (by decide +kernel), tb_t 984 (by decide +kernel)⟩, ⟨by decide, by decide, by decide +kernel⟩, by decide⟩
theorem mv_R_law_60 : MV R_law 60 ⟨"SandPicture", "seed", "(I)I"⟩ prog_1_method_13_code 3 (some .int) 1 := ⟨⟨tb_t 362 (by decide +kernel), tb_t 363 (by decide +kernel), tb_t 364 (by decide +kernel), tb_t 1 (by decide +kernel), tb_t 365 (by decide +kernel)⟩, ⟨by decide, by decide, by decide +kernel⟩, by decide⟩
theorem mv_R_law_63 : MV R_law 63 ⟨"SandPictureModel", "seed", "(I)I"⟩ prog_9_method_28_code 2 (some .int) 1 := ⟨⟨tb_t 990 (by decide +kernel), tb_t 991 (by decide +kernel), tb_t 992 (by decide +kernel), tb_t 7 (by decide +kernel), tb_t 993 (by decide +kernel)⟩, ⟨by decide, by decide, by decide +kernel⟩, by decide⟩
theorem mv_R_law_64 : MV R_law 64 ⟨"SandPicture", "hours", "(I)I"⟩ prog_1_method_14_code 2 (some .int) 1 := ⟨⟨tb_t 366 (by decide +kernel), tb_t 367 (by decide +kernel), tb_t 368 (by decide +kernel), tb_t 1 (by decide +kernel), tb_t 369 (by decide +kernel)⟩, ⟨by decide, by decide, by decide +kernel⟩, by decide⟩
theorem mv_R_law_67 : MV R_law 67 ⟨"SandPictureModel", "hours", "(I)I"⟩ prog_9_method_35_code 2 (some .int) 1 := ⟨⟨tb_t 994 (by decide +kernel), tb_t 995 (by decide +kernel), tb_t 996 (by decide +kernel), tb_t 7 (by decide +kernel), tb_t 997 (by decide +kernel)⟩, ⟨by decide, by decide, by decide +kernel⟩, by decide⟩
theorem mv_R_law_68 : MV R_law 68 ⟨"SandPicture", "grains", "(I)I"⟩ prog_1_method_15_code 2 (some .int) 1 := ⟨⟨tb_t 398 (by decide +kernel), tb_t 399 (by decide +kernel), tb_t 400 (by decide +kernel), tb_t 1 (by decide +kernel), tb_t 401 (by decide +kernel)⟩, ⟨by decide, by decide, by decide +kernel⟩, by decide⟩
theorem mv_R_law_71 : MV R_law 71 ⟨"SandPictureModel", "grains", "(I)I"⟩ prog_9_method_37_code 2 (some .int) 1 := ⟨⟨tb_t 1022 (by decide +kernel), tb_t 1023 (by decide +kernel), tb_t 1024 (by decide +kernel), tb_t 7 (by decide +kernel), tb_t 1025 (by decide +kernel)⟩, ⟨by decide, by decide, by decide +kernel⟩, by decide⟩
theorem mv_R_law_72 : MV R_law 72 ⟨"SandPicture", "sneeze", "(I)I"⟩ prog_1_method_16_code 3 (some .int) 1 := ⟨⟨tb_t 405 (by decide +kernel), tb_t 406 (by decide +kernel), tb_t 407 (by decide +kernel), tb_t 1 (by decide +kernel), tb_t 408 (by decide +kernel)⟩, ⟨by decide, by decide, by decide +kernel⟩, by decide⟩
theorem mv_R_law_75 : MV R_law 75 ⟨"SandPictureModel", "sneeze", "(I)I"⟩ prog_9_method_38_code 3 (some .int) 1 := ⟨⟨tb_t 1030 (by decide +kernel), tb_t 1031 (by decide +kernel), tb_t 1032 (by decide +kernel), tb_t 7 (by decide +kernel), tb_t 1033 (by decide +kernel)⟩, ⟨by decide, by decide, by decide +kernel⟩, by decide⟩
theorem mv_R_law_76 : MV R_law 76 ⟨"SandPicture", "behind", "(II)I"⟩ prog_1_method_17_code 3 (some .int) 2 := ⟨⟨tb_t 409 (by decide +kernel), tb_t 410 (by decide +kernel), tb_t 411 (by decide +kernel), tb_t 1 (by decide +kernel), tb_t 412 (by decide +kernel)⟩, ⟨by decide, by decide, by decide +kernel⟩, by decide⟩
theorem mv_R_law_79 : MV R_law 79 ⟨"SandPictureModel", "behind", "(II)I"⟩ prog_9_method_41_code 5 (some .int) 2 := ⟨⟨tb_t 1034 (by decide +kernel), tb_t 1035 (by decide +kernel), tb_t 1036 (by decide +kernel), tb_t 7 (by decide +kernel), tb_t 1037 (by decide +kernel)⟩, ⟨by decide, by decide, by decide +kernel⟩, by decide⟩
theorem mv_R_law_80 : MV R_law 80 ⟨"SandPicture", "lacks", "(I)I"⟩ prog_1_method_18_code 4 (some .int) 1 := ⟨⟨tb_t 420 (by decide +kernel), tb_t 421 (by decide +kernel), tb_t 422 (by decide +kernel), tb_t 1 (by decide +kernel), tb_t 423 (by decide +kernel)⟩, ⟨by decide, by decide, by decide +kernel⟩, by decide⟩
theorem mv_R_law_83 : MV R_law 83 ⟨"SandPictureModel", "lacks", "(I)I"⟩ prog_9_method_42_code 5 (some .int) 1 := ⟨⟨tb_t 1046 (by decide +kernel), tb_t 1047 (by decide +kernel), tb_t 1048 (by decide +kernel), tb_t 7 (by decide +kernel), tb_t 1049 (by decide +kernel)⟩, ⟨by decide, by decide, by decide +kernel⟩, by decide⟩
theorem mv_R_law_84 : MV R_law 84 ⟨"SandPicture", "dry", "(I)I"⟩ prog_1_method_19_code 3 (some .int) 1 := ⟨⟨tb_t 424 (by decide +kernel), tb_t 425 (by decide +kernel), tb_t 426 (by decide +kernel), tb_t 1 (by decide +kernel), tb_t 427 (by decide +kernel)⟩, ⟨by decide, by decide, by decide +kernel⟩, by decide⟩
theorem mv_R_law_87 : MV R_law 87 ⟨"SandPictureModel", "dry", "(I)I"⟩ prog_9_method_43_code 4 (some .int) 1 := ⟨⟨tb_t 1050 (by decide +kernel), tb_t 1051 (by decide +kernel), tb_t 1052 (by decide +kernel), tb_t 7 (by decide +kernel), tb_t 1053 (by decide +kernel)⟩, ⟨by decide, by decide, by decide +kernel⟩, by decide⟩
theorem mv_R_law_88 : MV R_law 88 ⟨"SandPicture", "goes", "(III)I"⟩ prog_1_method_20_code 8 (some .int) 3 := ⟨⟨tb_t 430 (by decide +kernel), tb_t 431 (by decide +kernel), tb_t 432 (by decide +kernel), tb_t 1 (by decide +kernel), tb_t 433 (by decide +kernel)⟩, ⟨by decide, by decide, by decide +kernel⟩, by decide⟩
theorem mv_R_law_91 : MV R_law 91 ⟨"SandPictureModel", "goes", "(III)I"⟩ prog_9_method_44_code 9 (some .int) 3 := ⟨⟨tb_t 1055 (by decide +kernel), tb_t 1056 (by decide +kernel), tb_t 1057 (by decide +kernel), tb_t 7 (by decide +kernel), tb_t 1058 (by decide +kernel)⟩, ⟨by decide, by decide, by decide +kernel⟩, by decide⟩
theorem mv_R_law_92 : MV R_law 92 ⟨"SandPicture", "blamed", "(I)I"⟩ prog_1_method_21_code 6 (some .int) 1 := ⟨⟨tb_t 434 (by decide +kernel), tb_t 435 (by decide +kernel), tb_t 436 (by decide +kernel), tb_t 1 (by decide +kernel), tb_t 437 (by decide +kernel)⟩, ⟨by decide, by decide, by decide +kernel⟩, by decide⟩
theorem mv_R_law_95 : MV R_law 95 ⟨"SandPictureModel", "blamed", "(I)I"⟩ prog_9_method_45_code 7 (some .int) 1 := ⟨⟨tb_t 1059 (by decide +kernel), tb_t 1060 (by decide +kernel), tb_t 1061 (by decide +kernel), tb_t 7 (by decide +kernel), tb_t 1062 (by decide +kernel)⟩, ⟨by decide, by decide, by decide +kernel⟩, by decide⟩
theorem mv_R_law_96 : MV R_law 96 ⟨"SandPicture", "never", "()I"⟩ prog_1_method_22_code 2 (some .int) 0 := ⟨⟨tb_t 438 (by decide +kernel), tb_t 439 (by decide +kernel), tb_t 440 (by decide +kernel), tb_t 1 (by decide +kernel), tb_t 441 (by decide +kernel)⟩, ⟨by decide, by decide, by decide +kernel⟩, by decide⟩
theorem mv_R_law_100 : MV R_law 100 ⟨"SandPictureModel", "never", "()I"⟩ prog_9_method_46_code 3 (some .int) 0 := ⟨⟨tb_t 1063 (by decide +kernel), tb_t 1064 (by decide +kernel), tb_t 1065 (by decide +kernel), tb_t 7 (by decide +kernel), tb_t 1066 (by decide +kernel)⟩, ⟨by decide, by decide, by decide +kernel⟩, by decide⟩
theorem mv_R_law_101 : MV R_law 101 ⟨"SandPicture", "slower", "(II)I"⟩ prog_1_method_23_code 4 (some .int) 2 := ⟨⟨tb_t 442 (by decide +kernel), tb_t 443 (by decide +kernel), tb_t 444 (by decide +kernel), tb_t 1 (by decide +kernel), tb_t 445 (by decide +kernel)⟩, ⟨by decide, by decide, by decide +kernel⟩, by decide⟩
theorem mv_R_law_104 : MV R_law 104 ⟨"SandPictureModel", "slower", "(II)I"⟩ prog_9_method_47_code 6 (some .int) 2 := ⟨⟨tb_t 1067 (by decide +kernel), tb_t 1068 (by decide +kernel), tb_t 1069 (by decide +kernel), tb_t 7 (by decide +kernel), tb_t 1070 (by decide +kernel)⟩, ⟨by decide, by decide, by decide +kernel⟩, by decide⟩
theorem mv_R_law_105 : MV R_law 105 ⟨"SandPicture", "paced", "(III)I"⟩ prog_1_method_24_code 8 (some .int) 3 := ⟨⟨tb_t 446 (by decide +kernel), tb_t 447 (by decide +kernel), tb_t 448 (by decide +kernel), tb_t 1 (by decide +kernel), tb_t 449 (by decide +kernel)⟩, ⟨by decide, by decide, by decide +kernel⟩, by decide⟩
theorem mv_R_law_108 : MV R_law 108 ⟨"SandPictureModel", "paced", "(III)I"⟩ prog_9_method_49_code 10 (some .int) 3 := ⟨⟨tb_t 1071 (by decide +kernel), tb_t 1072 (by decide +kernel), tb_t 1073 (by decide +kernel), tb_t 7 (by decide +kernel), tb_t 1074 (by decide +kernel)⟩, ⟨by decide, by decide, by decide +kernel⟩, by decide⟩
theorem mv_R_law_109 : MV R_law 109 ⟨"SandPicture", "fine", "()I"⟩ prog_1_method_25_code 1 (some .int) 0 := ⟨⟨tb_t 466 (by decide +kernel), tb_t 467 (by decide +kernel), tb_t 468 (by decide +kernel), tb_t 1 (by decide +kernel), tb_t 469 (by decide +kernel)⟩, ⟨by decide, by decide, by decide +kernel⟩, by decide⟩
theorem mv_R_law_112 : MV R_law 112 ⟨"SandPictureModel", "fine", "()I"⟩ prog_9_method_50_code 2 (some .int) 0 := ⟨⟨tb_t 1083 (by decide +kernel), tb_t 1084 (by decide +kernel), tb_t 1085 (by decide +kernel), tb_t 7 (by decide +kernel), tb_t 1086 (by decide +kernel)⟩, ⟨by decide, by decide, by decide +kernel⟩, by decide⟩
theorem mv_R_law_113 : MV R_law 113 ⟨"SandPicture", "feed", "(III)I"⟩ prog_1_method_26_code 4 (some .int) 3 := ⟨⟨tb_t 471 (by decide +kernel), tb_t 472 (by decide +kernel), tb_t 473 (by decide +kernel), tb_t 1 (by decide +kernel), tb_t 474 (by decide +kernel)⟩, ⟨by decide, by decide, by decide +kernel⟩, by decide⟩
theorem mv_R_law_116 : MV R_law 116 ⟨"SandPictureModel", "feed", "(III)I"⟩ prog_9_method_51_code 6 (some .int) 3 := ⟨⟨tb_t 1087 (by decide +kernel), tb_t 1088 (by decide +kernel), tb_t 1089 (by decide +kernel), tb_t 7 (by decide +kernel), tb_t 1090 (by decide +kernel)⟩, ⟨by decide, by decide, by decide +kernel⟩, by decide⟩
theorem mv_R_law_117 : MV R_law 117 ⟨"SandPicture", "trim", "(I)I"⟩ prog_1_method_27_code 2 (some .int) 1 := ⟨⟨tb_t 479 (by decide +kernel), tb_t 480 (by decide +kernel), tb_t 481 (by decide +kernel), tb_t 1 (by decide +kernel), tb_t 482 (by decide +kernel)⟩, ⟨by decide, by decide, by decide +kernel⟩, by decide⟩
theorem mv_R_law_120 : MV R_law 120 ⟨"SandPictureModel", "trim", "(I)I"⟩ prog_9_method_52_code 2 (some .int) 1 := ⟨⟨tb_t 1091 (by decide +kernel), tb_t 1092 (by decide +kernel), tb_t 1093 (by decide +kernel), tb_t 7 (by decide +kernel), tb_t 1094 (by decide +kernel)⟩, ⟨by decide, by decide, by decide +kernel⟩, by decide⟩
theorem mv_R_law_121 : MV R_law 121 ⟨"SandPicture", "text", "()I"⟩ prog_1_method_28_code 3 (some .int) 0 := ⟨⟨tb_t 483 (by decide +kernel), tb_t 484 (by decide +kernel), tb_t 485 (by decide +kernel), tb_t 1 (by decide +kernel), tb_t 486 (by decide +kernel)⟩, ⟨by decide, by decide, by decide +kernel⟩, by decide⟩
theorem mv_R_law_124 : MV R_law 124 ⟨"SandPictureModel", "text", "()I"⟩ prog_9_method_64_code 4 (some .int) 0 := ⟨⟨tb_t 1095 (by decide +kernel), tb_t 1096 (by decide +kernel), tb_t 1097 (by decide +kernel), tb_t 7 (by decide +kernel), tb_t 1098 (by decide +kernel)⟩, ⟨by decide, by decide, by decide +kernel⟩, by decide⟩
theorem mv_R_law_125 : MV R_law 125 ⟨"SandPicture", "textTold", "(II)I"⟩ prog_1_method_29_code 3 (some .int) 2 := ⟨⟨tb_t 677 (by decide +kernel), tb_t 678 (by decide +kernel), tb_t 679 (by decide +kernel), tb_t 1 (by decide +kernel), tb_t 680 (by decide +kernel)⟩, ⟨by decide, by decide, by decide +kernel⟩, by decide⟩
theorem mv_R_law_128 : MV R_law 128 ⟨"SandPictureModel", "textTold", "(II)I"⟩ prog_9_method_65_code 3 (some .int) 2 := ⟨⟨tb_t 1142 (by decide +kernel), tb_t 1143 (by decide +kernel), tb_t 1144 (by decide +kernel), tb_t 7 (by decide +kernel), tb_t 1145 (by decide +kernel)⟩, ⟨by decide, by decide, by decide +kernel⟩, by decide⟩
theorem mv_R_law_129 : MV R_law 129 ⟨"SandPicture", "why", "(I)I"⟩ prog_1_method_30_code 2 (some .int) 1 := ⟨⟨tb_t 681 (by decide +kernel), tb_t 682 (by decide +kernel), tb_t 683 (by decide +kernel), tb_t 1 (by decide +kernel), tb_t 684 (by decide +kernel)⟩, ⟨by decide, by decide, by decide +kernel⟩, by decide⟩
theorem mv_R_law_132 : MV R_law 132 ⟨"SandPictureModel", "why", "(I)I"⟩ prog_9_method_67_code 3 (some .int) 1 := ⟨⟨tb_t 1146 (by decide +kernel), tb_t 1147 (by decide +kernel), tb_t 1148 (by decide +kernel), tb_t 7 (by decide +kernel), tb_t 1149 (by decide +kernel)⟩, ⟨by decide, by decide, by decide +kernel⟩, by decide⟩
theorem mv_R_law_133 : MV R_law 133 ⟨"SandPicture", "sheet", "(III)I"⟩ prog_1_method_31_code 4 (some .int) 3 := ⟨⟨tb_t 685 (by decide +kernel), tb_t 686 (by decide +kernel), tb_t 687 (by decide +kernel), tb_t 1 (by decide +kernel), tb_t 688 (by decide +kernel)⟩, ⟨by decide, by decide, by decide +kernel⟩, by decide⟩
theorem mv_R_law_136 : MV R_law 136 ⟨"SandPictureModel", "sheet", "(III)I"⟩ prog_9_method_72_code 5 (some .int) 3 := ⟨⟨tb_t 1150 (by decide +kernel), tb_t 1151 (by decide +kernel), tb_t 1152 (by decide +kernel), tb_t 7 (by decide +kernel), tb_t 1153 (by decide +kernel)⟩, ⟨by decide, by decide, by decide +kernel⟩, by decide⟩
theorem mv_R_law_137 : MV R_law 137 ⟨"SandPicture", "mark", "(III)I"⟩ prog_1_method_32_code 5 (some .int) 3 := ⟨⟨tb_t 694 (by decide +kernel), tb_t 695 (by decide +kernel), tb_t 696 (by decide +kernel), tb_t 1 (by decide +kernel), tb_t 697 (by decide +kernel)⟩, ⟨by decide, by decide, by decide +kernel⟩, by decide⟩
theorem mv_R_law_140 : MV R_law 140 ⟨"SandPictureModel", "mark", "(III)I"⟩ prog_9_method_73_code 4 (some .int) 3 := ⟨⟨tb_t 1155 (by decide +kernel), tb_t 1156 (by decide +kernel), tb_t 1157 (by decide +kernel), tb_t 7 (by decide +kernel), tb_t 1158 (by decide +kernel)⟩, ⟨by decide, by decide, by decide +kernel⟩, by decide⟩
theorem mv_R_law_141 : MV R_law 141 ⟨"SandPicture", "pour", "(I)I"⟩ prog_1_method_33_code 6 (some .int) 1 := ⟨⟨tb_t 700 (by decide +kernel), tb_t 701 (by decide +kernel), tb_t 702 (by decide +kernel), tb_t 1 (by decide +kernel), tb_t 703 (by decide +kernel)⟩, ⟨by decide, by decide, by decide +kernel⟩, by decide⟩
theorem mv_R_law_144 : MV R_law 144 ⟨"SandPictureModel", "pour", "(I)I"⟩ prog_9_method_74_code 6 (some .int) 1 := ⟨⟨tb_t 1161 (by decide +kernel), tb_t 1162 (by decide +kernel), tb_t 1163 (by decide +kernel), tb_t 7 (by decide +kernel), tb_t 1164 (by decide +kernel)⟩, ⟨by decide, by decide, by decide +kernel⟩, by decide⟩
theorem mv_R_law_145 : MV R_law 145 ⟨"SandPicture", "reads", "(I)I"⟩ prog_1_method_34_code 4 (some .int) 1 := ⟨⟨tb_t 706 (by decide +kernel), tb_t 707 (by decide +kernel), tb_t 708 (by decide +kernel), tb_t 1 (by decide +kernel), tb_t 709 (by decide +kernel)⟩, ⟨by decide, by decide, by decide +kernel⟩, by decide⟩
theorem mv_R_law_148 : MV R_law 148 ⟨"SandPictureModel", "reads", "(I)I"⟩ prog_9_method_75_code 4 (some .int) 1 := ⟨⟨tb_t 1165 (by decide +kernel), tb_t 1166 (by decide +kernel), tb_t 1167 (by decide +kernel), tb_t 7 (by decide +kernel), tb_t 1168 (by decide +kernel)⟩, ⟨by decide, by decide, by decide +kernel⟩, by decide⟩
theorem mv_R_law_149 : MV R_law 149 ⟨"SandPicture", "copy", "(IIIII)I"⟩ prog_1_method_35_code 8 (some .int) 5 := ⟨⟨tb_t 710 (by decide +kernel), tb_t 711 (by decide +kernel), tb_t 712 (by decide +kernel), tb_t 1 (by decide +kernel), tb_t 713 (by decide +kernel)⟩, ⟨by decide, by decide, by decide +kernel⟩, by decide⟩
theorem mv_R_law_153 : MV R_law 153 ⟨"SandPictureModel", "copy", "(IIIII)I"⟩ prog_9_method_76_code 7 (some .int) 5 := ⟨⟨tb_t 1169 (by decide +kernel), tb_t 1170 (by decide +kernel), tb_t 1171 (by decide +kernel), tb_t 7 (by decide +kernel), tb_t 1172 (by decide +kernel)⟩, ⟨by decide, by decide, by decide +kernel⟩, by decide⟩
theorem mv_R_law_154 : MV R_law 154 ⟨"SandPicture", "lay", "(III)I"⟩ prog_1_method_36_code 6 (some .int) 3 := ⟨⟨tb_t 719 (by decide +kernel), tb_t 720 (by decide +kernel), tb_t 721 (by decide +kernel), tb_t 1 (by decide +kernel), tb_t 722 (by decide +kernel)⟩, ⟨by decide, by decide, by decide +kernel⟩, by decide⟩
theorem mv_R_law_157 : MV R_law 157 ⟨"SandPictureModel", "lay", "(III)I"⟩ prog_9_method_77_code 6 (some .int) 3 := ⟨⟨tb_t 1173 (by decide +kernel), tb_t 1174 (by decide +kernel), tb_t 1175 (by decide +kernel), tb_t 7 (by decide +kernel), tb_t 1176 (by decide +kernel)⟩, ⟨by decide, by decide, by decide +kernel⟩, by decide⟩
theorem mv_R_law_158 : MV R_law 158 ⟨"SandPicture", "ask", "(II)I"⟩ prog_1_method_37_code 4 (some .int) 2 := ⟨⟨tb_t 731 (by decide +kernel), tb_t 732 (by decide +kernel), tb_t 733 (by decide +kernel), tb_t 1 (by decide +kernel), tb_t 734 (by decide +kernel)⟩, ⟨by decide, by decide, by decide +kernel⟩, by decide⟩
theorem mv_R_law_161 : MV R_law 161 ⟨"SandPictureModel", "ask", "(II)I"⟩ prog_9_method_78_code 3 (some .int) 2 := ⟨⟨tb_t 1180 (by decide +kernel), tb_t 1181 (by decide +kernel), tb_t 1182 (by decide +kernel), tb_t 7 (by decide +kernel), tb_t 1183 (by decide +kernel)⟩, ⟨by decide, by decide, by decide +kernel⟩, by decide⟩
theorem mv_R_law_162 : MV R_law 162 ⟨"SandPicture", "item", "(II)I"⟩ prog_1_method_38_code 4 (some .int) 2 := ⟨⟨tb_t 735 (by decide +kernel), tb_t 736 (by decide +kernel), tb_t 737 (by decide +kernel), tb_t 1 (by decide +kernel), tb_t 738 (by decide +kernel)⟩, ⟨by decide, by decide, by decide +kernel⟩, by decide⟩
theorem mv_R_law_165 : MV R_law 165 ⟨"SandPictureModel", "item", "(II)I"⟩ prog_9_method_79_code 4 (some .int) 2 := ⟨⟨tb_t 1184 (by decide +kernel), tb_t 1185 (by decide +kernel), tb_t 1186 (by decide +kernel), tb_t 7 (by decide +kernel), tb_t 1187 (by decide +kernel)⟩, ⟨by decide, by decide, by decide +kernel⟩, by decide⟩
theorem mv_R_law_166 : MV R_law 166 ⟨"SandPicture", "rest", "(II)I"⟩ prog_1_method_39_code 3 (some .int) 2 := ⟨⟨tb_t 739 (by decide +kernel), tb_t 740 (by decide +kernel), tb_t 741 (by decide +kernel), tb_t 1 (by decide +kernel), tb_t 742 (by decide +kernel)⟩, ⟨by decide, by decide, by decide +kernel⟩, by decide⟩
theorem mv_R_law_169 : MV R_law 169 ⟨"SandPictureModel", "rest", "(II)I"⟩ prog_9_method_80_code 3 (some .int) 2 := ⟨⟨tb_t 1188 (by decide +kernel), tb_t 1189 (by decide +kernel), tb_t 1190 (by decide +kernel), tb_t 7 (by decide +kernel), tb_t 1191 (by decide +kernel)⟩, ⟨by decide, by decide, by decide +kernel⟩, by decide⟩
theorem mv_R_law_170 : MV R_law 170 ⟨"SandPicture", "tell", "(I)I"⟩ prog_1_method_40_code 2 (some .int) 1 := ⟨⟨tb_t 744 (by decide +kernel), tb_t 745 (by decide +kernel), tb_t 746 (by decide +kernel), tb_t 1 (by decide +kernel), tb_t 747 (by decide +kernel)⟩, ⟨by decide, by decide, by decide +kernel⟩, by decide⟩
theorem mv_R_law_173 : MV R_law 173 ⟨"SandPictureModel", "tell", "(I)I"⟩ prog_9_method_81_code 2 (some .int) 1 := ⟨⟨tb_t 1193 (by decide +kernel), tb_t 1194 (by decide +kernel), tb_t 1195 (by decide +kernel), tb_t 7 (by decide +kernel), tb_t 1196 (by decide +kernel)⟩, ⟨by decide, by decide, by decide +kernel⟩, by decide⟩
theorem mv_R_law_174 : MV R_law 174 ⟨"SandPicture", "check", "(I)I"⟩ prog_1_method_41_code 6 (some .int) 1 := ⟨⟨tb_t 748 (by decide +kernel), tb_t 749 (by decide +kernel), tb_t 750 (by decide +kernel), tb_t 1 (by decide +kernel), tb_t 751 (by decide +kernel)⟩, ⟨by decide, by decide, by decide +kernel⟩, by decide⟩
theorem mv_R_law_177 : MV R_law 177 ⟨"SandPictureModel", "check", "(I)I"⟩ prog_9_method_83_code 7 (some .int) 1 := ⟨⟨tb_t 1197 (by decide +kernel), tb_t 1198 (by decide +kernel), tb_t 1199 (by decide +kernel), tb_t 7 (by decide +kernel), tb_t 1200 (by decide +kernel)⟩, ⟨by decide, by decide, by decide +kernel⟩, by decide⟩
theorem mv_R_law_178 : MV R_law 178 ⟨"SandPicture", "keep", "()I"⟩ prog_1_method_42_code 1 (some .int) 0 := ⟨⟨tb_t 752 (by decide +kernel), tb_t 753 (by decide +kernel), tb_t 754 (by decide +kernel), tb_t 1 (by decide +kernel), tb_t 755 (by decide +kernel)⟩, ⟨by decide, by decide, by decide +kernel⟩, by decide⟩
theorem mv_R_law_181 : MV R_law 181 ⟨"SandPictureModel", "keep", "()I"⟩ prog_9_method_84_code 1 (some .int) 0 := ⟨⟨tb_t 1208 (by decide +kernel), tb_t 1209 (by decide +kernel), tb_t 1210 (by decide +kernel), tb_t 7 (by decide +kernel), tb_t 1211 (by decide +kernel)⟩, ⟨by decide, by decide, by decide +kernel⟩, by decide⟩
theorem mv_R_law_182 : MV R_law 182 ⟨"SandPicture", "back", "()I"⟩ prog_1_method_43_code 1 (some .int) 0 := ⟨⟨tb_t 756 (by decide +kernel), tb_t 757 (by decide +kernel), tb_t 758 (by decide +kernel), tb_t 1 (by decide +kernel), tb_t 759 (by decide +kernel)⟩, ⟨by decide, by decide, by decide +kernel⟩, by decide⟩
theorem mv_R_law_185 : MV R_law 185 ⟨"SandPictureModel", "back", "()I"⟩ prog_9_method_85_code 1 (some .int) 0 := ⟨⟨tb_t 1212 (by decide +kernel), tb_t 1213 (by decide +kernel), tb_t 1214 (by decide +kernel), tb_t 7 (by decide +kernel), tb_t 1215 (by decide +kernel)⟩, ⟨by decide, by decide, by decide +kernel⟩, by decide⟩
theorem mv_R_law_186 : MV R_law 186 ⟨"SandPicture", "count", "(I)I"⟩ prog_1_method_44_code 2 (some .int) 1 := ⟨⟨tb_t 760 (by decide +kernel), tb_t 761 (by decide +kernel), tb_t 762 (by decide +kernel), tb_t 1 (by decide +kernel), tb_t 763 (by decide +kernel)⟩, ⟨by decide, by decide, by decide +kernel⟩, by decide⟩
theorem mv_R_law_189 : MV R_law 189 ⟨"SandPictureModel", "count", "(I)I"⟩ prog_9_method_87_code 2 (some .int) 1 := ⟨⟨tb_t 1216 (by decide +kernel), tb_t 1217 (by decide +kernel), tb_t 1218 (by decide +kernel), tb_t 7 (by decide +kernel), tb_t 1219 (by decide +kernel)⟩, ⟨by decide, by decide, by decide +kernel⟩, by decide⟩
theorem ms_R6_79 : MS R6 79 ⟨"SandPictureModel", "in", "(III)Z"⟩ prog_9_method_2_code 3 (some .boolean) 3 := ⟨⟨tb_t 882 (by decide +kernel), tb_t 883 (by decide +kernel), tb_t 7 (by decide +kernel), tb_t 884 (by decide +kernel)⟩, ⟨by decide, by decide, by decide +kernel⟩, by decide⟩
theorem ms_R6_83 : MS R6 83 ⟨"SandPictureModel", "isTable", "(I)Z"⟩ prog_9_method_6_code 1 (some .boolean) 1 := ⟨⟨tb_t 885 (by decide +kernel), tb_t 886 (by decide +kernel), tb_t 7 (by decide +kernel), tb_t 887 (by decide +kernel)⟩, ⟨by decide, by decide, by decide +kernel⟩, by decide⟩
theorem mv_R6_89 : MV R6 89 ⟨"SandPictureModel", "comes", "(III)I"⟩ prog_9_method_10_code 5 (some .int) 3 := ⟨⟨tb_t 890 (by decide +kernel), tb_t 892 (by decide +kernel), tb_s 17 (by decide +kernel), tb_t 7 (by decide +kernel), tb_t 893 (by decide +kernel)⟩, ⟨by decide, by decide, by decide +kernel⟩, by decide⟩
theorem mv_R6_93 : MV R6 93 ⟨"SandPictureModel", "of", "(II)I"⟩ prog_9_method_7_code 3 (some .int) 2 := ⟨⟨tb_t 902 (by decide +kernel), tb_t 904 (by decide +kernel), tb_s 19 (by decide +kernel), tb_t 7 (by decide +kernel), tb_t 905 (by decide +kernel)⟩, ⟨by decide, by decide, by decide +kernel⟩, by decide⟩
theorem mv_R6_97 : MV R6 97 ⟨"SandPictureModel", "isMonk", "(I)Z"⟩ prog_9_method_5_code 2 (some .boolean) 1 := ⟨⟨tb_t 898 (by decide +kernel), tb_t 900 (by decide +kernel), tb_s 18 (by decide +kernel), tb_t 7 (by decide +kernel), tb_t 901 (by decide +kernel)⟩, ⟨by decide, by decide, by decide +kernel⟩, by decide⟩
theorem mv_R6_100 : MV R6 100 ⟨"SandPictureModel", "worthOf", "(I)I"⟩ prog_9_method_12_code 3 (some .int) 1 := ⟨⟨tb_t 906 (by decide +kernel), tb_t 908 (by decide +kernel), tb_s 20 (by decide +kernel), tb_t 7 (by decide +kernel), tb_t 909 (by decide +kernel)⟩, ⟨by decide, by decide, by decide +kernel⟩, by decide⟩
theorem mv_R6_104 : MV R6 104 ⟨"SandPictureModel", "counts", "(I)I"⟩ prog_9_method_66_code 3 (some .int) 1 := ⟨⟨tb_t 918 (by decide +kernel), tb_t 920 (by decide +kernel), tb_s 22 (by decide +kernel), tb_t 7 (by decide +kernel), tb_t 921 (by decide +kernel)⟩, ⟨by decide, by decide, by decide +kernel⟩, by decide⟩
theorem mv_R6_107 : MV R6 107 ⟨"SandPictureModel", "at0", "(II)I"⟩ prog_9_method_8_code 3 (some .int) 2 := ⟨⟨tb_t 922 (by decide +kernel), tb_t 924 (by decide +kernel), tb_s 23 (by decide +kernel), tb_t 7 (by decide +kernel), tb_t 925 (by decide +kernel)⟩, ⟨by decide, by decide, by decide +kernel⟩, by decide⟩
theorem mv_R6_110 : MV R6 110 ⟨"SandPictureModel", "worksOut", "(I)I"⟩ prog_9_method_69_code 6 (some .int) 1 := ⟨⟨tb_t 926 (by decide +kernel), tb_t 928 (by decide +kernel), tb_s 24 (by decide +kernel), tb_t 7 (by decide +kernel), tb_t 929 (by decide +kernel)⟩, ⟨by decide, by decide, by decide +kernel⟩, by decide⟩
theorem ms_R6_113 : MS R6 113 ⟨"SandPictureModel", "within", "(III)I"⟩ prog_9_method_3_code 3 (some .int) 3 := ⟨⟨tb_t 933 (by decide +kernel), tb_t 934 (by decide +kernel), tb_t 7 (by decide +kernel), tb_t 935 (by decide +kernel)⟩, ⟨by decide, by decide, by decide +kernel⟩, by decide⟩
theorem mv_R6_116 : MV R6 116 ⟨"SandPictureModel", "spills", "(II)I"⟩ prog_9_method_15_code 4 (some .int) 2 := ⟨⟨tb_t 936 (by decide +kernel), tb_t 938 (by decide +kernel), tb_s 25 (by decide +kernel), tb_t 7 (by decide +kernel), tb_t 939 (by decide +kernel)⟩, ⟨by decide, by decide, by decide +kernel⟩, by decide⟩
theorem mv_R6_119 : MV R6 119 ⟨"SandPictureModel", "poursBy", "(II)I"⟩ prog_9_method_14_code 5 (some .int) 2 := ⟨⟨tb_t 914 (by decide +kernel), tb_t 916 (by decide +kernel), tb_s 21 (by decide +kernel), tb_t 7 (by decide +kernel), tb_t 917 (by decide +kernel)⟩, ⟨by decide, by decide, by decide +kernel⟩, by decide⟩
theorem mv_R6_122 : MV R6 122 ⟨"SandPictureModel", "adds", "(II)I"⟩ prog_9_method_16_code 3 (some .int) 2 := ⟨⟨tb_t 940 (by decide +kernel), tb_t 942 (by decide +kernel), tb_s 26 (by decide +kernel), tb_t 7 (by decide +kernel), tb_t 943 (by decide +kernel)⟩, ⟨by decide, by decide, by decide +kernel⟩, by decide⟩
theorem ms_R6_125 : MS R6 125 ⟨"SandPictureModel", "isUnder", "(II)Z"⟩ prog_9_method_18_code 2 (some .boolean) 2 := ⟨⟨tb_t 948 (by decide +kernel), tb_t 949 (by decide +kernel), tb_t 7 (by decide +kernel), tb_t 950 (by decide +kernel)⟩, ⟨by decide, by decide, by decide +kernel⟩, by decide⟩
theorem mv_R6_130 : MV R6 130 ⟨"SandPictureModel", "becomes", "(II)I"⟩ prog_9_method_9_code 4 (some .int) 2 := ⟨⟨tb_t 956 (by decide +kernel), tb_t 958 (by decide +kernel), tb_s 27 (by decide +kernel), tb_t 7 (by decide +kernel), tb_t 959 (by decide +kernel)⟩, ⟨by decide, by decide, by decide +kernel⟩, by decide⟩
theorem mv_R6_135 : MV R6 135 ⟨"SandPictureModel", "draw", "()I"⟩ prog_9_method_26_code 1 (some .int) 0 := ⟨⟨tb_t 985 (by decide +kernel), tb_t 987 (by decide +kernel), tb_s 28 (by decide +kernel), tb_t 7 (by decide +kernel), tb_t 988 (by decide +kernel)⟩, ⟨by decide, by decide, by decide +kernel⟩, by decide⟩
theorem mv_R6_139 : MV R6 139 ⟨"SandPictureModel", "pours", "(II)V"⟩ prog_9_method_29_code 8 none 2 := ⟨⟨tb_t 1006 (by decide +kernel), tb_t 1008 (by decide +kernel), tb_s 31 (by decide +kernel), tb_t 7 (by decide +kernel), tb_t 1009 (by decide +kernel)⟩, ⟨by decide, by decide, by decide +kernel⟩, by decide⟩
theorem mv_R6_143 : MV R6 143 ⟨"SandPictureModel", "blows", "()V"⟩ prog_9_method_30_code 4 none 0 := ⟨⟨tb_t 1010 (by decide +kernel), tb_t 1012 (by decide +kernel), tb_s 32 (by decide +kernel), tb_t 7 (by decide +kernel), tb_t 1013 (by decide +kernel)⟩, ⟨by decide, by decide, by decide +kernel⟩, by decide⟩
theorem mv_R6_146 : MV R6 146 ⟨"SandPictureModel", "isDone", "(I)Z"⟩ prog_9_method_31_code 2 (some .boolean) 1 := ⟨⟨tb_t 1014 (by decide +kernel), tb_t 1016 (by decide +kernel), tb_s 33 (by decide +kernel), tb_t 7 (by decide +kernel), tb_t 1017 (by decide +kernel)⟩, ⟨by decide, by decide, by decide +kernel⟩, by decide⟩
theorem mv_R6_149 : MV R6 149 ⟨"SandPictureModel", "wipes", "(I)V"⟩ prog_9_method_32_code 7 none 1 := ⟨⟨tb_t 1018 (by decide +kernel), tb_t 1020 (by decide +kernel), tb_s 34 (by decide +kernel), tb_t 7 (by decide +kernel), tb_t 1021 (by decide +kernel)⟩, ⟨by decide, by decide, by decide +kernel⟩, by decide⟩
theorem mv_R6_153 : MV R6 153 ⟨"SandPictureModel", "hour", "()I"⟩ prog_9_method_33_code 3 (some .int) 0 := ⟨⟨tb_t 1002 (by decide +kernel), tb_t 1004 (by decide +kernel), tb_s 30 (by decide +kernel), tb_t 7 (by decide +kernel), tb_t 1005 (by decide +kernel)⟩, ⟨by decide, by decide, by decide +kernel⟩, by decide⟩
theorem mv_R6_156 : MV R6 156 ⟨"SandPictureModel", "goesOn", "(I)I"⟩ prog_9_method_34_code 4 (some .int) 1 := ⟨⟨tb_t 998 (by decide +kernel), tb_t 1000 (by decide +kernel), tb_s 29 (by decide +kernel), tb_t 7 (by decide +kernel), tb_t 1001 (by decide +kernel)⟩, ⟨by decide, by decide, by decide +kernel⟩, by decide⟩
theorem mv_R6_159 : MV R6 159 ⟨"SandPictureModel", "sumOf", "(I)I"⟩ prog_9_method_36_code 4 (some .int) 1 := ⟨⟨tb_t 1026 (by decide +kernel), tb_t 1028 (by decide +kernel), tb_s 35 (by decide +kernel), tb_t 7 (by decide +kernel), tb_t 1029 (by decide +kernel)⟩, ⟨by decide, by decide, by decide +kernel⟩, by decide⟩
theorem mv_R6_162 : MV R6 162 ⟨"SandPictureModel", "thinks", "()V"⟩ prog_9_method_39_code 2 none 0 := ⟨⟨tb_t 1038 (by decide +kernel), tb_t 1040 (by decide +kernel), tb_s 36 (by decide +kernel), tb_t 7 (by decide +kernel), tb_t 1041 (by decide +kernel)⟩, ⟨by decide, by decide, by decide +kernel⟩, by decide⟩
theorem mv_R6_165 : MV R6 165 ⟨"SandPictureModel", "putsBack", "()V"⟩ prog_9_method_40_code 2 none 0 := ⟨⟨tb_t 1042 (by decide +kernel), tb_t 1044 (by decide +kernel), tb_s 37 (by decide +kernel), tb_t 7 (by decide +kernel), tb_t 1045 (by decide +kernel)⟩, ⟨by decide, by decide, by decide +kernel⟩, by decide⟩
theorem ms_R6_169 : MS R6 169 ⟨"SandPictureModel", "isSheet", "(I)Z"⟩ prog_9_method_70_code 1 (some .boolean) 1 := ⟨⟨tb_t 1075 (by decide +kernel), tb_t 1076 (by decide +kernel), tb_t 7 (by decide +kernel), tb_t 1077 (by decide +kernel)⟩, ⟨by decide, by decide, by decide +kernel⟩, by decide⟩
theorem mv_R6_173 : MV R6 173 ⟨"SandPictureModel", "offBy", "(III)J"⟩ prog_9_method_48_code 11 (some .long) 3 := ⟨⟨tb_t 1079 (by decide +kernel), tb_t 1081 (by decide +kernel), tb_s 38 (by decide +kernel), tb_t 7 (by decide +kernel), tb_t 1082 (by decide +kernel)⟩, ⟨by decide, by decide, by decide +kernel⟩, by decide⟩
theorem mv_R6_192 : MV R6 192 ⟨"SandPictureModel", "isLetter", "(I)Z"⟩ prog_9_method_53_code 2 (some .boolean) 1 := ⟨⟨tb_t 1103 (by decide +kernel), tb_t 1105 (by decide +kernel), tb_s 40 (by decide +kernel), tb_t 7 (by decide +kernel), tb_t 1106 (by decide +kernel)⟩, ⟨by decide, by decide, by decide +kernel⟩, by decide⟩
theorem mv_R6_198 : MV R6 198 ⟨"SandPictureModel", "isFigure", "(I)Z"⟩ prog_9_method_54_code 2 (some .boolean) 1 := ⟨⟨tb_t 1107 (by decide +kernel), tb_t 1109 (by decide +kernel), tb_s 41 (by decide +kernel), tb_t 7 (by decide +kernel), tb_t 1110 (by decide +kernel)⟩, ⟨by decide, by decide, by decide +kernel⟩, by decide⟩
theorem mv_R6_204 : MV R6 204 ⟨"SandPictureModel", "go", "()V"⟩ prog_9_method_55_code 2 none 0 := ⟨⟨tb_t 1099 (by decide +kernel), tb_t 1101 (by decide +kernel), tb_s 39 (by decide +kernel), tb_t 7 (by decide +kernel), tb_t 1102 (by decide +kernel)⟩, ⟨by decide, by decide, by decide +kernel⟩, by decide⟩
theorem ms_R6_210 : MS R6 210 ⟨"SandPictureModel", "rank", "(I)I"⟩ prog_9_method_58_code 1 (some .int) 1 := ⟨⟨tb_t 1131 (by decide +kernel), tb_t 1132 (by decide +kernel), tb_t 7 (by decide +kernel), tb_t 1133 (by decide +kernel)⟩, ⟨by decide, by decide, by decide +kernel⟩, by decide⟩
theorem mv_R6_216 : MV R6 216 ⟨"SandPictureModel", "nameOf", "(I)I"⟩ prog_9_method_57_code 2 (some .int) 1 := ⟨⟨tb_t 1123 (by decide +kernel), tb_t 1125 (by decide +kernel), tb_s 45 (by decide +kernel), tb_t 7 (by decide +kernel), tb_t 1126 (by decide +kernel)⟩, ⟨by decide, by decide, by decide +kernel⟩, by decide⟩
theorem mv_R6_222 : MV R6 222 ⟨"SandPictureModel", "settle", "(I)V"⟩ prog_9_method_59_code 2 none 1 := ⟨⟨tb_t 1127 (by decide +kernel), tb_t 1129 (by decide +kernel), tb_s 46 (by decide +kernel), tb_t 7 (by decide +kernel), tb_t 1130 (by decide +kernel)⟩, ⟨by decide, by decide, by decide +kernel⟩, by decide⟩
theorem mv_R6_225 : MV R6 225 ⟨"SandPictureModel", "takesPart", "()Z"⟩ prog_9_method_61_code 2 (some .boolean) 0 := ⟨⟨tb_t 1119 (by decide +kernel), tb_t 1121 (by decide +kernel), tb_s 44 (by decide +kernel), tb_t 7 (by decide +kernel), tb_t 1122 (by decide +kernel)⟩, ⟨by decide, by decide, by decide +kernel⟩, by decide⟩
theorem mv_R6_229 : MV R6 229 ⟨"SandPictureModel", "notsOpen", "()I"⟩ prog_9_method_63_code 3 (some .int) 0 := ⟨⟨tb_t 1134 (by decide +kernel), tb_t 1136 (by decide +kernel), tb_s 47 (by decide +kernel), tb_t 7 (by decide +kernel), tb_t 1137 (by decide +kernel)⟩, ⟨by decide, by decide, by decide +kernel⟩, by decide⟩
theorem mv_R6_232 : MV R6 232 ⟨"SandPictureModel", "signHere", "()I"⟩ prog_9_method_60_code 1 (some .int) 0 := ⟨⟨tb_t 1138 (by decide +kernel), tb_t 1140 (by decide +kernel), tb_s 48 (by decide +kernel), tb_t 7 (by decide +kernel), tb_t 1141 (by decide +kernel)⟩, ⟨by decide, by decide, by decide +kernel⟩, by decide⟩
theorem mv_R6_235 : MV R6 235 ⟨"SandPictureModel", "takesKey", "()Z"⟩ prog_9_method_56_code 5 (some .boolean) 0 := ⟨⟨tb_t 1111 (by decide +kernel), tb_t 1113 (by decide +kernel), tb_s 42 (by decide +kernel), tb_t 7 (by decide +kernel), tb_t 1114 (by decide +kernel)⟩, ⟨by decide, by decide, by decide +kernel⟩, by decide⟩
theorem mv_R6_238 : MV R6 238 ⟨"SandPictureModel", "takesE", "()Z"⟩ prog_9_method_62_code 5 (some .boolean) 0 := ⟨⟨tb_t 1115 (by decide +kernel), tb_t 1117 (by decide +kernel), tb_s 43 (by decide +kernel), tb_t 7 (by decide +kernel), tb_t 1118 (by decide +kernel)⟩, ⟨by decide, by decide, by decide +kernel⟩, by decide⟩
theorem ms_R6_241 : MS R6 241 ⟨"SandPictureModel", "two", "(III)I"⟩ prog_9_method_68_code 3 (some .int) 3 := ⟨⟨tb_t 930 (by decide +kernel), tb_t 931 (by decide +kernel), tb_t 7 (by decide +kernel), tb_t 932 (by decide +kernel)⟩, ⟨by decide, by decide, by decide +kernel⟩, by decide⟩
theorem ms_R6_247 : MS R6 247 ⟨"SandPictureModel", "isSlot", "(I)Z"⟩ prog_9_method_71_code 1 (some .boolean) 1 := ⟨⟨tb_t 1177 (by decide +kernel), tb_t 1178 (by decide +kernel), tb_t 7 (by decide +kernel), tb_t 1179 (by decide +kernel)⟩, ⟨by decide, by decide, by decide +kernel⟩, by decide⟩
theorem ms_R6_258 : MS R6 258 ⟨"SandPictureModel", "copyAll", "([I[I)V"⟩ prog_9_method_4_code 3 none 2 := ⟨⟨tb_t 1201 (by decide +kernel), tb_t 1202 (by decide +kernel), tb_t 7 (by decide +kernel), tb_t 1203 (by decide +kernel)⟩, ⟨by decide, by decide, by decide +kernel⟩, by decide⟩
theorem mv_R6_262 : MV R6 262 ⟨"SandPictureModel", "sandAll", "()I"⟩ prog_9_method_82_code 1 (some .int) 0 := ⟨⟨tb_t 1204 (by decide +kernel), tb_t 1206 (by decide +kernel), tb_s 49 (by decide +kernel), tb_t 7 (by decide +kernel), tb_t 1207 (by decide +kernel)⟩, ⟨by decide, by decide, by decide +kernel⟩, by decide⟩
theorem mv_R6_265 : MV R6 265 ⟨"SandPictureModel", "faulty", "()I"⟩ prog_9_method_86_code 3 (some .int) 0 := ⟨⟨tb_t 1220 (by decide +kernel), tb_t 1222 (by decide +kernel), tb_s 50 (by decide +kernel), tb_t 7 (by decide +kernel), tb_t 1223 (by decide +kernel)⟩, ⟨by decide, by decide, by decide +kernel⟩, by decide⟩
theorem isb0 : isb 0 = true := by decide +kernel
theorem isb1 : isb 1 = true := by decide +kernel
theorem isb_ite {c : Prop} [Decidable c] {a b : Int32} (ha : isb a = true) (hb : isb b = true) : isb (if c then a else b) = true := by by_cases h : c <;> simp [h, ha, hb]
theorem isb_eq {a b : Int32} (h : a = b) (hb : isb b = true) : isb a = true := by rw [h]; exact hb
theorem j_dia {P Q : Prop} (k : P → Q) (hj : P) : Q := k hj
section HLP
variable {X : Cx} {E : En} {cc : ByteArray} {nL pc : Nat} {ls : List (Nat × Value)} {st : List Value} {sh : List Sh} {mem m2 : Mm} {a b r t : Int32}
theorem j_jnT {c : Prop} [Decidable c] (hj : J X E nL pc ls (.int (if c then a else b) :: st) sh mem) (hc : c) : J X E nL pc ls (.int a :: st) sh mem := by rw [if_pos hc] at hj; exact hj
theorem j_jnF {c : Prop} [Decidable c] (hj : J X E nL pc ls (.int (if c then a else b) :: st) sh mem) (hc : ¬ c) : J X E nL pc ls (.int b :: st) sh mem := by rw [if_neg hc] at hj; exact hj
theorem rtI (hR : RetI X E cc nL sh r mem) (h : some t = some r) : RetI X E cc nL sh t mem := by cases h; exact hR
theorem rtIZ (hR : isb r = true → RetI X E cc nL sh r mem) (h : some t = some r) (hb : isb t = true) : RetI X E cc nL sh t mem := by cases h; exact hR hb
theorem rtM (hR : RetI X E cc nL sh r m2) (h : some (t, mem) = some (r, m2)) : RetI X E cc nL sh t mem := by cases h; exact hR
theorem rtMZ (hR : isb r = true → RetI X E cc nL sh r m2) (h : some (t, mem) = some (r, m2)) (hb : isb t = true) : RetI X E cc nL sh t mem := by cases h; exact hR hb
theorem rtV (hR : RetV X E cc nL sh m2) (h : some mem = some m2) : RetV X E cc nL sh mem := by cases h; exact hR
theorem rtL {r t : Int64} (hR : RetL X E cc nL sh r m2) (h : some (t, mem) = some (r, m2)) : RetL X E cc nL sh t mem := by cases h; exact hR
end HLP
abbrev ek (E : En) (i : Nat) : Nat := E.2.2.2.1 i
theorem sh_P38 : SH[38]? = some (.inl (0, [some (some 1), some (some 37), none, some (some 39), none, some (some 40), some (some 41), some (some 42), some (some 43), some (some 44), some (some 45), some (some 46), some (some 47), none, none, none, none, none, none])) := rfl
theorem sh_P48 : SH[48]? = some (.inl (0, [some (some 1), some (some 37), none, some (some 49), none, some (some 50), some (some 51), some (some 52), some (some 53), some (some 54), some (some 55), some (some 56), some (some 57), none, none, none, none, none, none])) := rfl
theorem sh_P58 : SH[58]? = some (.inl (0, [some (some 1), some (some 37), none, some (some 59), none, some (some 60), some (some 61), some (some 62), some (some 63), some (some 64), some (some 65), some (some 66), some (some 67), none, none, none, none, none, none])) := rfl
end
section
theorem cb_m10 : (Int8.ofInt (-10)).toInt32 = (-10) := by decide +kernel
theorem cb_m100 : (Int8.ofInt (-100)).toInt32 = (-100) := by decide +kernel
theorem cb_m11 : (Int8.ofInt (-11)).toInt32 = (-11) := by decide +kernel
theorem cb_m2 : (Int8.ofInt (-2)).toInt32 = (-2) := by decide +kernel
theorem cb_m3 : (Int8.ofInt (-3)).toInt32 = (-3) := by decide +kernel
theorem cb_m33 : (Int8.ofInt (-33)).toInt32 = (-33) := by decide +kernel
theorem cb_m4 : (Int8.ofInt (-4)).toInt32 = (-4) := by decide +kernel
theorem cb_m5 : (Int8.ofInt (-5)).toInt32 = (-5) := by decide +kernel
theorem cb_m6 : (Int8.ofInt (-6)).toInt32 = (-6) := by decide +kernel
theorem cb_m7 : (Int8.ofInt (-7)).toInt32 = (-7) := by decide +kernel
theorem cb_m8 : (Int8.ofInt (-8)).toInt32 = (-8) := by decide +kernel
theorem cb_m9 : (Int8.ofInt (-9)).toInt32 = (-9) := by decide +kernel
theorem cb_10 : (Int8.ofInt 10).toInt32 = 10 := by decide +kernel
theorem cb_100 : (Int8.ofInt 100).toInt32 = 100 := by decide +kernel
theorem cb_102 : (Int8.ofInt 102).toInt32 = 102 := by decide +kernel
theorem cb_104 : (Int8.ofInt 104).toInt32 = 104 := by decide +kernel
theorem cb_112 : (Int8.ofInt 112).toInt32 = 112 := by decide +kernel
theorem cb_115 : (Int8.ofInt 115).toInt32 = 115 := by decide +kernel
theorem cb_119 : (Int8.ofInt 119).toInt32 = 119 := by decide +kernel
theorem cb_12 : (Int8.ofInt 12).toInt32 = 12 := by decide +kernel
theorem cb_120 : (Int8.ofInt 120).toInt32 = 120 := by decide +kernel
theorem cb_122 : (Int8.ofInt 122).toInt32 = 122 := by decide +kernel
theorem cb_124 : (Int8.ofInt 124).toInt32 = 124 := by decide +kernel
theorem cb_14 : (Int8.ofInt 14).toInt32 = 14 := by decide +kernel
theorem cb_20 : (Int8.ofInt 20).toInt32 = 20 := by decide +kernel
theorem cb_24 : (Int8.ofInt 24).toInt32 = 24 := by decide +kernel
theorem cb_30 : (Int8.ofInt 30).toInt32 = 30 := by decide +kernel
theorem cb_32 : (Int8.ofInt 32).toInt32 = 32 := by decide +kernel
theorem cb_33 : (Int8.ofInt 33).toInt32 = 33 := by decide +kernel
theorem cb_34 : (Int8.ofInt 34).toInt32 = 34 := by decide +kernel
theorem cb_38 : (Int8.ofInt 38).toInt32 = 38 := by decide +kernel
theorem cb_40 : (Int8.ofInt 40).toInt32 = 40 := by decide +kernel
theorem cb_41 : (Int8.ofInt 41).toInt32 = 41 := by decide +kernel
theorem cb_42 : (Int8.ofInt 42).toInt32 = 42 := by decide +kernel
theorem cb_43 : (Int8.ofInt 43).toInt32 = 43 := by decide +kernel
theorem cb_45 : (Int8.ofInt 45).toInt32 = 45 := by decide +kernel
theorem cb_47 : (Int8.ofInt 47).toInt32 = 47 := by decide +kernel
theorem cb_48 : (Int8.ofInt 48).toInt32 = 48 := by decide +kernel
theorem cb_57 : (Int8.ofInt 57).toInt32 = 57 := by decide +kernel
theorem cb_6 : (Int8.ofInt 6).toInt32 = 6 := by decide +kernel
theorem cb_60 : (Int8.ofInt 60).toInt32 = 60 := by decide +kernel
theorem cb_61 : (Int8.ofInt 61).toInt32 = 61 := by decide +kernel
theorem cb_62 : (Int8.ofInt 62).toInt32 = 62 := by decide +kernel
theorem cb_64 : (Int8.ofInt 64).toInt32 = 64 := by decide +kernel
theorem cb_7 : (Int8.ofInt 7).toInt32 = 7 := by decide +kernel
theorem cb_8 : (Int8.ofInt 8).toInt32 = 8 := by decide +kernel
theorem cb_9 : (Int8.ofInt 9).toInt32 = 9 := by decide +kernel
theorem cb_90 : (Int8.ofInt 90).toInt32 = 90 := by decide +kernel
theorem cb_92 : (Int8.ofInt 92).toInt32 = 92 := by decide +kernel
theorem cb_96 : (Int8.ofInt 96).toInt32 = 96 := by decide +kernel
theorem cb_97 : (Int8.ofInt 97).toInt32 = 97 := by decide +kernel
theorem cb_99 : (Int8.ofInt 99).toInt32 = 99 := by decide +kernel
theorem cp_0_10_10 : cpok 0 10 10 = true := by decide +kernel
theorem cp_0_24_24 : cpok 0 24 24 = true := by decide +kernel
theorem cp_0_3_3 : cpok 0 3 3 = true := by decide +kernel
theorem cp_0_6_6 : cpok 0 6 6 = true := by decide +kernel
theorem ci_m1 : Int32.ofInt (-1) = (-1) := by decide +kernel
theorem ci_m8 : Int32.ofInt (-8) = (-8) := by decide +kernel
theorem ci_0 : Int32.ofInt 0 = 0 := by decide +kernel
theorem ci_1 : Int32.ofInt 1 = 1 := by decide +kernel
theorem ci_2 : Int32.ofInt 2 = 2 := by decide +kernel
theorem ci_3 : Int32.ofInt 3 = 3 := by decide +kernel
theorem ci_4 : Int32.ofInt 4 = 4 := by decide +kernel
theorem ci_5 : Int32.ofInt 5 = 5 := by decide +kernel
theorem inbc_0_10 : inb 0 10 = true := by decide +kernel
theorem inbc_0_1436 : inb 0 1436 = true := by decide +kernel
theorem inbc_0_3 : inb 0 3 = true := by decide +kernel
theorem inbc_0_4 : inb 0 4 = true := by decide +kernel
theorem inbc_0_96 : inb 0 96 = true := by decide +kernel
theorem inbc_1_1436 : inb 1 1436 = true := by decide +kernel
theorem inbc_1_3 : inb 1 3 = true := by decide +kernel
theorem inbc_1_4 : inb 1 4 = true := by decide +kernel
theorem inbc_2_1436 : inb 2 1436 = true := by decide +kernel
theorem inbc_2_3 : inb 2 3 = true := by decide +kernel
theorem inbc_2_4 : inb 2 4 = true := by decide +kernel
theorem inbc_3_1436 : inb 3 1436 = true := by decide +kernel
theorem inbc_4_1436 : inb 4 1436 = true := by decide +kernel
theorem inbc_5_1436 : inb 5 1436 = true := by decide +kernel
theorem inbc_5_64 : inb 5 64 = true := by decide +kernel
theorem inbc_6_1436 : inb 6 1436 = true := by decide +kernel
theorem inbc_7_1436 : inb 7 1436 = true := by decide +kernel
theorem inbc_8_1436 : inb 8 1436 = true := by decide +kernel
theorem inbc_9_1436 : inb 9 1436 = true := by decide +kernel
theorem cl_0 : Int64.ofNat ((0 : Fin 2) : Nat) = 0 := by decide +kernel
theorem cn_15 : Int32.ofNat 15 = 15 := by decide +kernel
theorem cn_24 : Int32.ofNat 24 = 24 := by decide +kernel
theorem cn_6 : Int32.ofNat 6 = 6 := by decide +kernel
theorem cn_96 : Int32.ofNat 96 = 96 := by decide +kernel
theorem nn_10 : (0 : Int32) ≤ 10 := by decide +kernel
theorem nn_24 : (0 : Int32) ≤ 24 := by decide +kernel
theorem nn_3 : (0 : Int32) ≤ 3 := by decide +kernel
theorem nn_6 : (0 : Int32) ≤ 6 := by decide +kernel
theorem nz_10 : ¬ (10 : Int32) = 0 := by decide +kernel
theorem nz_100 : ¬ (100 : Int32) = 0 := by decide +kernel
theorem nz_1000 : ¬ (1000 : Int32) = 0 := by decide +kernel
theorem nz_2 : ¬ (2 : Int32) = 0 := by decide +kernel
theorem nz_20 : ¬ (20 : Int32) = 0 := by decide +kernel
theorem nz_3 : ¬ (3 : Int32) = 0 := by decide +kernel
theorem nz_4 : ¬ (4 : Int32) = 0 := by decide +kernel
theorem nz_6 : ¬ (6 : Int32) = 0 := by decide +kernel
theorem tout_m8_m1 {x : Int32} (h0 : ¬ x = (-8)) (h1 : ¬ x = (-7)) (h2 : ¬ x = (-6)) (h3 : ¬ x = (-5)) (h4 : ¬ x = (-4)) (h5 : ¬ x = (-3)) (h6 : ¬ x = (-2)) (h7 : ¬ x = (-1)) : x.toInt < (-8) ∨ (-1) < x.toInt := by
  have g0 := lv_neT (a := (-8)) h0 (by decide +kernel)
  have g1 := lv_neT (a := (-7)) h1 (by decide +kernel)
  have g2 := lv_neT (a := (-6)) h2 (by decide +kernel)
  have g3 := lv_neT (a := (-5)) h3 (by decide +kernel)
  have g4 := lv_neT (a := (-4)) h4 (by decide +kernel)
  have g5 := lv_neT (a := (-3)) h5 (by decide +kernel)
  have g6 := lv_neT (a := (-2)) h6 (by decide +kernel)
  have g7 := lv_neT (a := (-1)) h7 (by decide +kernel)
  omega
theorem tout_0_2 {x : Int32} (h0 : ¬ x = 0) (h1 : ¬ x = 1) (h2 : ¬ x = 2) : x.toInt < 0 ∨ 2 < x.toInt := by
  have g0 := lv_neT (a := 0) h0 (by decide +kernel)
  have g1 := lv_neT (a := 1) h1 (by decide +kernel)
  have g2 := lv_neT (a := 2) h2 (by decide +kernel)
  omega
theorem tout_0_3 {x : Int32} (h0 : ¬ x = 0) (h1 : ¬ x = 1) (h2 : ¬ x = 2) (h3 : ¬ x = 3) : x.toInt < 0 ∨ 3 < x.toInt := by
  have g0 := lv_neT (a := 0) h0 (by decide +kernel)
  have g1 := lv_neT (a := 1) h1 (by decide +kernel)
  have g2 := lv_neT (a := 2) h2 (by decide +kernel)
  have g3 := lv_neT (a := 3) h3 (by decide +kernel)
  omega
theorem tout_0_7 {x : Int32} (h0 : ¬ x = 0) (h1 : ¬ x = 1) (h2 : ¬ x = 2) (h3 : ¬ x = 3) (h4 : ¬ x = 4) (h5 : ¬ x = 5) (h6 : ¬ x = 6) (h7 : ¬ x = 7) : x.toInt < 0 ∨ 7 < x.toInt := by
  have g0 := lv_neT (a := 0) h0 (by decide +kernel)
  have g1 := lv_neT (a := 1) h1 (by decide +kernel)
  have g2 := lv_neT (a := 2) h2 (by decide +kernel)
  have g3 := lv_neT (a := 3) h3 (by decide +kernel)
  have g4 := lv_neT (a := 4) h4 (by decide +kernel)
  have g5 := lv_neT (a := 5) h5 (by decide +kernel)
  have g6 := lv_neT (a := 6) h6 (by decide +kernel)
  have g7 := lv_neT (a := 7) h7 (by decide +kernel)
  omega
theorem tout_1_5 {x : Int32} (h0 : ¬ x = 1) (h1 : ¬ x = 2) (h2 : ¬ x = 3) (h3 : ¬ x = 4) (h4 : ¬ x = 5) : x.toInt < 1 ∨ 5 < x.toInt := by
  have g0 := lv_neT (a := 1) h0 (by decide +kernel)
  have g1 := lv_neT (a := 2) h1 (by decide +kernel)
  have g2 := lv_neT (a := 3) h2 (by decide +kernel)
  have g3 := lv_neT (a := 4) h3 (by decide +kernel)
  have g4 := lv_neT (a := 5) h4 (by decide +kernel)
  omega
theorem cs_1000 : (Int16.ofInt 1000).toInt32 = 1000 := by decide +kernel
theorem cs_10000 : (Int16.ofInt 10000).toInt32 = 10000 := by decide +kernel
theorem cs_12345 : (Int16.ofInt 12345).toInt32 = 12345 := by decide +kernel
theorem cs_1436 : (Int16.ofInt 1436).toInt32 = 1436 := by decide +kernel
theorem cs_255 : (Int16.ofInt 255).toInt32 = 255 := by decide +kernel
theorem cs_300 : (Int16.ofInt 300).toInt32 = 300 := by decide +kernel
theorem cs_999 : (Int16.ofInt 999).toInt32 = 999 := by decide +kernel
theorem cs_9999 : (Int16.ofInt 9999).toInt32 = 9999 := by decide +kernel
end
section
def y_K_known : MethodName := ⟨"SandPicture$Kinds", "known", "(I)Z"⟩
theorem D_K_known_0 : decode prog_2_method_2_code 0 = .ok (.iload_n 0, 1) ∧ 0 + 1 = 1 := by decide +kernel
theorem D_K_known_13 : decode prog_2_method_2_code 13 = .ok (.iconst 0, 1) ∧ 13 + 1 = 14 := by decide +kernel
theorem D_K_known_4 : decode prog_2_method_2_code 4 = .ok (.iload_n 0, 1) ∧ 4 + 1 = 5 := by decide +kernel
theorem D_K_known_5 : decode prog_2_method_2_code 5 = .ok (.iconst 5, 1) ∧ 5 + 1 = 6 := by decide +kernel
theorem D_K_known_9 : decode prog_2_method_2_code 9 = .ok (.iconst 1, 1) ∧ 9 + 1 = 10 := by decide +kernel
theorem D_K_known_10 : decode prog_2_method_2_code 10 = .ok (.goto 4, 3) ∧ ((10 : Nat) : Int) + 4 = ((14 : Nat) : Int) := by decide +kernel
theorem D_K_known_6 : decode prog_2_method_2_code 6 = .ok (.if_icmp .gt 7, 3) ∧ ((6 : Nat) : Int) + 7 = ((13 : Nat) : Int) ∧ 6 + 3 = 9 := by decide +kernel
theorem D_K_known_1 : decode prog_2_method_2_code 1 = .ok (.ifCond .lt 12, 3) ∧ ((1 : Nat) : Int) + 12 = ((13 : Nat) : Int) ∧ 1 + 3 = 4 := by decide +kernel
theorem D_K_known_14 : decode prog_2_method_2_code 14 = .ok (.ireturn, 1) := by decide +kernel
def f_K_known (a1 : Int32) : Option (Int32) := some (if a1 < 0 then (0 : Int32) else if 5 < a1 then (0 : Int32) else 1)
theorem c_K_known (l : Launch) (E : En) (a1 : Int32) {mem : Mm} {r : Int32} (h : f_K_known a1 = some r) : CtI l E 0 y_K_known prog_2_method_2_code 1 (some .boolean) [.int a1] SH mem r mem := by
  refine mk_CtZ ⟨by decide, (Nat.le_of_ble_eq_true rfl)⟩ (fun X S hl hR => ?_)
  have S : Std X E prog_2_method_2_code RK 1 0 := S
  show J X E 1 0 [(0, .int a1)] [] SH mem
  unfold f_K_known at h
  refine j_iload_n S D_K_known_0 0 rfl rfl ?_
  refine j_dia (P := J X E 1 14 [(0, .int a1)] [.int (if a1 < 0 then (0 : Int32) else if 5 < a1 then (0 : Int32) else 1)] SH mem) (fun hj => ?_) ?_
  · refine j_if_lt S D_K_known_1 (fun c_1 => ?_) (fun c_1 => ?_)
    · refine j_iconst S D_K_known_13 ci_0 ?_
      exact j_jnT hj c_1
    · refine j_iload_n S D_K_known_4 0 rfl rfl ?_
      refine j_iconst S D_K_known_5 ci_5 ?_
      refine j_dia (P := J X E 1 14 [(0, .int a1)] [.int (if 5 < a1 then (0 : Int32) else 1)] SH mem) (fun hj => ?_) ?_
      · refine j_icmp_gt S D_K_known_6 (fun c_6 => ?_) (fun c_6 => ?_)
        · refine j_iconst S D_K_known_13 ci_0 ?_
          exact j_jnT hj c_6
        · refine j_iconst S D_K_known_9 ci_1 ?_
          refine j_goto S D_K_known_10 ?_
          exact j_jnF hj c_6
      exact j_jnF hj c_1
  exact rtIZ hR h (isb_ite isb0 (isb_ite isb0 isb1)) _ _ D_K_known_14

def y_K_above : MethodName := ⟨"SandPicture$Kinds", "above", "(I)I"⟩
theorem D_K_above_0 : decode prog_2_method_3_code 0 = .ok (.iload_n 0, 1) ∧ 0 + 1 = 1 := by decide +kernel
theorem D_K_above_1 : decode prog_2_method_3_code 1 = .ok (.iconst 3, 1) ∧ 1 + 1 = 2 := by decide +kernel
theorem D_K_above_9 : decode prog_2_method_3_code 9 = .ok (.iload_n 0, 1) ∧ 9 + 1 = 10 := by decide +kernel
theorem D_K_above_10 : decode prog_2_method_3_code 10 = .ok (.iconst 4, 1) ∧ 10 + 1 = 11 := by decide +kernel
theorem D_K_above_18 : decode prog_2_method_3_code 18 = .ok (.iconst 0, 1) ∧ 18 + 1 = 19 := by decide +kernel
theorem D_K_above_14 : decode prog_2_method_3_code 14 = .ok (.iconst 2, 1) ∧ 14 + 1 = 15 := by decide +kernel
theorem D_K_above_15 : decode prog_2_method_3_code 15 = .ok (.goto 4, 3) ∧ ((15 : Nat) : Int) + 4 = ((19 : Nat) : Int) := by decide +kernel
theorem D_K_above_11 : decode prog_2_method_3_code 11 = .ok (.if_icmp .ne 7, 3) ∧ ((11 : Nat) : Int) + 7 = ((18 : Nat) : Int) ∧ 11 + 3 = 14 := by decide +kernel
theorem D_K_above_5 : decode prog_2_method_3_code 5 = .ok (.iconst 1, 1) ∧ 5 + 1 = 6 := by decide +kernel
theorem D_K_above_6 : decode prog_2_method_3_code 6 = .ok (.goto 13, 3) ∧ ((6 : Nat) : Int) + 13 = ((19 : Nat) : Int) := by decide +kernel
theorem D_K_above_2 : decode prog_2_method_3_code 2 = .ok (.if_icmp .ne 7, 3) ∧ ((2 : Nat) : Int) + 7 = ((9 : Nat) : Int) ∧ 2 + 3 = 5 := by decide +kernel
theorem D_K_above_19 : decode prog_2_method_3_code 19 = .ok (.ireturn, 1) := by decide +kernel
def f_K_above (a1 : Int32) : Option (Int32) := some (if a1 = 3 then (1 : Int32) else if a1 = 4 then (2 : Int32) else 0)
theorem c_K_above (l : Launch) (E : En) (a1 : Int32) {mem : Mm} {r : Int32} (h : f_K_above a1 = some r) : CtI l E 0 y_K_above prog_2_method_3_code 1 (some .int) [.int a1] SH mem r mem := by
  refine mk_CtI ⟨by decide, (Nat.le_of_ble_eq_true rfl)⟩ (fun X S hl hR => ?_)
  have S : Std X E prog_2_method_3_code RK 1 0 := S
  show J X E 1 0 [(0, .int a1)] [] SH mem
  unfold f_K_above at h
  refine j_iload_n S D_K_above_0 0 rfl rfl ?_
  refine j_iconst S D_K_above_1 ci_3 ?_
  refine j_dia (P := J X E 1 19 [(0, .int a1)] [.int (if a1 = 3 then (1 : Int32) else if a1 = 4 then (2 : Int32) else 0)] SH mem) (fun hj => ?_) ?_
  · refine j_icmp_ne S D_K_above_2 (fun c_2 => ?_) (fun c_2 => ?_)
    · refine j_iload_n S D_K_above_9 0 rfl rfl ?_
      refine j_iconst S D_K_above_10 ci_4 ?_
      refine j_dia (P := J X E 1 19 [(0, .int a1)] [.int (if a1 = 4 then (2 : Int32) else 0)] SH mem) (fun hj => ?_) ?_
      · refine j_icmp_ne S D_K_above_11 (fun c_11 => ?_) (fun c_11 => ?_)
        · refine j_iconst S D_K_above_18 ci_0 ?_
          exact j_jnF hj c_11
        · refine j_iconst S D_K_above_14 ci_2 ?_
          refine j_goto S D_K_above_15 ?_
          exact j_jnT hj c_11
      exact j_jnF hj c_2
    · refine j_iconst S D_K_above_5 ci_1 ?_
      refine j_goto S D_K_above_6 ?_
      exact j_jnT hj c_2
  exact rtI hR h _ _ D_K_above_19

def y_K_isUnder : MethodName := ⟨"SandPicture$Kinds", "isUnder", "(II)Z"⟩
theorem D_K_isUnder_0 : decode prog_2_method_4_code 0 = .ok (.iload_n 1, 1) ∧ 0 + 1 = 1 := by decide +kernel
theorem D_K_isUnder_1 : decode prog_2_method_4_code 1 = .ok (.ifCond .eq 16, 3) ∧ ((1 : Nat) : Int) + 16 = ((17 : Nat) : Int) ∧ 1 + 3 = 4 := by decide +kernel
theorem D_K_isUnder_17 : decode prog_2_method_4_code 17 = .ok (.iconst 1, 1) ∧ 17 + 1 = 18 := by decide +kernel
theorem D_K_isUnder_18 : decode prog_2_method_4_code 18 = .ok (.goto 4, 3) ∧ ((18 : Nat) : Int) + 4 = ((22 : Nat) : Int) := by decide +kernel
theorem D_K_isUnder_22 : decode prog_2_method_4_code 22 = .ok (.ireturn, 1) := by decide +kernel
theorem D_K_isUnder_4 : decode prog_2_method_4_code 4 = .ok (.iload_n 0, 1) ∧ 4 + 1 = 5 := by decide +kernel
theorem D_K_isUnder_5 : decode prog_2_method_4_code 5 = .ok (.iload_n 1, 1) ∧ 5 + 1 = 6 := by decide +kernel
theorem D_K_isUnder_6 : decode prog_2_method_4_code 6 = .ok (.if_icmp .eq 11, 3) ∧ ((6 : Nat) : Int) + 11 = ((17 : Nat) : Int) ∧ 6 + 3 = 9 := by decide +kernel
theorem D_K_isUnder_9 : decode prog_2_method_4_code 9 = .ok (.iload_n 0, 1) ∧ 9 + 1 = 10 := by decide +kernel
theorem D_K_isUnder_10 : decode prog_2_method_4_code 10 = .ok (.invokestatic 9, 3) ∧ 10 + 3 = 13 := by decide +kernel
theorem D_K_isUnder_13 : decode prog_2_method_4_code 13 = .ok (.iload_n 1, 1) ∧ 13 + 1 = 14 := by decide +kernel
theorem D_K_isUnder_21 : decode prog_2_method_4_code 21 = .ok (.iconst 0, 1) ∧ 21 + 1 = 22 := by decide +kernel
theorem D_K_isUnder_14 : decode prog_2_method_4_code 14 = .ok (.if_icmp .ne 7, 3) ∧ ((14 : Nat) : Int) + 7 = ((21 : Nat) : Int) ∧ 14 + 3 = 17 := by decide +kernel
def f_K_isUnder (a1 : Int32) (a2 : Int32) : Option (Int32) := if a2 = 0 then some 1 else if a1 = a2 then some 1 else bp (f_K_above a1) fun r_10 => some (if r_10 = a2 then (1 : Int32) else 0)
theorem c_K_isUnder (l : Launch) (E : En) (a1 : Int32) (a2 : Int32) {mem : Mm} {r : Int32} (h : f_K_isUnder a1 a2 = some r) : CtI l E 1 y_K_isUnder prog_2_method_4_code 2 (some .boolean) [.int a1, .int a2] SH mem r mem := by
  refine mk_CtZ ⟨by decide, (Nat.le_of_ble_eq_true rfl)⟩ (fun X S hl hR => ?_)
  have S : Std X E prog_2_method_4_code RK 2 1 := S
  show J X E 2 0 [(0, .int a1), (1, .int a2)] [] SH mem
  unfold f_K_isUnder at h
  refine j_iload_n S D_K_isUnder_0 1 rfl rfl ?_
  refine j_if_eq S D_K_isUnder_1 (fun c_1 => ?_) (fun c_1 => ?_)
  · have h := ifT c_1 h
    refine j_iconst S D_K_isUnder_17 ci_1 ?_
    refine j_goto S D_K_isUnder_18 ?_
    exact rtIZ hR h isb1 _ _ D_K_isUnder_22
  · have h := ifF c_1 h
    refine j_iload_n S D_K_isUnder_4 0 rfl rfl ?_
    refine j_iload_n S D_K_isUnder_5 1 rfl rfl ?_
    refine j_icmp_eq S D_K_isUnder_6 (fun c_6 => ?_) (fun c_6 => ?_)
    · have h := ifT c_6 h
      refine j_iconst S D_K_isUnder_17 ci_1 ?_
      refine j_goto S D_K_isUnder_18 ?_
      exact rtIZ hR h isb1 _ _ D_K_isUnder_22
    · have h := ifF c_6 h
      refine j_iload_n S D_K_isUnder_9 0 rfl rfl ?_
      obtain ⟨r_10, e_10, h⟩ := bpE h
      refine j_callSI (As := [.int a1]) S D_K_isUnder_10 ms_RK_9 (c_K_above (cxL X) E a1 (mem := mem) e_10) (by decide) rfl rfl (Nat.le_of_ble_eq_true rfl) ?_
      refine j_iload_n S D_K_isUnder_13 1 rfl rfl ?_
      refine j_dia (P := J X E 2 22 [(0, .int a1), (1, .int a2)] [.int (if r_10 = a2 then (1 : Int32) else 0)] SH mem) (fun hj => ?_) ?_
      · refine j_icmp_ne S D_K_isUnder_14 (fun c_14 => ?_) (fun c_14 => ?_)
        · refine j_iconst S D_K_isUnder_21 ci_0 ?_
          exact j_jnF hj c_14
        · refine j_iconst S D_K_isUnder_17 ci_1 ?_
          refine j_goto S D_K_isUnder_18 ?_
          exact j_jnT hj c_14
      exact rtIZ hR h (isb_ite isb1 isb0) _ _ D_K_isUnder_22

def y_K_poursOf : MethodName := ⟨"SandPicture$Kinds", "poursOf", "(III)I"⟩
theorem D_K_poursOf_0 : decode prog_2_method_5_code 0 = .ok (.iload_n 0, 1) ∧ 0 + 1 = 1 := by decide +kernel
theorem D_K_poursOf_1 : decode prog_2_method_5_code 1 = .ok (.tableswitch 68 1 5 #[35, 51, 39, 55, 61], 35) := by decide +kernel
theorem D_K_poursOf_36 : decode prog_2_method_5_code 36 = .ok (.iload_n 1, 1) ∧ 36 + 1 = 37 := by decide +kernel
theorem D_K_poursOf_37 : decode prog_2_method_5_code 37 = .ok (.iconst 2, 1) ∧ 37 + 1 = 38 := by decide +kernel
theorem D_K_poursOf_38 : decode prog_2_method_5_code 38 = .ok (.idiv, 1) ∧ 38 + 1 = 39 := by decide +kernel
theorem D_K_poursOf_39 : decode prog_2_method_5_code 39 = .ok (.ireturn, 1) := by decide +kernel
theorem D_K_poursOf_52 : decode prog_2_method_5_code 52 = .ok (.iload_n 1, 1) ∧ 52 + 1 = 53 := by decide +kernel
theorem D_K_poursOf_53 : decode prog_2_method_5_code 53 = .ok (.iload_n 2, 1) ∧ 53 + 1 = 54 := by decide +kernel
theorem D_K_poursOf_54 : decode prog_2_method_5_code 54 = .ok (.iadd, 1) ∧ 54 + 1 = 55 := by decide +kernel
theorem D_K_poursOf_55 : decode prog_2_method_5_code 55 = .ok (.ireturn, 1) := by decide +kernel
theorem D_K_poursOf_40 : decode prog_2_method_5_code 40 = .ok (.iconst 0, 1) ∧ 40 + 1 = 41 := by decide +kernel
theorem D_K_poursOf_41 : decode prog_2_method_5_code 41 = .ok (.iload_n 1, 1) ∧ 41 + 1 = 42 := by decide +kernel
theorem D_K_poursOf_42 : decode prog_2_method_5_code 42 = .ok (.iconst 2, 1) ∧ 42 + 1 = 43 := by decide +kernel
theorem D_K_poursOf_43 : decode prog_2_method_5_code 43 = .ok (.idiv, 1) ∧ 43 + 1 = 44 := by decide +kernel
theorem D_K_poursOf_44 : decode prog_2_method_5_code 44 = .ok (.iload_n 2, 1) ∧ 44 + 1 = 45 := by decide +kernel
theorem D_K_poursOf_45 : decode prog_2_method_5_code 45 = .ok (.iconst 3, 1) ∧ 45 + 1 = 46 := by decide +kernel
theorem D_K_poursOf_46 : decode prog_2_method_5_code 46 = .ok (.idiv, 1) ∧ 46 + 1 = 47 := by decide +kernel
theorem D_K_poursOf_47 : decode prog_2_method_5_code 47 = .ok (.isub, 1) ∧ 47 + 1 = 48 := by decide +kernel
theorem D_K_poursOf_48 : decode prog_2_method_5_code 48 = .ok (.invokestatic 13, 3) ∧ 48 + 3 = 51 := by decide +kernel
theorem D_K_poursOf_51 : decode prog_2_method_5_code 51 = .ok (.ireturn, 1) := by decide +kernel
theorem D_K_poursOf_56 : decode prog_2_method_5_code 56 = .ok (.iconst 2, 1) ∧ 56 + 1 = 57 := by decide +kernel
theorem D_K_poursOf_57 : decode prog_2_method_5_code 57 = .ok (.iload_n 1, 1) ∧ 57 + 1 = 58 := by decide +kernel
theorem D_K_poursOf_58 : decode prog_2_method_5_code 58 = .ok (.iload_n 2, 1) ∧ 58 + 1 = 59 := by decide +kernel
theorem D_K_poursOf_59 : decode prog_2_method_5_code 59 = .ok (.iadd, 1) ∧ 59 + 1 = 60 := by decide +kernel
theorem D_K_poursOf_60 : decode prog_2_method_5_code 60 = .ok (.imul, 1) ∧ 60 + 1 = 61 := by decide +kernel
theorem D_K_poursOf_61 : decode prog_2_method_5_code 61 = .ok (.ireturn, 1) := by decide +kernel
theorem D_K_poursOf_62 : decode prog_2_method_5_code 62 = .ok (.bipush 9, 2) ∧ 62 + 2 = 64 := by decide +kernel
theorem D_K_poursOf_64 : decode prog_2_method_5_code 64 = .ok (.iload_n 1, 1) ∧ 64 + 1 = 65 := by decide +kernel
theorem D_K_poursOf_65 : decode prog_2_method_5_code 65 = .ok (.invokestatic 19, 3) ∧ 65 + 3 = 68 := by decide +kernel
theorem D_K_poursOf_68 : decode prog_2_method_5_code 68 = .ok (.ireturn, 1) := by decide +kernel
theorem D_K_poursOf_69 : decode prog_2_method_5_code 69 = .ok (.iload_n 1, 1) ∧ 69 + 1 = 70 := by decide +kernel
theorem D_K_poursOf_70 : decode prog_2_method_5_code 70 = .ok (.ireturn, 1) := by decide +kernel
theorem D_K_poursOf_1o : decode prog_2_method_5_code 1 = .ok (.tableswitch 68 1 5 #[35, 51, 39, 55, 61], 35) ∧ ((1 : Nat) : Int) + 68 = ((69 : Nat) : Int) := by decide +kernel
def f_K_poursOf (a1 : Int32) (a2 : Int32) (a3 : Int32) : Option (Int32) := if a1 = 1 then some (a2 / 2) else if a1 = 2 then some (a2 + a3) else if a1 = 3 then some (if 0 < ((a2 / 2) - (a3 / 3)) then (a2 / 2) - (a3 / 3) else 0) else if a1 = 4 then some (2 * (a2 + a3)) else if a1 = 5 then some (if a2 < 9 then a2 else 9) else some a2
theorem c_K_poursOf (l : Launch) (E : En) (a1 : Int32) (a2 : Int32) (a3 : Int32) {mem : Mm} {r : Int32} (h : f_K_poursOf a1 a2 a3 = some r) : CtI l E 1 y_K_poursOf prog_2_method_5_code 3 (some .int) [.int a1, .int a2, .int a3] SH mem r mem := by
  refine mk_CtI ⟨by decide, (Nat.le_of_ble_eq_true rfl)⟩ (fun X S hl hR => ?_)
  have S : Std X E prog_2_method_5_code RK 3 1 := S
  show J X E 3 0 [(0, .int a1), (1, .int a2), (2, .int a3)] [] SH mem
  unfold f_K_poursOf at h
  refine j_iload_n S D_K_poursOf_0 0 rfl rfl ?_
  by_cases c_1_0 : a1 = 1
  · have h := ifT c_1_0 h
    refine j_tabIn (tg := 36) (off := 35) S D_K_poursOf_1 1 c_1_0 (by decide +kernel) ?_
    refine j_iload_n S D_K_poursOf_36 1 rfl rfl ?_
    refine j_iconst S D_K_poursOf_37 ci_2 ?_
    refine j_idiv S D_K_poursOf_38 nz_2 ?_
    exact rtI hR h _ _ D_K_poursOf_39
  · have h := ifF c_1_0 h
    by_cases c_1_1 : a1 = 2
    · have h := ifT c_1_1 h
      refine j_tabIn (tg := 52) (off := 51) S D_K_poursOf_1 2 c_1_1 (by decide +kernel) ?_
      refine j_iload_n S D_K_poursOf_52 1 rfl rfl ?_
      refine j_iload_n S D_K_poursOf_53 2 rfl rfl ?_
      refine j_iadd S D_K_poursOf_54 ?_
      exact rtI hR h _ _ D_K_poursOf_55
    · have h := ifF c_1_1 h
      by_cases c_1_2 : a1 = 3
      · have h := ifT c_1_2 h
        refine j_tabIn (tg := 40) (off := 39) S D_K_poursOf_1 3 c_1_2 (by decide +kernel) ?_
        refine j_iconst S D_K_poursOf_40 ci_0 ?_
        refine j_iload_n S D_K_poursOf_41 1 rfl rfl ?_
        refine j_iconst S D_K_poursOf_42 ci_2 ?_
        refine j_idiv S D_K_poursOf_43 nz_2 ?_
        refine j_iload_n S D_K_poursOf_44 2 rfl rfl ?_
        refine j_iconst S D_K_poursOf_45 ci_3 ?_
        refine j_idiv S D_K_poursOf_46 nz_3 ?_
        refine j_isub S D_K_poursOf_47 ?_
        refine j_mmax S D_K_poursOf_48 (by decide) mm_RK_13 (Nat.le_of_ble_eq_true rfl) ?_
        exact rtI hR h _ _ D_K_poursOf_51
      · have h := ifF c_1_2 h
        by_cases c_1_3 : a1 = 4
        · have h := ifT c_1_3 h
          refine j_tabIn (tg := 56) (off := 55) S D_K_poursOf_1 4 c_1_3 (by decide +kernel) ?_
          refine j_iconst S D_K_poursOf_56 ci_2 ?_
          refine j_iload_n S D_K_poursOf_57 1 rfl rfl ?_
          refine j_iload_n S D_K_poursOf_58 2 rfl rfl ?_
          refine j_iadd S D_K_poursOf_59 ?_
          refine j_imul S D_K_poursOf_60 ?_
          exact rtI hR h _ _ D_K_poursOf_61
        · have h := ifF c_1_3 h
          by_cases c_1_4 : a1 = 5
          · have h := ifT c_1_4 h
            refine j_tabIn (tg := 62) (off := 61) S D_K_poursOf_1 5 c_1_4 (by decide +kernel) ?_
            refine j_bipush S D_K_poursOf_62 cb_9 ?_
            refine j_iload_n S D_K_poursOf_64 1 rfl rfl ?_
            refine j_mmin S D_K_poursOf_65 (by decide) mm_RK_19 (Nat.le_of_ble_eq_true rfl) ?_
            exact rtI hR h _ _ D_K_poursOf_68
          · have h := ifF c_1_4 h
            refine j_tabOut S D_K_poursOf_1o (tout_1_5 c_1_0 c_1_1 c_1_2 c_1_3 c_1_4) ?_
            refine j_iload_n S D_K_poursOf_69 1 rfl rfl ?_
            exact rtI hR h _ _ D_K_poursOf_70

def y_K_spills : MethodName := ⟨"SandPicture$Kinds", "spills", "(II)I"⟩
theorem D_K_spills_0 : decode prog_2_method_6_code 0 = .ok (.iload_n 0, 1) ∧ 0 + 1 = 1 := by decide +kernel
theorem D_K_spills_1 : decode prog_2_method_6_code 1 = .ok (.lookupswitch 47 #[(2, 27), (4, 32)], 27) := by decide +kernel
theorem D_K_spills_28 : decode prog_2_method_6_code 28 = .ok (.iload_n 1, 1) ∧ 28 + 1 = 29 := by decide +kernel
theorem D_K_spills_29 : decode prog_2_method_6_code 29 = .ok (.bipush 10, 2) ∧ 29 + 2 = 31 := by decide +kernel
theorem D_K_spills_31 : decode prog_2_method_6_code 31 = .ok (.idiv, 1) ∧ 31 + 1 = 32 := by decide +kernel
theorem D_K_spills_32 : decode prog_2_method_6_code 32 = .ok (.ireturn, 1) := by decide +kernel
theorem D_K_spills_33 : decode prog_2_method_6_code 33 = .ok (.iload_n 1, 1) ∧ 33 + 1 = 34 := by decide +kernel
theorem D_K_spills_46 : decode prog_2_method_6_code 46 = .ok (.iconst 0, 1) ∧ 46 + 1 = 47 := by decide +kernel
theorem D_K_spills_37 : decode prog_2_method_6_code 37 = .ok (.iload_n 1, 1) ∧ 37 + 1 = 38 := by decide +kernel
theorem D_K_spills_38 : decode prog_2_method_6_code 38 = .ok (.bipush 10, 2) ∧ 38 + 2 = 40 := by decide +kernel
theorem D_K_spills_40 : decode prog_2_method_6_code 40 = .ok (.idiv, 1) ∧ 40 + 1 = 41 := by decide +kernel
theorem D_K_spills_41 : decode prog_2_method_6_code 41 = .ok (.iconst 1, 1) ∧ 41 + 1 = 42 := by decide +kernel
theorem D_K_spills_42 : decode prog_2_method_6_code 42 = .ok (.iadd, 1) ∧ 42 + 1 = 43 := by decide +kernel
theorem D_K_spills_43 : decode prog_2_method_6_code 43 = .ok (.goto 4, 3) ∧ ((43 : Nat) : Int) + 4 = ((47 : Nat) : Int) := by decide +kernel
theorem D_K_spills_34 : decode prog_2_method_6_code 34 = .ok (.ifCond .le 12, 3) ∧ ((34 : Nat) : Int) + 12 = ((46 : Nat) : Int) ∧ 34 + 3 = 37 := by decide +kernel
theorem D_K_spills_47 : decode prog_2_method_6_code 47 = .ok (.ireturn, 1) := by decide +kernel
theorem D_K_spills_48 : decode prog_2_method_6_code 48 = .ok (.iconst 0, 1) ∧ 48 + 1 = 49 := by decide +kernel
theorem D_K_spills_49 : decode prog_2_method_6_code 49 = .ok (.ireturn, 1) := by decide +kernel
def f_K_spills (a1 : Int32) (a2 : Int32) : Option (Int32) := if a1 = 2 then some (a2 / 10) else if a1 = 4 then some (if a2 ≤ 0 then (0 : Int32) else (a2 / 10) + 1) else some 0
theorem c_K_spills (l : Launch) (E : En) (a1 : Int32) (a2 : Int32) {mem : Mm} {r : Int32} (h : f_K_spills a1 a2 = some r) : CtI l E 0 y_K_spills prog_2_method_6_code 2 (some .int) [.int a1, .int a2] SH mem r mem := by
  refine mk_CtI ⟨by decide, (Nat.le_of_ble_eq_true rfl)⟩ (fun X S hl hR => ?_)
  have S : Std X E prog_2_method_6_code RK 2 0 := S
  show J X E 2 0 [(0, .int a1), (1, .int a2)] [] SH mem
  unfold f_K_spills at h
  refine j_iload_n S D_K_spills_0 0 rfl rfl ?_
  by_cases c_1_0 : a1 = 2
  · have h := ifT c_1_0 h
    refine j_lookE (tg := 28) (off := 27) S D_K_spills_1 2 c_1_0 (by decide +kernel) ?_
    refine j_iload_n S D_K_spills_28 1 rfl rfl ?_
    refine j_bipush S D_K_spills_29 cb_10 ?_
    refine j_idiv S D_K_spills_31 nz_10 ?_
    exact rtI hR h _ _ D_K_spills_32
  · have h := ifF c_1_0 h
    by_cases c_1_1 : a1 = 4
    · have h := ifT c_1_1 h
      refine j_lookE (tg := 33) (off := 32) S D_K_spills_1 4 c_1_1 (by decide +kernel) ?_
      refine j_iload_n S D_K_spills_33 1 rfl rfl ?_
      refine j_dia (P := J X E 2 47 [(0, .int a1), (1, .int a2)] [.int (if a2 ≤ 0 then (0 : Int32) else (a2 / 10) + 1)] SH mem) (fun hj => ?_) ?_
      · refine j_if_le S D_K_spills_34 (fun c_34 => ?_) (fun c_34 => ?_)
        · refine j_iconst S D_K_spills_46 ci_0 ?_
          exact j_jnT hj c_34
        · refine j_iload_n S D_K_spills_37 1 rfl rfl ?_
          refine j_bipush S D_K_spills_38 cb_10 ?_
          refine j_idiv S D_K_spills_40 nz_10 ?_
          refine j_iconst S D_K_spills_41 ci_1 ?_
          refine j_iadd S D_K_spills_42 ?_
          refine j_goto S D_K_spills_43 ?_
          exact j_jnF hj c_34
      exact rtI hR h _ _ D_K_spills_47
    · have h := ifF c_1_1 h
      refine j_look (tg := 48) S D_K_spills_1 (by decide +kernel) (by show Op.lookupswitch.offset [(2, 27), (4, 32)] 47 (a1 : Int32).toInt = 47; rw [lv_osw c_1_0 (by decide +kernel), lv_osw c_1_1 (by decide +kernel)]; rfl) rfl ?_
      refine j_iconst S D_K_spills_48 ci_0 ?_
      exact rtI hR h _ _ D_K_spills_49

def y_K_adds : MethodName := ⟨"SandPicture$Kinds", "adds", "(II)I"⟩
theorem D_K_adds_0 : decode prog_2_method_7_code 0 = .ok (.iload_n 0, 1) ∧ 0 + 1 = 1 := by decide +kernel
theorem D_K_adds_1 : decode prog_2_method_7_code 1 = .ok (.iconst 5, 1) ∧ 1 + 1 = 2 := by decide +kernel
theorem D_K_adds_2 : decode prog_2_method_7_code 2 = .ok (.if_icmp .ne 5, 3) ∧ ((2 : Nat) : Int) + 5 = ((7 : Nat) : Int) ∧ 2 + 3 = 5 := by decide +kernel
theorem D_K_adds_7 : decode prog_2_method_7_code 7 = .ok (.iload_n 0, 1) ∧ 7 + 1 = 8 := by decide +kernel
theorem D_K_adds_8 : decode prog_2_method_7_code 8 = .ok (.iload_n 1, 1) ∧ 8 + 1 = 9 := by decide +kernel
theorem D_K_adds_9 : decode prog_2_method_7_code 9 = .ok (.invokestatic 22, 3) ∧ 9 + 3 = 12 := by decide +kernel
theorem D_K_adds_19 : decode prog_2_method_7_code 19 = .ok (.iconst 0, 1) ∧ 19 + 1 = 20 := by decide +kernel
theorem D_K_adds_15 : decode prog_2_method_7_code 15 = .ok (.iconst 1, 1) ∧ 15 + 1 = 16 := by decide +kernel
theorem D_K_adds_16 : decode prog_2_method_7_code 16 = .ok (.goto 4, 3) ∧ ((16 : Nat) : Int) + 4 = ((20 : Nat) : Int) := by decide +kernel
theorem D_K_adds_12 : decode prog_2_method_7_code 12 = .ok (.ifCond .le 7, 3) ∧ ((12 : Nat) : Int) + 7 = ((19 : Nat) : Int) ∧ 12 + 3 = 15 := by decide +kernel
theorem D_K_adds_20 : decode prog_2_method_7_code 20 = .ok (.ireturn, 1) := by decide +kernel
theorem D_K_adds_5 : decode prog_2_method_7_code 5 = .ok (.iconst 1, 1) ∧ 5 + 1 = 6 := by decide +kernel
theorem D_K_adds_6 : decode prog_2_method_7_code 6 = .ok (.ireturn, 1) := by decide +kernel
def f_K_adds (a1 : Int32) (a2 : Int32) : Option (Int32) := if a1 = 5 then some 1 else bp (f_K_spills a1 a2) fun r_9 => some (if r_9 ≤ 0 then (0 : Int32) else 1)
theorem c_K_adds (l : Launch) (E : En) (a1 : Int32) (a2 : Int32) {mem : Mm} {r : Int32} (h : f_K_adds a1 a2 = some r) : CtI l E 1 y_K_adds prog_2_method_7_code 2 (some .int) [.int a1, .int a2] SH mem r mem := by
  refine mk_CtI ⟨by decide, (Nat.le_of_ble_eq_true rfl)⟩ (fun X S hl hR => ?_)
  have S : Std X E prog_2_method_7_code RK 2 1 := S
  show J X E 2 0 [(0, .int a1), (1, .int a2)] [] SH mem
  unfold f_K_adds at h
  refine j_iload_n S D_K_adds_0 0 rfl rfl ?_
  refine j_iconst S D_K_adds_1 ci_5 ?_
  refine j_icmp_ne S D_K_adds_2 (fun c_2 => ?_) (fun c_2 => ?_)
  · have h := ifF c_2 h
    refine j_iload_n S D_K_adds_7 0 rfl rfl ?_
    refine j_iload_n S D_K_adds_8 1 rfl rfl ?_
    obtain ⟨r_9, e_9, h⟩ := bpE h
    refine j_callSI (As := [.int a1, .int a2]) S D_K_adds_9 ms_RK_22 (c_K_spills (cxL X) E a1 a2 (mem := mem) e_9) (by decide) rfl rfl (Nat.le_of_ble_eq_true rfl) ?_
    refine j_dia (P := J X E 2 20 [(0, .int a1), (1, .int a2)] [.int (if r_9 ≤ 0 then (0 : Int32) else 1)] SH mem) (fun hj => ?_) ?_
    · refine j_if_le S D_K_adds_12 (fun c_12 => ?_) (fun c_12 => ?_)
      · refine j_iconst S D_K_adds_19 ci_0 ?_
        exact j_jnT hj c_12
      · refine j_iconst S D_K_adds_15 ci_1 ?_
        refine j_goto S D_K_adds_16 ?_
        exact j_jnF hj c_12
    exact rtI hR h _ _ D_K_adds_20
  · have h := ifT c_2 h
    refine j_iconst S D_K_adds_5 ci_1 ?_
    exact rtI hR h _ _ D_K_adds_6

def y_K_worth : MethodName := ⟨"SandPicture$Kinds", "worth", "(II)I"⟩
theorem D_K_worth_0 : decode prog_2_method_8_code 0 = .ok (.iload_n 0, 1) ∧ 0 + 1 = 1 := by decide +kernel
theorem D_K_worth_1 : decode prog_2_method_8_code 1 = .ok (.tableswitch 62 1 5 #[35, 47, 40, 52, 60], 35) := by decide +kernel
theorem D_K_worth_36 : decode prog_2_method_8_code 36 = .ok (.iload_n 1, 1) ∧ 36 + 1 = 37 := by decide +kernel
theorem D_K_worth_37 : decode prog_2_method_8_code 37 = .ok (.bipush 6, 2) ∧ 37 + 2 = 39 := by decide +kernel
theorem D_K_worth_39 : decode prog_2_method_8_code 39 = .ok (.iadd, 1) ∧ 39 + 1 = 40 := by decide +kernel
theorem D_K_worth_40 : decode prog_2_method_8_code 40 = .ok (.ireturn, 1) := by decide +kernel
theorem D_K_worth_48 : decode prog_2_method_8_code 48 = .ok (.bipush 99, 2) ∧ 48 + 2 = 50 := by decide +kernel
theorem D_K_worth_50 : decode prog_2_method_8_code 50 = .ok (.iload_n 1, 1) ∧ 50 + 1 = 51 := by decide +kernel
theorem D_K_worth_51 : decode prog_2_method_8_code 51 = .ok (.isub, 1) ∧ 51 + 1 = 52 := by decide +kernel
theorem D_K_worth_52 : decode prog_2_method_8_code 52 = .ok (.ireturn, 1) := by decide +kernel
theorem D_K_worth_41 : decode prog_2_method_8_code 41 = .ok (.iconst 2, 1) ∧ 41 + 1 = 42 := by decide +kernel
theorem D_K_worth_42 : decode prog_2_method_8_code 42 = .ok (.iload_n 1, 1) ∧ 42 + 1 = 43 := by decide +kernel
theorem D_K_worth_43 : decode prog_2_method_8_code 43 = .ok (.bipush 6, 2) ∧ 43 + 2 = 45 := by decide +kernel
theorem D_K_worth_45 : decode prog_2_method_8_code 45 = .ok (.iadd, 1) ∧ 45 + 1 = 46 := by decide +kernel
theorem D_K_worth_46 : decode prog_2_method_8_code 46 = .ok (.imul, 1) ∧ 46 + 1 = 47 := by decide +kernel
theorem D_K_worth_47 : decode prog_2_method_8_code 47 = .ok (.ireturn, 1) := by decide +kernel
theorem D_K_worth_53 : decode prog_2_method_8_code 53 = .ok (.bipush 99, 2) ∧ 53 + 2 = 55 := by decide +kernel
theorem D_K_worth_55 : decode prog_2_method_8_code 55 = .ok (.iload_n 1, 1) ∧ 55 + 1 = 56 := by decide +kernel
theorem D_K_worth_56 : decode prog_2_method_8_code 56 = .ok (.isub, 1) ∧ 56 + 1 = 57 := by decide +kernel
theorem D_K_worth_57 : decode prog_2_method_8_code 57 = .ok (.bipush 9, 2) ∧ 57 + 2 = 59 := by decide +kernel
theorem D_K_worth_59 : decode prog_2_method_8_code 59 = .ok (.isub, 1) ∧ 59 + 1 = 60 := by decide +kernel
theorem D_K_worth_60 : decode prog_2_method_8_code 60 = .ok (.ireturn, 1) := by decide +kernel
theorem D_K_worth_61 : decode prog_2_method_8_code 61 = .ok (.iconst 4, 1) ∧ 61 + 1 = 62 := by decide +kernel
theorem D_K_worth_62 : decode prog_2_method_8_code 62 = .ok (.ireturn, 1) := by decide +kernel
theorem D_K_worth_63 : decode prog_2_method_8_code 63 = .ok (.iload_n 1, 1) ∧ 63 + 1 = 64 := by decide +kernel
theorem D_K_worth_64 : decode prog_2_method_8_code 64 = .ok (.ireturn, 1) := by decide +kernel
theorem D_K_worth_1o : decode prog_2_method_8_code 1 = .ok (.tableswitch 62 1 5 #[35, 47, 40, 52, 60], 35) ∧ ((1 : Nat) : Int) + 62 = ((63 : Nat) : Int) := by decide +kernel
def f_K_worth (a1 : Int32) (a2 : Int32) : Option (Int32) := if a1 = 1 then some (a2 + 6) else if a1 = 2 then some (99 - a2) else if a1 = 3 then some (2 * (a2 + 6)) else if a1 = 4 then some ((99 - a2) - 9) else if a1 = 5 then some 4 else some a2
theorem c_K_worth (l : Launch) (E : En) (a1 : Int32) (a2 : Int32) {mem : Mm} {r : Int32} (h : f_K_worth a1 a2 = some r) : CtI l E 0 y_K_worth prog_2_method_8_code 2 (some .int) [.int a1, .int a2] SH mem r mem := by
  refine mk_CtI ⟨by decide, (Nat.le_of_ble_eq_true rfl)⟩ (fun X S hl hR => ?_)
  have S : Std X E prog_2_method_8_code RK 2 0 := S
  show J X E 2 0 [(0, .int a1), (1, .int a2)] [] SH mem
  unfold f_K_worth at h
  refine j_iload_n S D_K_worth_0 0 rfl rfl ?_
  by_cases c_1_0 : a1 = 1
  · have h := ifT c_1_0 h
    refine j_tabIn (tg := 36) (off := 35) S D_K_worth_1 1 c_1_0 (by decide +kernel) ?_
    refine j_iload_n S D_K_worth_36 1 rfl rfl ?_
    refine j_bipush S D_K_worth_37 cb_6 ?_
    refine j_iadd S D_K_worth_39 ?_
    exact rtI hR h _ _ D_K_worth_40
  · have h := ifF c_1_0 h
    by_cases c_1_1 : a1 = 2
    · have h := ifT c_1_1 h
      refine j_tabIn (tg := 48) (off := 47) S D_K_worth_1 2 c_1_1 (by decide +kernel) ?_
      refine j_bipush S D_K_worth_48 cb_99 ?_
      refine j_iload_n S D_K_worth_50 1 rfl rfl ?_
      refine j_isub S D_K_worth_51 ?_
      exact rtI hR h _ _ D_K_worth_52
    · have h := ifF c_1_1 h
      by_cases c_1_2 : a1 = 3
      · have h := ifT c_1_2 h
        refine j_tabIn (tg := 41) (off := 40) S D_K_worth_1 3 c_1_2 (by decide +kernel) ?_
        refine j_iconst S D_K_worth_41 ci_2 ?_
        refine j_iload_n S D_K_worth_42 1 rfl rfl ?_
        refine j_bipush S D_K_worth_43 cb_6 ?_
        refine j_iadd S D_K_worth_45 ?_
        refine j_imul S D_K_worth_46 ?_
        exact rtI hR h _ _ D_K_worth_47
      · have h := ifF c_1_2 h
        by_cases c_1_3 : a1 = 4
        · have h := ifT c_1_3 h
          refine j_tabIn (tg := 53) (off := 52) S D_K_worth_1 4 c_1_3 (by decide +kernel) ?_
          refine j_bipush S D_K_worth_53 cb_99 ?_
          refine j_iload_n S D_K_worth_55 1 rfl rfl ?_
          refine j_isub S D_K_worth_56 ?_
          refine j_bipush S D_K_worth_57 cb_9 ?_
          refine j_isub S D_K_worth_59 ?_
          exact rtI hR h _ _ D_K_worth_60
        · have h := ifF c_1_3 h
          by_cases c_1_4 : a1 = 5
          · have h := ifT c_1_4 h
            refine j_tabIn (tg := 61) (off := 60) S D_K_worth_1 5 c_1_4 (by decide +kernel) ?_
            refine j_iconst S D_K_worth_61 ci_4 ?_
            exact rtI hR h _ _ D_K_worth_62
          · have h := ifF c_1_4 h
            refine j_tabOut S D_K_worth_1o (tout_1_5 c_1_0 c_1_1 c_1_2 c_1_3 c_1_4) ?_
            refine j_iload_n S D_K_worth_63 1 rfl rfl ?_
            exact rtI hR h _ _ D_K_worth_64

def y_H_renew : MethodName := ⟨"SandPicture$Sheet", "renew", "(II)V"⟩
theorem D_H_renew_0 : decode prog_4_method_2_code 0 = .ok (.aload_n 0, 1) ∧ 0 + 1 = 1 := by decide +kernel
theorem D_H_renew_1 : decode prog_4_method_2_code 1 = .ok (.iload_n 1, 1) ∧ 1 + 1 = 2 := by decide +kernel
theorem D_H_renew_2 : decode prog_4_method_2_code 2 = .ok (.putfield 9, 3) ∧ 2 + 3 = 5 := by decide +kernel
theorem D_H_renew_5 : decode prog_4_method_2_code 5 = .ok (.aload_n 0, 1) ∧ 5 + 1 = 6 := by decide +kernel
theorem D_H_renew_6 : decode prog_4_method_2_code 6 = .ok (.iload_n 2, 1) ∧ 6 + 1 = 7 := by decide +kernel
theorem D_H_renew_7 : decode prog_4_method_2_code 7 = .ok (.putfield 15, 3) ∧ 7 + 3 = 10 := by decide +kernel
theorem D_H_renew_10 : decode prog_4_method_2_code 10 = .ok (.iconst 0, 1) ∧ 10 + 1 = 11 := by decide +kernel
theorem D_H_renew_11 : decode prog_4_method_2_code 11 = .ok (.istore_n 3, 1) ∧ 11 + 1 = 12 := by decide +kernel
theorem D_H_renew_12 : decode prog_4_method_2_code 12 = .ok (.iload_n 3, 1) ∧ 12 + 1 = 13 := by decide +kernel
theorem D_H_renew_13 : decode prog_4_method_2_code 13 = .ok (.aload_n 0, 1) ∧ 13 + 1 = 14 := by decide +kernel
theorem D_H_renew_14 : decode prog_4_method_2_code 14 = .ok (.getfield 18, 3) ∧ 14 + 3 = 17 := by decide +kernel
theorem D_H_renew_17 : decode prog_4_method_2_code 17 = .ok (.arraylength, 1) ∧ 17 + 1 = 18 := by decide +kernel
theorem D_H_renew_18 : decode prog_4_method_2_code 18 = .ok (.if_icmp .ge 16, 3) ∧ ((18 : Nat) : Int) + 16 = ((34 : Nat) : Int) ∧ 18 + 3 = 21 := by decide +kernel
theorem D_H_renew_21 : decode prog_4_method_2_code 21 = .ok (.aload_n 0, 1) ∧ 21 + 1 = 22 := by decide +kernel
theorem D_H_renew_22 : decode prog_4_method_2_code 22 = .ok (.getfield 18, 3) ∧ 22 + 3 = 25 := by decide +kernel
theorem D_H_renew_25 : decode prog_4_method_2_code 25 = .ok (.iload_n 3, 1) ∧ 25 + 1 = 26 := by decide +kernel
theorem D_H_renew_26 : decode prog_4_method_2_code 26 = .ok (.iconst 0, 1) ∧ 26 + 1 = 27 := by decide +kernel
theorem D_H_renew_27 : decode prog_4_method_2_code 27 = .ok (.iastore, 1) ∧ 27 + 1 = 28 := by decide +kernel
theorem D_H_renew_28 : decode prog_4_method_2_code 28 = .ok (.iinc 3 1, 3) ∧ 28 + 3 = 31 := by decide +kernel
theorem D_H_renew_31 : decode prog_4_method_2_code 31 = .ok (.goto (-19), 3) ∧ ((31 : Nat) : Int) + (-19) = ((12 : Nat) : Int) := by decide +kernel
theorem D_H_renew_34 : decode prog_4_method_2_code 34 = .ok (.return_, 1) := by decide +kernel
def f_H_renew_L12 (p : Nat) : Nat → Int32 → Int32 → Int32 → Mm → Option (Int32 × Mm)
  | 0, _, _, _, _ => none
  | n + 1, b1, b2, b3, mem => if 24 ≤ b3 then some (b3, mem) else if inb b3 24 = true then lt (mst mem (p + 1) (ix b3) 0) fun m_27 => f_H_renew_L12 p n b1 b2 (b3 + 1) m_27 else none
def f_H_renew (N : Nat) (p : Nat) (a1 : Int32) (a2 : Int32) (mem : Mm) : Option (Mm) := lt (mst mem p 0 a1) fun m_2 => lt (mst m_2 p 1 a2) fun m_7 => bd (f_H_renew_L12 p N a1 a2 0 m_7) fun y_12 m_12 => some m_12
theorem L_H_renew_12 {X : Cx} {E : En} (S : Std X E prog_4_method_2_code R1 4 0) (p : Nat) (hp : isSht p) : ∀ (n : Nat) (b1 : Int32) (b2 : Int32) (b3 : Int32) (mem : Mm) (z : Int32) (m2 : Mm), f_H_renew_L12 p n b1 b2 b3 mem = some (z, m2) → J X E 4 34 [(0, .ref (eb E + p)), (1, .int b1), (2, .int b2), (3, .int z)] [] SH m2 → J X E 4 12 [(0, .ref (eb E + p)), (1, .int b1), (2, .int b2), (3, .int b3)] [] SH mem := by
  intro n
  induction n with
  | zero =>
    intro b1 b2 b3 mem z m2 h hk; cases h
  | succ n ih =>
    intro b1 b2 b3 mem z m2 h hk
    rw [f_H_renew_L12] at h
    refine j_iload_n S D_H_renew_12 3 rfl rfl ?_
    refine j_aload_n S D_H_renew_13 0 rfl rfl ?_
    refine j_getR S D_H_renew_14 fl_R1_18 (sh_sht hp) rfl ?_
    refine j_alen S D_H_renew_17 (sh_sht1 hp) cn_24 ?_
    refine j_icmp_ge S D_H_renew_18 (fun c_18 => ?_) (fun c_18 => ?_)
    · have h := ifT c_18 h
      cases h
      exact j_locals [0, 1, 2, 3] rfl hk
    · have h := ifF c_18 h
      refine j_aload_n S D_H_renew_21 0 rfl rfl ?_
      refine j_getR S D_H_renew_22 fl_R1_18 (sh_sht hp) rfl ?_
      refine j_iload_n S D_H_renew_25 3 rfl rfl ?_
      refine j_iconst S D_H_renew_26 ci_0 ?_
      obtain ⟨g_27, h⟩ := gdE h
      obtain ⟨m_27, hm_27, h⟩ := ltE h
      refine j_iast S D_H_renew_27 (sh_sht1 hp) g_27 ?_
      refine j_mem hm_27 ?_
      refine j_iinc S D_H_renew_28 3 rfl (congrArg (fun z => b3 + z) ci_1) (lv := [(3, .int (b3 + 1)), (0, .ref (eb E + p)), (1, .int b1), (2, .int b2)]) rfl (Nat.le_of_ble_eq_true rfl) ?_
      refine j_goto S D_H_renew_31 ?_
      refine j_locals [1, 2, 3, 0] rfl (ih b1 b2 (b3 + 1) m_27 _ _ h hk)
theorem c_H_renew (l : Launch) (E : En) (N : Nat) (p : Nat) (hp : isSht p) (a1 : Int32) (a2 : Int32) {mem : Mm} {m2 : Mm} (h : f_H_renew N p a1 a2 mem = some m2) : CtV l E 0 y_H_renew prog_4_method_2_code 4 [.ref (eb E + p), .int a1, .int a2] SH mem m2 := by
  refine mk_CtV ⟨by decide, (Nat.le_of_ble_eq_true rfl)⟩ (fun X S hl hR => ?_)
  have S : Std X E prog_4_method_2_code R1 4 0 := S
  show J X E 4 0 [(0, .ref (eb E + p)), (1, .int a1), (2, .int a2)] [] SH mem
  unfold f_H_renew at h
  refine j_aload_n S D_H_renew_0 0 rfl rfl ?_
  refine j_iload_n S D_H_renew_1 1 rfl rfl ?_
  obtain ⟨m_2, hm_2, h⟩ := ltE h
  refine j_putI S D_H_renew_2 fp_R1_9 (sh_sht hp) rfl ?_
  refine j_mem hm_2 ?_
  refine j_aload_n S D_H_renew_5 0 rfl rfl ?_
  refine j_iload_n S D_H_renew_6 2 rfl rfl ?_
  obtain ⟨m_7, hm_7, h⟩ := ltE h
  refine j_putI S D_H_renew_7 fp_R1_15 (sh_sht hp) rfl ?_
  refine j_mem hm_7 ?_
  refine j_iconst S D_H_renew_10 ci_0 ?_
  refine j_istore_n S D_H_renew_11 (lv := [(3, .int 0), (0, .ref (eb E + p)), (1, .int a1), (2, .int a2)]) rfl ⟨rfl, (Nat.le_of_ble_eq_true rfl)⟩ ?_
  refine j_locals [1, 2, 3, 0] rfl ?_
  obtain ⟨y_12, m_12, e_12, h⟩ := bdE h
  refine L_H_renew_12 S p hp N a1 a2 0 m_7 _ _ e_12 ?_
  exact rtV hR h _ _ D_H_renew_34

def y_H_become : MethodName := ⟨"SandPicture$Sheet", "become", "(LSandPicture$Sheet;)V"⟩
theorem D_H_become_0 : decode prog_4_method_3_code 0 = .ok (.aload_n 0, 1) ∧ 0 + 1 = 1 := by decide +kernel
theorem D_H_become_1 : decode prog_4_method_3_code 1 = .ok (.aload_n 1, 1) ∧ 1 + 1 = 2 := by decide +kernel
theorem D_H_become_2 : decode prog_4_method_3_code 2 = .ok (.getfield 9, 3) ∧ 2 + 3 = 5 := by decide +kernel
theorem D_H_become_5 : decode prog_4_method_3_code 5 = .ok (.putfield 9, 3) ∧ 5 + 3 = 8 := by decide +kernel
theorem D_H_become_8 : decode prog_4_method_3_code 8 = .ok (.aload_n 0, 1) ∧ 8 + 1 = 9 := by decide +kernel
theorem D_H_become_9 : decode prog_4_method_3_code 9 = .ok (.aload_n 1, 1) ∧ 9 + 1 = 10 := by decide +kernel
theorem D_H_become_10 : decode prog_4_method_3_code 10 = .ok (.getfield 15, 3) ∧ 10 + 3 = 13 := by decide +kernel
theorem D_H_become_13 : decode prog_4_method_3_code 13 = .ok (.putfield 15, 3) ∧ 13 + 3 = 16 := by decide +kernel
theorem D_H_become_16 : decode prog_4_method_3_code 16 = .ok (.aload_n 1, 1) ∧ 16 + 1 = 17 := by decide +kernel
theorem D_H_become_17 : decode prog_4_method_3_code 17 = .ok (.getfield 18, 3) ∧ 17 + 3 = 20 := by decide +kernel
theorem D_H_become_20 : decode prog_4_method_3_code 20 = .ok (.iconst 0, 1) ∧ 20 + 1 = 21 := by decide +kernel
theorem D_H_become_21 : decode prog_4_method_3_code 21 = .ok (.aload_n 0, 1) ∧ 21 + 1 = 22 := by decide +kernel
theorem D_H_become_22 : decode prog_4_method_3_code 22 = .ok (.getfield 18, 3) ∧ 22 + 3 = 25 := by decide +kernel
theorem D_H_become_25 : decode prog_4_method_3_code 25 = .ok (.iconst 0, 1) ∧ 25 + 1 = 26 := by decide +kernel
theorem D_H_become_26 : decode prog_4_method_3_code 26 = .ok (.bipush 24, 2) ∧ 26 + 2 = 28 := by decide +kernel
theorem D_H_become_28 : decode prog_4_method_3_code 28 = .ok (.invokestatic 22, 3) ∧ 28 + 3 = 31 := by decide +kernel
theorem D_H_become_31 : decode prog_4_method_3_code 31 = .ok (.return_, 1) := by decide +kernel
def f_H_become (p : Nat) (o1 : Nat) (mem : Mm) : Option (Mm) := lt (mst mem p 0 (mem o1 0)) fun m_5 => lt (mst m_5 p 1 (m_5 o1 1)) fun m_13 => lt (va_up m_13 (p + 1) (va_cpy (m_13 (o1 + 1)) (m_13 (p + 1)) (ix 0) (ix 0) (ix 24))) fun m_28 => some m_28
theorem c_H_become (l : Launch) (E : En) (p : Nat) (hp : isSht p) (o1 : Nat) (ho1 : isSht o1) {mem : Mm} {m2 : Mm} (h : f_H_become p o1 mem = some m2) : CtV l E 1 y_H_become prog_4_method_3_code 2 [.ref (eb E + p), .ref (eb E + o1)] SH mem m2 := by
  refine mk_CtV ⟨by decide, (Nat.le_of_ble_eq_true rfl)⟩ (fun X S hl hR => ?_)
  have S : Std X E prog_4_method_3_code R1 2 1 := S
  show J X E 2 0 [(0, .ref (eb E + p)), (1, .ref (eb E + o1))] [] SH mem
  unfold f_H_become at h
  refine j_aload_n S D_H_become_0 0 rfl rfl ?_
  refine j_aload_n S D_H_become_1 1 rfl rfl ?_
  refine j_getI S D_H_become_2 fl_R1_9 (sh_sht ho1) rfl ?_
  obtain ⟨m_5, hm_5, h⟩ := ltE h
  refine j_putI S D_H_become_5 fp_R1_9 (sh_sht hp) rfl ?_
  refine j_mem hm_5 ?_
  refine j_aload_n S D_H_become_8 0 rfl rfl ?_
  refine j_aload_n S D_H_become_9 1 rfl rfl ?_
  refine j_getI S D_H_become_10 fl_R1_15 (sh_sht ho1) rfl ?_
  obtain ⟨m_13, hm_13, h⟩ := ltE h
  refine j_putI S D_H_become_13 fp_R1_15 (sh_sht hp) rfl ?_
  refine j_mem hm_13 ?_
  refine j_aload_n S D_H_become_16 1 rfl rfl ?_
  refine j_getR S D_H_become_17 fl_R1_18 (sh_sht ho1) rfl ?_
  refine j_iconst S D_H_become_20 ci_0 ?_
  refine j_aload_n S D_H_become_21 0 rfl rfl ?_
  refine j_getR S D_H_become_22 fl_R1_18 (sh_sht hp) rfl ?_
  refine j_iconst S D_H_become_25 ci_0 ?_
  refine j_bipush S D_H_become_26 cb_24 ?_
  obtain ⟨m_28, hm_28, h⟩ := ltE h
  refine j_copy S D_H_become_28 (by decide) ac_R1_22 (Nat.le_of_ble_eq_true rfl) (sh_sht1 ho1) (sh_sht1 hp) nn_24 cp_0_24_24 cp_0_24_24 ?_
  refine j_mem hm_28 ?_
  exact rtV hR h _ _ D_H_become_31

def y_H_hasNumber : MethodName := ⟨"SandPicture$Sheet", "hasNumber", "(I)Z"⟩
theorem D_H_hasNumber_0 : decode prog_4_method_4_code 0 = .ok (.iload_n 1, 1) ∧ 0 + 1 = 1 := by decide +kernel
theorem D_H_hasNumber_1 : decode prog_4_method_4_code 1 = .ok (.ifCond .lt 26, 3) ∧ ((1 : Nat) : Int) + 26 = ((27 : Nat) : Int) ∧ 1 + 3 = 4 := by decide +kernel
theorem D_H_hasNumber_27 : decode prog_4_method_4_code 27 = .ok (.iconst 0, 1) ∧ 27 + 1 = 28 := by decide +kernel
theorem D_H_hasNumber_28 : decode prog_4_method_4_code 28 = .ok (.ireturn, 1) := by decide +kernel
theorem D_H_hasNumber_4 : decode prog_4_method_4_code 4 = .ok (.iload_n 1, 1) ∧ 4 + 1 = 5 := by decide +kernel
theorem D_H_hasNumber_5 : decode prog_4_method_4_code 5 = .ok (.aload_n 0, 1) ∧ 5 + 1 = 6 := by decide +kernel
theorem D_H_hasNumber_6 : decode prog_4_method_4_code 6 = .ok (.getfield 15, 3) ∧ 6 + 3 = 9 := by decide +kernel
theorem D_H_hasNumber_9 : decode prog_4_method_4_code 9 = .ok (.if_icmp .ge 18, 3) ∧ ((9 : Nat) : Int) + 18 = ((27 : Nat) : Int) ∧ 9 + 3 = 12 := by decide +kernel
theorem D_H_hasNumber_12 : decode prog_4_method_4_code 12 = .ok (.aload_n 0, 1) ∧ 12 + 1 = 13 := by decide +kernel
theorem D_H_hasNumber_13 : decode prog_4_method_4_code 13 = .ok (.getfield 18, 3) ∧ 13 + 3 = 16 := by decide +kernel
theorem D_H_hasNumber_16 : decode prog_4_method_4_code 16 = .ok (.iload_n 1, 1) ∧ 16 + 1 = 17 := by decide +kernel
theorem D_H_hasNumber_17 : decode prog_4_method_4_code 17 = .ok (.iaload, 1) ∧ 17 + 1 = 18 := by decide +kernel
theorem D_H_hasNumber_18 : decode prog_4_method_4_code 18 = .ok (.ldc 28, 2) ∧ 18 + 2 = 20 := by decide +kernel
theorem D_H_hasNumber_23 : decode prog_4_method_4_code 23 = .ok (.iconst 1, 1) ∧ 23 + 1 = 24 := by decide +kernel
theorem D_H_hasNumber_24 : decode prog_4_method_4_code 24 = .ok (.goto 4, 3) ∧ ((24 : Nat) : Int) + 4 = ((28 : Nat) : Int) := by decide +kernel
theorem D_H_hasNumber_20 : decode prog_4_method_4_code 20 = .ok (.if_icmp .eq 7, 3) ∧ ((20 : Nat) : Int) + 7 = ((27 : Nat) : Int) ∧ 20 + 3 = 23 := by decide +kernel
def f_H_hasNumber (p : Nat) (a1 : Int32) (mem : Mm) : Option (Int32) := if a1 < 0 then some 0 else if mem p 1 ≤ a1 then some 0 else if inb a1 24 = true then some (if mem (p + 1) (ix a1) = (-1000000005) then (0 : Int32) else 1) else none
theorem c_H_hasNumber (l : Launch) (E : En) (p : Nat) (hp : isSht p) (a1 : Int32) {mem : Mm} {r : Int32} (h : f_H_hasNumber p a1 mem = some r) : CtI l E 0 y_H_hasNumber prog_4_method_4_code 2 (some .boolean) [.ref (eb E + p), .int a1] SH mem r mem := by
  refine mk_CtZ ⟨by decide, (Nat.le_of_ble_eq_true rfl)⟩ (fun X S hl hR => ?_)
  have S : Std X E prog_4_method_4_code R1 2 0 := S
  show J X E 2 0 [(0, .ref (eb E + p)), (1, .int a1)] [] SH mem
  unfold f_H_hasNumber at h
  refine j_iload_n S D_H_hasNumber_0 1 rfl rfl ?_
  refine j_if_lt S D_H_hasNumber_1 (fun c_1 => ?_) (fun c_1 => ?_)
  · have h := ifT c_1 h
    refine j_iconst S D_H_hasNumber_27 ci_0 ?_
    exact rtIZ hR h isb0 _ _ D_H_hasNumber_28
  · have h := ifF c_1 h
    refine j_iload_n S D_H_hasNumber_4 1 rfl rfl ?_
    refine j_aload_n S D_H_hasNumber_5 0 rfl rfl ?_
    refine j_getI S D_H_hasNumber_6 fl_R1_15 (sh_sht hp) rfl ?_
    refine j_icmp_ge S D_H_hasNumber_9 (fun c_9 => ?_) (fun c_9 => ?_)
    · have h := ifT c_9 h
      refine j_iconst S D_H_hasNumber_27 ci_0 ?_
      exact rtIZ hR h isb0 _ _ D_H_hasNumber_28
    · have h := ifF c_9 h
      refine j_aload_n S D_H_hasNumber_12 0 rfl rfl ?_
      refine j_getR S D_H_hasNumber_13 fl_R1_18 (sh_sht hp) rfl ?_
      refine j_iload_n S D_H_hasNumber_16 1 rfl rfl ?_
      obtain ⟨g_17, h⟩ := gdE h
      refine j_iald S D_H_hasNumber_17 (sh_sht1 hp) g_17 ?_
      refine j_ldc S D_H_hasNumber_18 co_R1_28 ?_
      refine j_dia (P := J X E 2 28 [(0, .ref (eb E + p)), (1, .int a1)] [.int (if mem (p + 1) (ix a1) = (-1000000005) then (0 : Int32) else 1)] SH mem) (fun hj => ?_) ?_
      · refine j_icmp_eq S D_H_hasNumber_20 (fun c_20 => ?_) (fun c_20 => ?_)
        · refine j_iconst S D_H_hasNumber_27 ci_0 ?_
          exact j_jnT hj c_20
        · refine j_iconst S D_H_hasNumber_23 ci_1 ?_
          refine j_goto S D_H_hasNumber_24 ?_
          exact j_jnF hj c_20
      exact rtIZ hR h (isb_ite isb0 isb1) _ _ D_H_hasNumber_28

def y_H_hasStretch : MethodName := ⟨"SandPicture$Sheet", "hasStretch", "(II)Z"⟩
theorem D_H_hasStretch_0 : decode prog_4_method_5_code 0 = .ok (.iload_n 1, 1) ∧ 0 + 1 = 1 := by decide +kernel
theorem D_H_hasStretch_30 : decode prog_4_method_5_code 30 = .ok (.iconst 0, 1) ∧ 30 + 1 = 31 := by decide +kernel
theorem D_H_hasStretch_4 : decode prog_4_method_5_code 4 = .ok (.iload_n 2, 1) ∧ 4 + 1 = 5 := by decide +kernel
theorem D_H_hasStretch_8 : decode prog_4_method_5_code 8 = .ok (.iload_n 1, 1) ∧ 8 + 1 = 9 := by decide +kernel
theorem D_H_hasStretch_9 : decode prog_4_method_5_code 9 = .ok (.aload_n 0, 1) ∧ 9 + 1 = 10 := by decide +kernel
theorem D_H_hasStretch_10 : decode prog_4_method_5_code 10 = .ok (.getfield 15, 3) ∧ 10 + 3 = 13 := by decide +kernel
theorem D_H_hasStretch_16 : decode prog_4_method_5_code 16 = .ok (.iload_n 2, 1) ∧ 16 + 1 = 17 := by decide +kernel
theorem D_H_hasStretch_17 : decode prog_4_method_5_code 17 = .ok (.aload_n 0, 1) ∧ 17 + 1 = 18 := by decide +kernel
theorem D_H_hasStretch_18 : decode prog_4_method_5_code 18 = .ok (.getfield 15, 3) ∧ 18 + 3 = 21 := by decide +kernel
theorem D_H_hasStretch_21 : decode prog_4_method_5_code 21 = .ok (.iload_n 1, 1) ∧ 21 + 1 = 22 := by decide +kernel
theorem D_H_hasStretch_22 : decode prog_4_method_5_code 22 = .ok (.isub, 1) ∧ 22 + 1 = 23 := by decide +kernel
theorem D_H_hasStretch_26 : decode prog_4_method_5_code 26 = .ok (.iconst 1, 1) ∧ 26 + 1 = 27 := by decide +kernel
theorem D_H_hasStretch_27 : decode prog_4_method_5_code 27 = .ok (.goto 4, 3) ∧ ((27 : Nat) : Int) + 4 = ((31 : Nat) : Int) := by decide +kernel
theorem D_H_hasStretch_23 : decode prog_4_method_5_code 23 = .ok (.if_icmp .gt 7, 3) ∧ ((23 : Nat) : Int) + 7 = ((30 : Nat) : Int) ∧ 23 + 3 = 26 := by decide +kernel
theorem D_H_hasStretch_13 : decode prog_4_method_5_code 13 = .ok (.if_icmp .gt 17, 3) ∧ ((13 : Nat) : Int) + 17 = ((30 : Nat) : Int) ∧ 13 + 3 = 16 := by decide +kernel
theorem D_H_hasStretch_5 : decode prog_4_method_5_code 5 = .ok (.ifCond .lt 25, 3) ∧ ((5 : Nat) : Int) + 25 = ((30 : Nat) : Int) ∧ 5 + 3 = 8 := by decide +kernel
theorem D_H_hasStretch_1 : decode prog_4_method_5_code 1 = .ok (.ifCond .lt 29, 3) ∧ ((1 : Nat) : Int) + 29 = ((30 : Nat) : Int) ∧ 1 + 3 = 4 := by decide +kernel
theorem D_H_hasStretch_31 : decode prog_4_method_5_code 31 = .ok (.ireturn, 1) := by decide +kernel
def f_H_hasStretch (p : Nat) (a1 : Int32) (a2 : Int32) (mem : Mm) : Option (Int32) := some (if a1 < 0 then (0 : Int32) else if a2 < 0 then (0 : Int32) else if mem p 1 < a1 then (0 : Int32) else if (mem p 1) - a1 < a2 then (0 : Int32) else 1)
theorem c_H_hasStretch (l : Launch) (E : En) (p : Nat) (hp : isSht p) (a1 : Int32) (a2 : Int32) {mem : Mm} {r : Int32} (h : f_H_hasStretch p a1 a2 mem = some r) : CtI l E 0 y_H_hasStretch prog_4_method_5_code 3 (some .boolean) [.ref (eb E + p), .int a1, .int a2] SH mem r mem := by
  refine mk_CtZ ⟨by decide, (Nat.le_of_ble_eq_true rfl)⟩ (fun X S hl hR => ?_)
  have S : Std X E prog_4_method_5_code R1 3 0 := S
  show J X E 3 0 [(0, .ref (eb E + p)), (1, .int a1), (2, .int a2)] [] SH mem
  unfold f_H_hasStretch at h
  refine j_iload_n S D_H_hasStretch_0 1 rfl rfl ?_
  refine j_dia (P := J X E 3 31 [(0, .ref (eb E + p)), (1, .int a1), (2, .int a2)] [.int (if a1 < 0 then (0 : Int32) else if a2 < 0 then (0 : Int32) else if mem p 1 < a1 then (0 : Int32) else if (mem p 1) - a1 < a2 then (0 : Int32) else 1)] SH mem) (fun hj => ?_) ?_
  · refine j_if_lt S D_H_hasStretch_1 (fun c_1 => ?_) (fun c_1 => ?_)
    · refine j_iconst S D_H_hasStretch_30 ci_0 ?_
      exact j_jnT hj c_1
    · refine j_iload_n S D_H_hasStretch_4 2 rfl rfl ?_
      refine j_dia (P := J X E 3 31 [(0, .ref (eb E + p)), (1, .int a1), (2, .int a2)] [.int (if a2 < 0 then (0 : Int32) else if mem p 1 < a1 then (0 : Int32) else if (mem p 1) - a1 < a2 then (0 : Int32) else 1)] SH mem) (fun hj => ?_) ?_
      · refine j_if_lt S D_H_hasStretch_5 (fun c_5 => ?_) (fun c_5 => ?_)
        · refine j_iconst S D_H_hasStretch_30 ci_0 ?_
          exact j_jnT hj c_5
        · refine j_iload_n S D_H_hasStretch_8 1 rfl rfl ?_
          refine j_aload_n S D_H_hasStretch_9 0 rfl rfl ?_
          refine j_getI S D_H_hasStretch_10 fl_R1_15 (sh_sht hp) rfl ?_
          refine j_dia (P := J X E 3 31 [(0, .ref (eb E + p)), (1, .int a1), (2, .int a2)] [.int (if mem p 1 < a1 then (0 : Int32) else if (mem p 1) - a1 < a2 then (0 : Int32) else 1)] SH mem) (fun hj => ?_) ?_
          · refine j_icmp_gt S D_H_hasStretch_13 (fun c_13 => ?_) (fun c_13 => ?_)
            · refine j_iconst S D_H_hasStretch_30 ci_0 ?_
              exact j_jnT hj c_13
            · refine j_iload_n S D_H_hasStretch_16 2 rfl rfl ?_
              refine j_aload_n S D_H_hasStretch_17 0 rfl rfl ?_
              refine j_getI S D_H_hasStretch_18 fl_R1_15 (sh_sht hp) rfl ?_
              refine j_iload_n S D_H_hasStretch_21 1 rfl rfl ?_
              refine j_isub S D_H_hasStretch_22 ?_
              refine j_dia (P := J X E 3 31 [(0, .ref (eb E + p)), (1, .int a1), (2, .int a2)] [.int (if (mem p 1) - a1 < a2 then (0 : Int32) else 1)] SH mem) (fun hj => ?_) ?_
              · refine j_icmp_gt S D_H_hasStretch_23 (fun c_23 => ?_) (fun c_23 => ?_)
                · refine j_iconst S D_H_hasStretch_30 ci_0 ?_
                  exact j_jnT hj c_23
                · refine j_iconst S D_H_hasStretch_26 ci_1 ?_
                  refine j_goto S D_H_hasStretch_27 ?_
                  exact j_jnF hj c_23
              exact j_jnF hj c_13
          exact j_jnF hj c_5
      exact j_jnF hj c_1
  exact rtIZ hR h (isb_ite isb0 (isb_ite isb0 (isb_ite isb0 (isb_ite isb0 isb1)))) _ _ D_H_hasStretch_31

def y_H_differsFrom : MethodName := ⟨"SandPicture$Sheet", "differsFrom", "([I)I"⟩
theorem D_H_differsFrom_0 : decode prog_4_method_6_code 0 = .ok (.iconst 0, 1) ∧ 0 + 1 = 1 := by decide +kernel
theorem D_H_differsFrom_1 : decode prog_4_method_6_code 1 = .ok (.istore_n 2, 1) ∧ 1 + 1 = 2 := by decide +kernel
theorem D_H_differsFrom_2 : decode prog_4_method_6_code 2 = .ok (.iconst 0, 1) ∧ 2 + 1 = 3 := by decide +kernel
theorem D_H_differsFrom_3 : decode prog_4_method_6_code 3 = .ok (.istore_n 3, 1) ∧ 3 + 1 = 4 := by decide +kernel
theorem D_H_differsFrom_4 : decode prog_4_method_6_code 4 = .ok (.iload_n 3, 1) ∧ 4 + 1 = 5 := by decide +kernel
theorem D_H_differsFrom_5 : decode prog_4_method_6_code 5 = .ok (.aload_n 0, 1) ∧ 5 + 1 = 6 := by decide +kernel
theorem D_H_differsFrom_6 : decode prog_4_method_6_code 6 = .ok (.getfield 15, 3) ∧ 6 + 3 = 9 := by decide +kernel
theorem D_H_differsFrom_9 : decode prog_4_method_6_code 9 = .ok (.if_icmp .ge 47, 3) ∧ ((9 : Nat) : Int) + 47 = ((56 : Nat) : Int) ∧ 9 + 3 = 12 := by decide +kernel
theorem D_H_differsFrom_12 : decode prog_4_method_6_code 12 = .ok (.aload_n 0, 1) ∧ 12 + 1 = 13 := by decide +kernel
theorem D_H_differsFrom_13 : decode prog_4_method_6_code 13 = .ok (.iload_n 3, 1) ∧ 13 + 1 = 14 := by decide +kernel
theorem D_H_differsFrom_14 : decode prog_4_method_6_code 14 = .ok (.invokevirtual 29, 3) ∧ 14 + 3 = 17 := by decide +kernel
theorem D_H_differsFrom_17 : decode prog_4_method_6_code 17 = .ok (.ifCond .eq 33, 3) ∧ ((17 : Nat) : Int) + 33 = ((50 : Nat) : Int) ∧ 17 + 3 = 20 := by decide +kernel
theorem D_H_differsFrom_50 : decode prog_4_method_6_code 50 = .ok (.iinc 3 1, 3) ∧ 50 + 3 = 53 := by decide +kernel
theorem D_H_differsFrom_53 : decode prog_4_method_6_code 53 = .ok (.goto (-49), 3) ∧ ((53 : Nat) : Int) + (-49) = ((4 : Nat) : Int) := by decide +kernel
theorem D_H_differsFrom_20 : decode prog_4_method_6_code 20 = .ok (.iload_n 3, 1) ∧ 20 + 1 = 21 := by decide +kernel
theorem D_H_differsFrom_21 : decode prog_4_method_6_code 21 = .ok (.aload_n 1, 1) ∧ 21 + 1 = 22 := by decide +kernel
theorem D_H_differsFrom_22 : decode prog_4_method_6_code 22 = .ok (.arraylength, 1) ∧ 22 + 1 = 23 := by decide +kernel
theorem D_H_differsFrom_23 : decode prog_4_method_6_code 23 = .ok (.if_icmp .ge 9, 3) ∧ ((23 : Nat) : Int) + 9 = ((32 : Nat) : Int) ∧ 23 + 3 = 26 := by decide +kernel
theorem D_H_differsFrom_32 : decode prog_4_method_6_code 32 = .ok (.iconst 0, 1) ∧ 32 + 1 = 33 := by decide +kernel
theorem D_H_differsFrom_33 : decode prog_4_method_6_code 33 = .ok (.istore 4, 2) ∧ 33 + 2 = 35 := by decide +kernel
theorem D_H_differsFrom_35 : decode prog_4_method_6_code 35 = .ok (.iload_n 2, 1) ∧ 35 + 1 = 36 := by decide +kernel
theorem D_H_differsFrom_36 : decode prog_4_method_6_code 36 = .ok (.iload 4, 2) ∧ 36 + 2 = 38 := by decide +kernel
theorem D_H_differsFrom_38 : decode prog_4_method_6_code 38 = .ok (.aload_n 0, 1) ∧ 38 + 1 = 39 := by decide +kernel
theorem D_H_differsFrom_39 : decode prog_4_method_6_code 39 = .ok (.getfield 18, 3) ∧ 39 + 3 = 42 := by decide +kernel
theorem D_H_differsFrom_42 : decode prog_4_method_6_code 42 = .ok (.iload_n 3, 1) ∧ 42 + 1 = 43 := by decide +kernel
theorem D_H_differsFrom_43 : decode prog_4_method_6_code 43 = .ok (.iaload, 1) ∧ 43 + 1 = 44 := by decide +kernel
theorem D_H_differsFrom_44 : decode prog_4_method_6_code 44 = .ok (.isub, 1) ∧ 44 + 1 = 45 := by decide +kernel
theorem D_H_differsFrom_45 : decode prog_4_method_6_code 45 = .ok (.invokestatic 33, 3) ∧ 45 + 3 = 48 := by decide +kernel
theorem D_H_differsFrom_48 : decode prog_4_method_6_code 48 = .ok (.iadd, 1) ∧ 48 + 1 = 49 := by decide +kernel
theorem D_H_differsFrom_49 : decode prog_4_method_6_code 49 = .ok (.istore_n 2, 1) ∧ 49 + 1 = 50 := by decide +kernel
theorem D_H_differsFrom_26 : decode prog_4_method_6_code 26 = .ok (.aload_n 1, 1) ∧ 26 + 1 = 27 := by decide +kernel
theorem D_H_differsFrom_27 : decode prog_4_method_6_code 27 = .ok (.iload_n 3, 1) ∧ 27 + 1 = 28 := by decide +kernel
theorem D_H_differsFrom_28 : decode prog_4_method_6_code 28 = .ok (.iaload, 1) ∧ 28 + 1 = 29 := by decide +kernel
theorem D_H_differsFrom_29 : decode prog_4_method_6_code 29 = .ok (.goto 4, 3) ∧ ((29 : Nat) : Int) + 4 = ((33 : Nat) : Int) := by decide +kernel
theorem D_H_differsFrom_56 : decode prog_4_method_6_code 56 = .ok (.iload_n 2, 1) ∧ 56 + 1 = 57 := by decide +kernel
theorem D_H_differsFrom_57 : decode prog_4_method_6_code 57 = .ok (.ireturn, 1) := by decide +kernel
def f_H_differsFrom_L4 (p : Nat) (o1 : Nat) : Nat → Int32 → Int32 → Mm → Option (Int32 × Int32)
  | 0, _, _, _ => none
  | n + 1, b2, b3, mem => if mem p 1 ≤ b3 then some (b2, b3) else bp (f_H_hasNumber p b3 mem) fun r_14 => if r_14 = 0 then f_H_differsFrom_L4 p o1 n b2 (b3 + 1) mem else if 6 ≤ b3 then if inb b3 24 = true then lt (b2 + (if 0 ≤ (0 - (mem (p + 1) (ix b3))) then 0 - (mem (p + 1) (ix b3)) else 0 - (0 - (mem (p + 1) (ix b3))))) fun x_49 => f_H_differsFrom_L4 p o1 n x_49 (b3 + 1) mem else none else if inb b3 6 = true then lt (mem o1 (ix b3)) fun x_33 => if inb b3 24 = true then lt (b2 + (if 0 ≤ (x_33 - (mem (p + 1) (ix b3))) then x_33 - (mem (p + 1) (ix b3)) else 0 - (x_33 - (mem (p + 1) (ix b3))))) fun x_49 => f_H_differsFrom_L4 p o1 n x_49 (b3 + 1) mem else none else none
def f_H_differsFrom (N : Nat) (p : Nat) (o1 : Nat) (mem : Mm) : Option (Int32) := bp (f_H_differsFrom_L4 p o1 N 0 0 mem) fun y_4 => some y_4.1
theorem L_H_differsFrom_4 {X : Cx} {E : En} (S : Std X E prog_4_method_6_code R1 5 1) (p : Nat) (hp : isSht p) (o1 : Nat) (ho1 : SH[o1]? = some (.inr (.inl (0, 6)))) {mem : Mm} : ∀ (n : Nat) (b2 : Int32) (b3 : Int32) (z : Int32 × Int32), f_H_differsFrom_L4 p o1 n b2 b3 mem = some z → J X E 5 56 [(0, .ref (eb E + p)), (1, .ref (eb E + o1)), (2, .int z.1), (3, .int z.2)] [] SH mem → J X E 5 4 [(0, .ref (eb E + p)), (1, .ref (eb E + o1)), (2, .int b2), (3, .int b3)] [] SH mem := by
  intro n
  induction n with
  | zero =>
    intro b2 b3 z h hk; cases h
  | succ n ih =>
    intro b2 b3 z h hk
    rw [f_H_differsFrom_L4] at h
    refine j_iload_n S D_H_differsFrom_4 3 rfl rfl ?_
    refine j_aload_n S D_H_differsFrom_5 0 rfl rfl ?_
    refine j_getI S D_H_differsFrom_6 fl_R1_15 (sh_sht hp) rfl ?_
    refine j_icmp_ge S D_H_differsFrom_9 (fun c_9 => ?_) (fun c_9 => ?_)
    · have h := ifT c_9 h
      cases h
      exact j_locals [0, 1, 2, 3] rfl hk
    · have h := ifF c_9 h
      refine j_aload_n S D_H_differsFrom_12 0 rfl rfl ?_
      refine j_iload_n S D_H_differsFrom_13 3 rfl rfl ?_
      obtain ⟨r_14, e_14, h⟩ := bpE h
      refine j_callVI (As := [.int b3]) S D_H_differsFrom_14 mv_R1_29 (c_H_hasNumber (cxL X) E p hp b3 e_14) (by decide) (sh_sht hp) rfl rfl rfl rfl (Nat.le_of_ble_eq_true rfl) ?_
      refine j_if_eq S D_H_differsFrom_17 (fun c_17 => ?_) (fun c_17 => ?_)
      · have h := ifT c_17 h
        refine j_iinc S D_H_differsFrom_50 3 rfl (congrArg (fun z => b3 + z) ci_1) (lv := [(3, .int (b3 + 1)), (0, .ref (eb E + p)), (1, .ref (eb E + o1)), (2, .int b2)]) rfl (Nat.le_of_ble_eq_true rfl) ?_
        refine j_goto S D_H_differsFrom_53 ?_
        refine j_locals [1, 2, 3, 0] rfl (ih b2 (b3 + 1) _ h hk)
      · have h := ifF c_17 h
        refine j_iload_n S D_H_differsFrom_20 3 rfl rfl ?_
        refine j_aload_n S D_H_differsFrom_21 1 rfl rfl ?_
        refine j_alen S D_H_differsFrom_22 ho1 cn_6 ?_
        refine j_icmp_ge S D_H_differsFrom_23 (fun c_23 => ?_) (fun c_23 => ?_)
        · have h := ifT c_23 h
          refine j_iconst S D_H_differsFrom_32 ci_0 ?_
          refine j_istore S D_H_differsFrom_33 (lv := [(4, .int 0), (0, .ref (eb E + p)), (1, .ref (eb E + o1)), (2, .int b2), (3, .int b3)]) rfl (Nat.le_of_ble_eq_true rfl) ?_
          refine j_iload_n S D_H_differsFrom_35 3 rfl rfl ?_
          refine j_iload S D_H_differsFrom_36 0 rfl ?_
          refine j_aload_n S D_H_differsFrom_38 1 rfl rfl ?_
          refine j_getR S D_H_differsFrom_39 fl_R1_18 (sh_sht hp) rfl ?_
          refine j_iload_n S D_H_differsFrom_42 4 rfl rfl ?_
          obtain ⟨g_43, h⟩ := gdE h
          refine j_iald S D_H_differsFrom_43 (sh_sht1 hp) g_43 ?_
          refine j_isub S D_H_differsFrom_44 ?_
          refine j_mabs S D_H_differsFrom_45 (by decide) mm_R1_33 (Nat.le_of_ble_eq_true rfl) ?_
          refine j_iadd S D_H_differsFrom_48 ?_
          obtain ⟨x_49, hx_49, h⟩ := ltE h
          refine j_nm hx_49 ?_
          refine j_istore_n S D_H_differsFrom_49 (lv := [(2, .int x_49), (4, .int 0), (0, .ref (eb E + p)), (1, .ref (eb E + o1)), (3, .int b3)]) rfl ⟨rfl, (Nat.le_of_ble_eq_true rfl)⟩ ?_
          refine j_iinc S D_H_differsFrom_50 4 rfl (congrArg (fun z => b3 + z) ci_1) (lv := [(3, .int (b3 + 1)), (2, .int x_49), (4, .int 0), (0, .ref (eb E + p)), (1, .ref (eb E + o1))]) rfl (Nat.le_of_ble_eq_true rfl) ?_
          refine j_goto S D_H_differsFrom_53 ?_
          refine j_locals [3, 4, 1, 0] rfl (ih x_49 (b3 + 1) _ h hk)
        · have h := ifF c_23 h
          refine j_aload_n S D_H_differsFrom_26 1 rfl rfl ?_
          refine j_iload_n S D_H_differsFrom_27 3 rfl rfl ?_
          obtain ⟨g_28, h⟩ := gdE h
          refine j_iald S D_H_differsFrom_28 ho1 g_28 ?_
          refine j_goto S D_H_differsFrom_29 ?_
          obtain ⟨x_33, hx_33, h⟩ := ltE h
          refine j_nm hx_33 ?_
          refine j_istore S D_H_differsFrom_33 (lv := [(4, .int x_33), (0, .ref (eb E + p)), (1, .ref (eb E + o1)), (2, .int b2), (3, .int b3)]) rfl (Nat.le_of_ble_eq_true rfl) ?_
          refine j_iload_n S D_H_differsFrom_35 3 rfl rfl ?_
          refine j_iload S D_H_differsFrom_36 0 rfl ?_
          refine j_aload_n S D_H_differsFrom_38 1 rfl rfl ?_
          refine j_getR S D_H_differsFrom_39 fl_R1_18 (sh_sht hp) rfl ?_
          refine j_iload_n S D_H_differsFrom_42 4 rfl rfl ?_
          obtain ⟨g_43, h⟩ := gdE h
          refine j_iald S D_H_differsFrom_43 (sh_sht1 hp) g_43 ?_
          refine j_isub S D_H_differsFrom_44 ?_
          refine j_mabs S D_H_differsFrom_45 (by decide) mm_R1_33 (Nat.le_of_ble_eq_true rfl) ?_
          refine j_iadd S D_H_differsFrom_48 ?_
          obtain ⟨x_49, hx_49, h⟩ := ltE h
          refine j_nm hx_49 ?_
          refine j_istore_n S D_H_differsFrom_49 (lv := [(2, .int x_49), (4, .int x_33), (0, .ref (eb E + p)), (1, .ref (eb E + o1)), (3, .int b3)]) rfl ⟨rfl, (Nat.le_of_ble_eq_true rfl)⟩ ?_
          refine j_iinc S D_H_differsFrom_50 4 rfl (congrArg (fun z => b3 + z) ci_1) (lv := [(3, .int (b3 + 1)), (2, .int x_49), (4, .int x_33), (0, .ref (eb E + p)), (1, .ref (eb E + o1))]) rfl (Nat.le_of_ble_eq_true rfl) ?_
          refine j_goto S D_H_differsFrom_53 ?_
          refine j_locals [3, 4, 1, 0] rfl (ih x_49 (b3 + 1) _ h hk)
theorem c_H_differsFrom (l : Launch) (E : En) (N : Nat) (p : Nat) (hp : isSht p) (o1 : Nat) (ho1 : SH[o1]? = some (.inr (.inl (0, 6)))) {mem : Mm} {r : Int32} (h : f_H_differsFrom N p o1 mem = some r) : CtI l E 1 y_H_differsFrom prog_4_method_6_code 5 (some .int) [.ref (eb E + p), .ref (eb E + o1)] SH mem r mem := by
  refine mk_CtI ⟨by decide, (Nat.le_of_ble_eq_true rfl)⟩ (fun X S hl hR => ?_)
  have S : Std X E prog_4_method_6_code R1 5 1 := S
  show J X E 5 0 [(0, .ref (eb E + p)), (1, .ref (eb E + o1))] [] SH mem
  unfold f_H_differsFrom at h
  refine j_iconst S D_H_differsFrom_0 ci_0 ?_
  refine j_istore_n S D_H_differsFrom_1 (lv := [(2, .int 0), (0, .ref (eb E + p)), (1, .ref (eb E + o1))]) rfl ⟨rfl, (Nat.le_of_ble_eq_true rfl)⟩ ?_
  refine j_iconst S D_H_differsFrom_2 ci_0 ?_
  refine j_istore_n S D_H_differsFrom_3 (lv := [(3, .int 0), (2, .int 0), (0, .ref (eb E + p)), (1, .ref (eb E + o1))]) rfl ⟨rfl, (Nat.le_of_ble_eq_true rfl)⟩ ?_
  refine j_locals [2, 3, 1, 0] rfl ?_
  obtain ⟨y_4, e_4, h⟩ := bpE h
  refine L_H_differsFrom_4 S p hp o1 ho1 N 0 0 _ e_4 ?_
  refine j_iload_n S D_H_differsFrom_56 2 rfl rfl ?_
  exact rtI hR h _ _ D_H_differsFrom_57

def y_X_leaf : MethodName := ⟨"SandPicture$Text", "leaf", "(IIII)I"⟩
theorem D_X_leaf_0 : decode prog_7_method_8_code 0 = .ok (.iload_n 0, 1) ∧ 0 + 1 = 1 := by decide +kernel
theorem D_X_leaf_1 : decode prog_7_method_8_code 1 = .ok (.ifCond .lt 5, 3) ∧ ((1 : Nat) : Int) + 5 = ((6 : Nat) : Int) ∧ 1 + 3 = 4 := by decide +kernel
theorem D_X_leaf_6 : decode prog_7_method_8_code 6 = .ok (.iload_n 0, 1) ∧ 6 + 1 = 7 := by decide +kernel
theorem D_X_leaf_7 : decode prog_7_method_8_code 7 = .ok (.iconst (-1), 1) ∧ 7 + 1 = 8 := by decide +kernel
theorem D_X_leaf_15 : decode prog_7_method_8_code 15 = .ok (.iload_n 0, 1) ∧ 15 + 1 = 16 := by decide +kernel
theorem D_X_leaf_16 : decode prog_7_method_8_code 16 = .ok (.bipush (-3), 2) ∧ 16 + 2 = 18 := by decide +kernel
theorem D_X_leaf_25 : decode prog_7_method_8_code 25 = .ok (.iload_n 2, 1) ∧ 25 + 1 = 26 := by decide +kernel
theorem D_X_leaf_21 : decode prog_7_method_8_code 21 = .ok (.iload_n 3, 1) ∧ 21 + 1 = 22 := by decide +kernel
theorem D_X_leaf_22 : decode prog_7_method_8_code 22 = .ok (.goto 4, 3) ∧ ((22 : Nat) : Int) + 4 = ((26 : Nat) : Int) := by decide +kernel
theorem D_X_leaf_18 : decode prog_7_method_8_code 18 = .ok (.if_icmp .ne 7, 3) ∧ ((18 : Nat) : Int) + 7 = ((25 : Nat) : Int) ∧ 18 + 3 = 21 := by decide +kernel
theorem D_X_leaf_11 : decode prog_7_method_8_code 11 = .ok (.iload_n 1, 1) ∧ 11 + 1 = 12 := by decide +kernel
theorem D_X_leaf_12 : decode prog_7_method_8_code 12 = .ok (.goto 14, 3) ∧ ((12 : Nat) : Int) + 14 = ((26 : Nat) : Int) := by decide +kernel
theorem D_X_leaf_8 : decode prog_7_method_8_code 8 = .ok (.if_icmp .ne 7, 3) ∧ ((8 : Nat) : Int) + 7 = ((15 : Nat) : Int) ∧ 8 + 3 = 11 := by decide +kernel
theorem D_X_leaf_26 : decode prog_7_method_8_code 26 = .ok (.ireturn, 1) := by decide +kernel
theorem D_X_leaf_4 : decode prog_7_method_8_code 4 = .ok (.iload_n 0, 1) ∧ 4 + 1 = 5 := by decide +kernel
theorem D_X_leaf_5 : decode prog_7_method_8_code 5 = .ok (.ireturn, 1) := by decide +kernel
def f_X_leaf (a1 : Int32) (a2 : Int32) (a3 : Int32) (a4 : Int32) : Option (Int32) := if a1 < 0 then some (if a1 = (-1) then a2 else if a1 = (-3) then a4 else a3) else some a1
theorem c_X_leaf (l : Launch) (E : En) (a1 : Int32) (a2 : Int32) (a3 : Int32) (a4 : Int32) {mem : Mm} {r : Int32} (h : f_X_leaf a1 a2 a3 a4 = some r) : CtI l E 0 y_X_leaf prog_7_method_8_code 4 (some .int) [.int a1, .int a2, .int a3, .int a4] SH mem r mem := by
  refine mk_CtI ⟨by decide, (Nat.le_of_ble_eq_true rfl)⟩ (fun X S hl hR => ?_)
  have S : Std X E prog_7_method_8_code R4 4 0 := S
  show J X E 4 0 [(0, .int a1), (1, .int a2), (2, .int a3), (3, .int a4)] [] SH mem
  unfold f_X_leaf at h
  refine j_iload_n S D_X_leaf_0 0 rfl rfl ?_
  refine j_if_lt S D_X_leaf_1 (fun c_1 => ?_) (fun c_1 => ?_)
  · have h := ifT c_1 h
    refine j_iload_n S D_X_leaf_6 0 rfl rfl ?_
    refine j_iconst S D_X_leaf_7 ci_m1 ?_
    refine j_dia (P := J X E 4 26 [(0, .int a1), (1, .int a2), (2, .int a3), (3, .int a4)] [.int (if a1 = (-1) then a2 else if a1 = (-3) then a4 else a3)] SH mem) (fun hj => ?_) ?_
    · refine j_icmp_ne S D_X_leaf_8 (fun c_8 => ?_) (fun c_8 => ?_)
      · refine j_iload_n S D_X_leaf_15 0 rfl rfl ?_
        refine j_bipush S D_X_leaf_16 cb_m3 ?_
        refine j_dia (P := J X E 4 26 [(0, .int a1), (1, .int a2), (2, .int a3), (3, .int a4)] [.int (if a1 = (-3) then a4 else a3)] SH mem) (fun hj => ?_) ?_
        · refine j_icmp_ne S D_X_leaf_18 (fun c_18 => ?_) (fun c_18 => ?_)
          · refine j_iload_n S D_X_leaf_25 2 rfl rfl ?_
            exact j_jnF hj c_18
          · refine j_iload_n S D_X_leaf_21 3 rfl rfl ?_
            refine j_goto S D_X_leaf_22 ?_
            exact j_jnT hj c_18
        exact j_jnF hj c_8
      · refine j_iload_n S D_X_leaf_11 1 rfl rfl ?_
        refine j_goto S D_X_leaf_12 ?_
        exact j_jnT hj c_8
    exact rtI hR h _ _ D_X_leaf_26
  · have h := ifF c_1 h
    refine j_iload_n S D_X_leaf_4 0 rfl rfl ?_
    exact rtI hR h _ _ D_X_leaf_5

def y_X_joined : MethodName := ⟨"SandPicture$Text", "joined", "(III)I"⟩
theorem D_X_joined_0 : decode prog_7_method_9_code 0 = .ok (.iload_n 0, 1) ∧ 0 + 1 = 1 := by decide +kernel
theorem D_X_joined_1 : decode prog_7_method_9_code 1 = .ok (.lookupswitch 148 #[(38, 89), (42, 144), (43, 136), (45, 140), (60, 103), (61, 114), (62, 125), (124, 75)], 75) := by decide +kernel
theorem D_X_joined_90 : decode prog_7_method_9_code 90 = .ok (.iload_n 1, 1) ∧ 90 + 1 = 91 := by decide +kernel
theorem D_X_joined_102 : decode prog_7_method_9_code 102 = .ok (.iconst 0, 1) ∧ 102 + 1 = 103 := by decide +kernel
theorem D_X_joined_94 : decode prog_7_method_9_code 94 = .ok (.iload_n 2, 1) ∧ 94 + 1 = 95 := by decide +kernel
theorem D_X_joined_98 : decode prog_7_method_9_code 98 = .ok (.iconst 1, 1) ∧ 98 + 1 = 99 := by decide +kernel
theorem D_X_joined_99 : decode prog_7_method_9_code 99 = .ok (.goto 4, 3) ∧ ((99 : Nat) : Int) + 4 = ((103 : Nat) : Int) := by decide +kernel
theorem D_X_joined_95 : decode prog_7_method_9_code 95 = .ok (.ifCond .eq 7, 3) ∧ ((95 : Nat) : Int) + 7 = ((102 : Nat) : Int) ∧ 95 + 3 = 98 := by decide +kernel
theorem D_X_joined_91 : decode prog_7_method_9_code 91 = .ok (.ifCond .eq 11, 3) ∧ ((91 : Nat) : Int) + 11 = ((102 : Nat) : Int) ∧ 91 + 3 = 94 := by decide +kernel
theorem D_X_joined_103 : decode prog_7_method_9_code 103 = .ok (.ireturn, 1) := by decide +kernel
theorem D_X_joined_145 : decode prog_7_method_9_code 145 = .ok (.iload_n 1, 1) ∧ 145 + 1 = 146 := by decide +kernel
theorem D_X_joined_146 : decode prog_7_method_9_code 146 = .ok (.iload_n 2, 1) ∧ 146 + 1 = 147 := by decide +kernel
theorem D_X_joined_147 : decode prog_7_method_9_code 147 = .ok (.imul, 1) ∧ 147 + 1 = 148 := by decide +kernel
theorem D_X_joined_148 : decode prog_7_method_9_code 148 = .ok (.ireturn, 1) := by decide +kernel
theorem D_X_joined_137 : decode prog_7_method_9_code 137 = .ok (.iload_n 1, 1) ∧ 137 + 1 = 138 := by decide +kernel
theorem D_X_joined_138 : decode prog_7_method_9_code 138 = .ok (.iload_n 2, 1) ∧ 138 + 1 = 139 := by decide +kernel
theorem D_X_joined_139 : decode prog_7_method_9_code 139 = .ok (.iadd, 1) ∧ 139 + 1 = 140 := by decide +kernel
theorem D_X_joined_140 : decode prog_7_method_9_code 140 = .ok (.ireturn, 1) := by decide +kernel
theorem D_X_joined_141 : decode prog_7_method_9_code 141 = .ok (.iload_n 1, 1) ∧ 141 + 1 = 142 := by decide +kernel
theorem D_X_joined_142 : decode prog_7_method_9_code 142 = .ok (.iload_n 2, 1) ∧ 142 + 1 = 143 := by decide +kernel
theorem D_X_joined_143 : decode prog_7_method_9_code 143 = .ok (.isub, 1) ∧ 143 + 1 = 144 := by decide +kernel
theorem D_X_joined_144 : decode prog_7_method_9_code 144 = .ok (.ireturn, 1) := by decide +kernel
theorem D_X_joined_104 : decode prog_7_method_9_code 104 = .ok (.iload_n 1, 1) ∧ 104 + 1 = 105 := by decide +kernel
theorem D_X_joined_105 : decode prog_7_method_9_code 105 = .ok (.iload_n 2, 1) ∧ 105 + 1 = 106 := by decide +kernel
theorem D_X_joined_113 : decode prog_7_method_9_code 113 = .ok (.iconst 0, 1) ∧ 113 + 1 = 114 := by decide +kernel
theorem D_X_joined_109 : decode prog_7_method_9_code 109 = .ok (.iconst 1, 1) ∧ 109 + 1 = 110 := by decide +kernel
theorem D_X_joined_110 : decode prog_7_method_9_code 110 = .ok (.goto 4, 3) ∧ ((110 : Nat) : Int) + 4 = ((114 : Nat) : Int) := by decide +kernel
theorem D_X_joined_106 : decode prog_7_method_9_code 106 = .ok (.if_icmp .ge 7, 3) ∧ ((106 : Nat) : Int) + 7 = ((113 : Nat) : Int) ∧ 106 + 3 = 109 := by decide +kernel
theorem D_X_joined_114 : decode prog_7_method_9_code 114 = .ok (.ireturn, 1) := by decide +kernel
theorem D_X_joined_115 : decode prog_7_method_9_code 115 = .ok (.iload_n 1, 1) ∧ 115 + 1 = 116 := by decide +kernel
theorem D_X_joined_116 : decode prog_7_method_9_code 116 = .ok (.iload_n 2, 1) ∧ 116 + 1 = 117 := by decide +kernel
theorem D_X_joined_124 : decode prog_7_method_9_code 124 = .ok (.iconst 0, 1) ∧ 124 + 1 = 125 := by decide +kernel
theorem D_X_joined_120 : decode prog_7_method_9_code 120 = .ok (.iconst 1, 1) ∧ 120 + 1 = 121 := by decide +kernel
theorem D_X_joined_121 : decode prog_7_method_9_code 121 = .ok (.goto 4, 3) ∧ ((121 : Nat) : Int) + 4 = ((125 : Nat) : Int) := by decide +kernel
theorem D_X_joined_117 : decode prog_7_method_9_code 117 = .ok (.if_icmp .ne 7, 3) ∧ ((117 : Nat) : Int) + 7 = ((124 : Nat) : Int) ∧ 117 + 3 = 120 := by decide +kernel
theorem D_X_joined_125 : decode prog_7_method_9_code 125 = .ok (.ireturn, 1) := by decide +kernel
theorem D_X_joined_126 : decode prog_7_method_9_code 126 = .ok (.iload_n 1, 1) ∧ 126 + 1 = 127 := by decide +kernel
theorem D_X_joined_127 : decode prog_7_method_9_code 127 = .ok (.iload_n 2, 1) ∧ 127 + 1 = 128 := by decide +kernel
theorem D_X_joined_135 : decode prog_7_method_9_code 135 = .ok (.iconst 0, 1) ∧ 135 + 1 = 136 := by decide +kernel
theorem D_X_joined_131 : decode prog_7_method_9_code 131 = .ok (.iconst 1, 1) ∧ 131 + 1 = 132 := by decide +kernel
theorem D_X_joined_132 : decode prog_7_method_9_code 132 = .ok (.goto 4, 3) ∧ ((132 : Nat) : Int) + 4 = ((136 : Nat) : Int) := by decide +kernel
theorem D_X_joined_128 : decode prog_7_method_9_code 128 = .ok (.if_icmp .le 7, 3) ∧ ((128 : Nat) : Int) + 7 = ((135 : Nat) : Int) ∧ 128 + 3 = 131 := by decide +kernel
theorem D_X_joined_136 : decode prog_7_method_9_code 136 = .ok (.ireturn, 1) := by decide +kernel
theorem D_X_joined_76 : decode prog_7_method_9_code 76 = .ok (.iload_n 1, 1) ∧ 76 + 1 = 77 := by decide +kernel
theorem D_X_joined_84 : decode prog_7_method_9_code 84 = .ok (.iconst 1, 1) ∧ 84 + 1 = 85 := by decide +kernel
theorem D_X_joined_85 : decode prog_7_method_9_code 85 = .ok (.goto 4, 3) ∧ ((85 : Nat) : Int) + 4 = ((89 : Nat) : Int) := by decide +kernel
theorem D_X_joined_80 : decode prog_7_method_9_code 80 = .ok (.iload_n 2, 1) ∧ 80 + 1 = 81 := by decide +kernel
theorem D_X_joined_88 : decode prog_7_method_9_code 88 = .ok (.iconst 0, 1) ∧ 88 + 1 = 89 := by decide +kernel
theorem D_X_joined_81 : decode prog_7_method_9_code 81 = .ok (.ifCond .eq 7, 3) ∧ ((81 : Nat) : Int) + 7 = ((88 : Nat) : Int) ∧ 81 + 3 = 84 := by decide +kernel
theorem D_X_joined_77 : decode prog_7_method_9_code 77 = .ok (.ifCond .ne 7, 3) ∧ ((77 : Nat) : Int) + 7 = ((84 : Nat) : Int) ∧ 77 + 3 = 80 := by decide +kernel
theorem D_X_joined_89 : decode prog_7_method_9_code 89 = .ok (.ireturn, 1) := by decide +kernel
theorem D_X_joined_149 : decode prog_7_method_9_code 149 = .ok (.iload_n 2, 1) ∧ 149 + 1 = 150 := by decide +kernel
theorem D_X_joined_150 : decode prog_7_method_9_code 150 = .ok (.ifCond .ne 7, 3) ∧ ((150 : Nat) : Int) + 7 = ((157 : Nat) : Int) ∧ 150 + 3 = 153 := by decide +kernel
theorem D_X_joined_157 : decode prog_7_method_9_code 157 = .ok (.iload_n 1, 1) ∧ 157 + 1 = 158 := by decide +kernel
theorem D_X_joined_158 : decode prog_7_method_9_code 158 = .ok (.iload_n 2, 1) ∧ 158 + 1 = 159 := by decide +kernel
theorem D_X_joined_159 : decode prog_7_method_9_code 159 = .ok (.idiv, 1) ∧ 159 + 1 = 160 := by decide +kernel
theorem D_X_joined_160 : decode prog_7_method_9_code 160 = .ok (.ireturn, 1) := by decide +kernel
theorem D_X_joined_153 : decode prog_7_method_9_code 153 = .ok (.iconst 0, 1) ∧ 153 + 1 = 154 := by decide +kernel
theorem D_X_joined_154 : decode prog_7_method_9_code 154 = .ok (.goto 6, 3) ∧ ((154 : Nat) : Int) + 6 = ((160 : Nat) : Int) := by decide +kernel
def f_X_joined (a1 : Int32) (a2 : Int32) (a3 : Int32) : Option (Int32) := if a1 = 38 then some (if a2 = 0 then (0 : Int32) else if a3 = 0 then (0 : Int32) else 1) else if a1 = 42 then some (a2 * a3) else if a1 = 43 then some (a2 + a3) else if a1 = 45 then some (a2 - a3) else if a1 = 60 then some (if a3 ≤ a2 then (0 : Int32) else 1) else if a1 = 61 then some (if a2 = a3 then (1 : Int32) else 0) else if a1 = 62 then some (if a2 ≤ a3 then (0 : Int32) else 1) else if a1 = 124 then some (if a2 = 0 then if a3 = 0 then (0 : Int32) else 1 else 1) else if a3 = 0 then some 0 else some (a2 / a3)
theorem c_X_joined (l : Launch) (E : En) (a1 : Int32) (a2 : Int32) (a3 : Int32) {mem : Mm} {r : Int32} (h : f_X_joined a1 a2 a3 = some r) : CtI l E 0 y_X_joined prog_7_method_9_code 3 (some .int) [.int a1, .int a2, .int a3] SH mem r mem := by
  refine mk_CtI ⟨by decide, (Nat.le_of_ble_eq_true rfl)⟩ (fun X S hl hR => ?_)
  have S : Std X E prog_7_method_9_code R4 3 0 := S
  show J X E 3 0 [(0, .int a1), (1, .int a2), (2, .int a3)] [] SH mem
  unfold f_X_joined at h
  refine j_iload_n S D_X_joined_0 0 rfl rfl ?_
  by_cases c_1_0 : a1 = 38
  · have h := ifT c_1_0 h
    refine j_lookE (tg := 90) (off := 89) S D_X_joined_1 38 c_1_0 (by decide +kernel) ?_
    refine j_iload_n S D_X_joined_90 1 rfl rfl ?_
    refine j_dia (P := J X E 3 103 [(0, .int a1), (1, .int a2), (2, .int a3)] [.int (if a2 = 0 then (0 : Int32) else if a3 = 0 then (0 : Int32) else 1)] SH mem) (fun hj => ?_) ?_
    · refine j_if_eq S D_X_joined_91 (fun c_91 => ?_) (fun c_91 => ?_)
      · refine j_iconst S D_X_joined_102 ci_0 ?_
        exact j_jnT hj c_91
      · refine j_iload_n S D_X_joined_94 2 rfl rfl ?_
        refine j_dia (P := J X E 3 103 [(0, .int a1), (1, .int a2), (2, .int a3)] [.int (if a3 = 0 then (0 : Int32) else 1)] SH mem) (fun hj => ?_) ?_
        · refine j_if_eq S D_X_joined_95 (fun c_95 => ?_) (fun c_95 => ?_)
          · refine j_iconst S D_X_joined_102 ci_0 ?_
            exact j_jnT hj c_95
          · refine j_iconst S D_X_joined_98 ci_1 ?_
            refine j_goto S D_X_joined_99 ?_
            exact j_jnF hj c_95
        exact j_jnF hj c_91
    exact rtI hR h _ _ D_X_joined_103
  · have h := ifF c_1_0 h
    by_cases c_1_1 : a1 = 42
    · have h := ifT c_1_1 h
      refine j_lookE (tg := 145) (off := 144) S D_X_joined_1 42 c_1_1 (by decide +kernel) ?_
      refine j_iload_n S D_X_joined_145 1 rfl rfl ?_
      refine j_iload_n S D_X_joined_146 2 rfl rfl ?_
      refine j_imul S D_X_joined_147 ?_
      exact rtI hR h _ _ D_X_joined_148
    · have h := ifF c_1_1 h
      by_cases c_1_2 : a1 = 43
      · have h := ifT c_1_2 h
        refine j_lookE (tg := 137) (off := 136) S D_X_joined_1 43 c_1_2 (by decide +kernel) ?_
        refine j_iload_n S D_X_joined_137 1 rfl rfl ?_
        refine j_iload_n S D_X_joined_138 2 rfl rfl ?_
        refine j_iadd S D_X_joined_139 ?_
        exact rtI hR h _ _ D_X_joined_140
      · have h := ifF c_1_2 h
        by_cases c_1_3 : a1 = 45
        · have h := ifT c_1_3 h
          refine j_lookE (tg := 141) (off := 140) S D_X_joined_1 45 c_1_3 (by decide +kernel) ?_
          refine j_iload_n S D_X_joined_141 1 rfl rfl ?_
          refine j_iload_n S D_X_joined_142 2 rfl rfl ?_
          refine j_isub S D_X_joined_143 ?_
          exact rtI hR h _ _ D_X_joined_144
        · have h := ifF c_1_3 h
          by_cases c_1_4 : a1 = 60
          · have h := ifT c_1_4 h
            refine j_lookE (tg := 104) (off := 103) S D_X_joined_1 60 c_1_4 (by decide +kernel) ?_
            refine j_iload_n S D_X_joined_104 1 rfl rfl ?_
            refine j_iload_n S D_X_joined_105 2 rfl rfl ?_
            refine j_dia (P := J X E 3 114 [(0, .int a1), (1, .int a2), (2, .int a3)] [.int (if a3 ≤ a2 then (0 : Int32) else 1)] SH mem) (fun hj => ?_) ?_
            · refine j_icmp_ge S D_X_joined_106 (fun c_106 => ?_) (fun c_106 => ?_)
              · refine j_iconst S D_X_joined_113 ci_0 ?_
                exact j_jnT hj c_106
              · refine j_iconst S D_X_joined_109 ci_1 ?_
                refine j_goto S D_X_joined_110 ?_
                exact j_jnF hj c_106
            exact rtI hR h _ _ D_X_joined_114
          · have h := ifF c_1_4 h
            by_cases c_1_5 : a1 = 61
            · have h := ifT c_1_5 h
              refine j_lookE (tg := 115) (off := 114) S D_X_joined_1 61 c_1_5 (by decide +kernel) ?_
              refine j_iload_n S D_X_joined_115 1 rfl rfl ?_
              refine j_iload_n S D_X_joined_116 2 rfl rfl ?_
              refine j_dia (P := J X E 3 125 [(0, .int a1), (1, .int a2), (2, .int a3)] [.int (if a2 = a3 then (1 : Int32) else 0)] SH mem) (fun hj => ?_) ?_
              · refine j_icmp_ne S D_X_joined_117 (fun c_117 => ?_) (fun c_117 => ?_)
                · refine j_iconst S D_X_joined_124 ci_0 ?_
                  exact j_jnF hj c_117
                · refine j_iconst S D_X_joined_120 ci_1 ?_
                  refine j_goto S D_X_joined_121 ?_
                  exact j_jnT hj c_117
              exact rtI hR h _ _ D_X_joined_125
            · have h := ifF c_1_5 h
              by_cases c_1_6 : a1 = 62
              · have h := ifT c_1_6 h
                refine j_lookE (tg := 126) (off := 125) S D_X_joined_1 62 c_1_6 (by decide +kernel) ?_
                refine j_iload_n S D_X_joined_126 1 rfl rfl ?_
                refine j_iload_n S D_X_joined_127 2 rfl rfl ?_
                refine j_dia (P := J X E 3 136 [(0, .int a1), (1, .int a2), (2, .int a3)] [.int (if a2 ≤ a3 then (0 : Int32) else 1)] SH mem) (fun hj => ?_) ?_
                · refine j_icmp_le S D_X_joined_128 (fun c_128 => ?_) (fun c_128 => ?_)
                  · refine j_iconst S D_X_joined_135 ci_0 ?_
                    exact j_jnT hj c_128
                  · refine j_iconst S D_X_joined_131 ci_1 ?_
                    refine j_goto S D_X_joined_132 ?_
                    exact j_jnF hj c_128
                exact rtI hR h _ _ D_X_joined_136
              · have h := ifF c_1_6 h
                by_cases c_1_7 : a1 = 124
                · have h := ifT c_1_7 h
                  refine j_lookE (tg := 76) (off := 75) S D_X_joined_1 124 c_1_7 (by decide +kernel) ?_
                  refine j_iload_n S D_X_joined_76 1 rfl rfl ?_
                  refine j_dia (P := J X E 3 89 [(0, .int a1), (1, .int a2), (2, .int a3)] [.int (if a2 = 0 then if a3 = 0 then (0 : Int32) else 1 else 1)] SH mem) (fun hj => ?_) ?_
                  · refine j_if_ne S D_X_joined_77 (fun c_77 => ?_) (fun c_77 => ?_)
                    · refine j_iconst S D_X_joined_84 ci_1 ?_
                      refine j_goto S D_X_joined_85 ?_
                      exact j_jnF hj c_77
                    · refine j_iload_n S D_X_joined_80 2 rfl rfl ?_
                      refine j_dia (P := J X E 3 89 [(0, .int a1), (1, .int a2), (2, .int a3)] [.int (if a3 = 0 then (0 : Int32) else 1)] SH mem) (fun hj => ?_) ?_
                      · refine j_if_eq S D_X_joined_81 (fun c_81 => ?_) (fun c_81 => ?_)
                        · refine j_iconst S D_X_joined_88 ci_0 ?_
                          exact j_jnT hj c_81
                        · refine j_iconst S D_X_joined_84 ci_1 ?_
                          refine j_goto S D_X_joined_85 ?_
                          exact j_jnF hj c_81
                      exact j_jnT hj c_77
                  exact rtI hR h _ _ D_X_joined_89
                · have h := ifF c_1_7 h
                  refine j_look (tg := 149) S D_X_joined_1 (by decide +kernel) (by show Op.lookupswitch.offset [(38, 89), (42, 144), (43, 136), (45, 140), (60, 103), (61, 114), (62, 125), (124, 75)] 148 (a1 : Int32).toInt = 148; rw [lv_osw c_1_0 (by decide +kernel), lv_osw c_1_1 (by decide +kernel), lv_osw c_1_2 (by decide +kernel), lv_osw c_1_3 (by decide +kernel), lv_osw c_1_4 (by decide +kernel), lv_osw c_1_5 (by decide +kernel), lv_osw c_1_6 (by decide +kernel), lv_osw c_1_7 (by decide +kernel)]; rfl) rfl ?_
                  refine j_iload_n S D_X_joined_149 2 rfl rfl ?_
                  refine j_if_ne S D_X_joined_150 (fun c_150 => ?_) (fun c_150 => ?_)
                  · have h := ifF c_150 h
                    refine j_iload_n S D_X_joined_157 1 rfl rfl ?_
                    refine j_iload_n S D_X_joined_158 2 rfl rfl ?_
                    refine j_idiv S D_X_joined_159 c_150 ?_
                    exact rtI hR h _ _ D_X_joined_160
                  · have h := ifT c_150 h
                    refine j_iconst S D_X_joined_153 ci_0 ?_
                    refine j_goto S D_X_joined_154 ?_
                    exact rtI hR h _ _ D_X_joined_160

def y_X_worksOut : MethodName := ⟨"SandPicture$Text", "worksOut", "(III[I)I"⟩
theorem D_X_worksOut_0 : decode prog_7_method_7_code 0 = .ok (.iconst 0, 1) ∧ 0 + 1 = 1 := by decide +kernel
theorem D_X_worksOut_1 : decode prog_7_method_7_code 1 = .ok (.istore 5, 2) ∧ 1 + 2 = 3 := by decide +kernel
theorem D_X_worksOut_3 : decode prog_7_method_7_code 3 = .ok (.iconst 0, 1) ∧ 3 + 1 = 4 := by decide +kernel
theorem D_X_worksOut_4 : decode prog_7_method_7_code 4 = .ok (.istore 6, 2) ∧ 4 + 2 = 6 := by decide +kernel
theorem D_X_worksOut_6 : decode prog_7_method_7_code 6 = .ok (.iload 6, 2) ∧ 6 + 2 = 8 := by decide +kernel
theorem D_X_worksOut_8 : decode prog_7_method_7_code 8 = .ok (.aload_n 0, 1) ∧ 8 + 1 = 9 := by decide +kernel
theorem D_X_worksOut_9 : decode prog_7_method_7_code 9 = .ok (.getfield 18, 3) ∧ 9 + 3 = 12 := by decide +kernel
theorem D_X_worksOut_12 : decode prog_7_method_7_code 12 = .ok (.if_icmp .ge 124, 3) ∧ ((12 : Nat) : Int) + 124 = ((136 : Nat) : Int) ∧ 12 + 3 = 15 := by decide +kernel
theorem D_X_worksOut_15 : decode prog_7_method_7_code 15 = .ok (.aload_n 0, 1) ∧ 15 + 1 = 16 := by decide +kernel
theorem D_X_worksOut_16 : decode prog_7_method_7_code 16 = .ok (.getfield 21, 3) ∧ 16 + 3 = 19 := by decide +kernel
theorem D_X_worksOut_19 : decode prog_7_method_7_code 19 = .ok (.iload 6, 2) ∧ 19 + 2 = 21 := by decide +kernel
theorem D_X_worksOut_21 : decode prog_7_method_7_code 21 = .ok (.iaload, 1) ∧ 21 + 1 = 22 := by decide +kernel
theorem D_X_worksOut_22 : decode prog_7_method_7_code 22 = .ok (.istore 7, 2) ∧ 22 + 2 = 24 := by decide +kernel
theorem D_X_worksOut_24 : decode prog_7_method_7_code 24 = .ok (.iload 7, 2) ∧ 24 + 2 = 26 := by decide +kernel
theorem D_X_worksOut_26 : decode prog_7_method_7_code 26 = .ok (.bipush (-3), 2) ∧ 26 + 2 = 28 := by decide +kernel
theorem D_X_worksOut_28 : decode prog_7_method_7_code 28 = .ok (.if_icmp .lt 30, 3) ∧ ((28 : Nat) : Int) + 30 = ((58 : Nat) : Int) ∧ 28 + 3 = 31 := by decide +kernel
theorem D_X_worksOut_58 : decode prog_7_method_7_code 58 = .ok (.iload 7, 2) ∧ 58 + 2 = 60 := by decide +kernel
theorem D_X_worksOut_60 : decode prog_7_method_7_code 60 = .ok (.bipush (-33), 2) ∧ 60 + 2 = 62 := by decide +kernel
theorem D_X_worksOut_62 : decode prog_7_method_7_code 62 = .ok (.if_icmp .ne 34, 3) ∧ ((62 : Nat) : Int) + 34 = ((96 : Nat) : Int) ∧ 62 + 3 = 65 := by decide +kernel
theorem D_X_worksOut_96 : decode prog_7_method_7_code 96 = .ok (.iload 5, 2) ∧ 96 + 2 = 98 := by decide +kernel
theorem D_X_worksOut_98 : decode prog_7_method_7_code 98 = .ok (.iconst 2, 1) ∧ 98 + 1 = 99 := by decide +kernel
theorem D_X_worksOut_99 : decode prog_7_method_7_code 99 = .ok (.if_icmp .lt 31, 3) ∧ ((99 : Nat) : Int) + 31 = ((130 : Nat) : Int) ∧ 99 + 3 = 102 := by decide +kernel
theorem D_X_worksOut_130 : decode prog_7_method_7_code 130 = .ok (.iinc 6 1, 3) ∧ 130 + 3 = 133 := by decide +kernel
theorem D_X_worksOut_133 : decode prog_7_method_7_code 133 = .ok (.goto (-127), 3) ∧ ((133 : Nat) : Int) + (-127) = ((6 : Nat) : Int) := by decide +kernel
theorem D_X_worksOut_102 : decode prog_7_method_7_code 102 = .ok (.iinc 5 (-1), 3) ∧ 102 + 3 = 105 := by decide +kernel
theorem D_X_worksOut_105 : decode prog_7_method_7_code 105 = .ok (.aload 4, 2) ∧ 105 + 2 = 107 := by decide +kernel
theorem D_X_worksOut_107 : decode prog_7_method_7_code 107 = .ok (.iload 5, 2) ∧ 107 + 2 = 109 := by decide +kernel
theorem D_X_worksOut_109 : decode prog_7_method_7_code 109 = .ok (.iconst 1, 1) ∧ 109 + 1 = 110 := by decide +kernel
theorem D_X_worksOut_110 : decode prog_7_method_7_code 110 = .ok (.isub, 1) ∧ 110 + 1 = 111 := by decide +kernel
theorem D_X_worksOut_111 : decode prog_7_method_7_code 111 = .ok (.iload 7, 2) ∧ 111 + 2 = 113 := by decide +kernel
theorem D_X_worksOut_113 : decode prog_7_method_7_code 113 = .ok (.ineg, 1) ∧ 113 + 1 = 114 := by decide +kernel
theorem D_X_worksOut_114 : decode prog_7_method_7_code 114 = .ok (.aload 4, 2) ∧ 114 + 2 = 116 := by decide +kernel
theorem D_X_worksOut_116 : decode prog_7_method_7_code 116 = .ok (.iload 5, 2) ∧ 116 + 2 = 118 := by decide +kernel
theorem D_X_worksOut_118 : decode prog_7_method_7_code 118 = .ok (.iconst 1, 1) ∧ 118 + 1 = 119 := by decide +kernel
theorem D_X_worksOut_119 : decode prog_7_method_7_code 119 = .ok (.isub, 1) ∧ 119 + 1 = 120 := by decide +kernel
theorem D_X_worksOut_120 : decode prog_7_method_7_code 120 = .ok (.iaload, 1) ∧ 120 + 1 = 121 := by decide +kernel
theorem D_X_worksOut_121 : decode prog_7_method_7_code 121 = .ok (.aload 4, 2) ∧ 121 + 2 = 123 := by decide +kernel
theorem D_X_worksOut_123 : decode prog_7_method_7_code 123 = .ok (.iload 5, 2) ∧ 123 + 2 = 125 := by decide +kernel
theorem D_X_worksOut_125 : decode prog_7_method_7_code 125 = .ok (.iaload, 1) ∧ 125 + 1 = 126 := by decide +kernel
theorem D_X_worksOut_126 : decode prog_7_method_7_code 126 = .ok (.invokestatic 33, 3) ∧ 126 + 3 = 129 := by decide +kernel
theorem D_X_worksOut_129 : decode prog_7_method_7_code 129 = .ok (.iastore, 1) ∧ 129 + 1 = 130 := by decide +kernel
theorem D_X_worksOut_65 : decode prog_7_method_7_code 65 = .ok (.iload 5, 2) ∧ 65 + 2 = 67 := by decide +kernel
theorem D_X_worksOut_67 : decode prog_7_method_7_code 67 = .ok (.iconst 1, 1) ∧ 67 + 1 = 68 := by decide +kernel
theorem D_X_worksOut_68 : decode prog_7_method_7_code 68 = .ok (.if_icmp .lt 62, 3) ∧ ((68 : Nat) : Int) + 62 = ((130 : Nat) : Int) ∧ 68 + 3 = 71 := by decide +kernel
theorem D_X_worksOut_71 : decode prog_7_method_7_code 71 = .ok (.aload 4, 2) ∧ 71 + 2 = 73 := by decide +kernel
theorem D_X_worksOut_73 : decode prog_7_method_7_code 73 = .ok (.iload 5, 2) ∧ 73 + 2 = 75 := by decide +kernel
theorem D_X_worksOut_75 : decode prog_7_method_7_code 75 = .ok (.iconst 1, 1) ∧ 75 + 1 = 76 := by decide +kernel
theorem D_X_worksOut_76 : decode prog_7_method_7_code 76 = .ok (.isub, 1) ∧ 76 + 1 = 77 := by decide +kernel
theorem D_X_worksOut_77 : decode prog_7_method_7_code 77 = .ok (.aload 4, 2) ∧ 77 + 2 = 79 := by decide +kernel
theorem D_X_worksOut_79 : decode prog_7_method_7_code 79 = .ok (.iload 5, 2) ∧ 79 + 2 = 81 := by decide +kernel
theorem D_X_worksOut_81 : decode prog_7_method_7_code 81 = .ok (.iconst 1, 1) ∧ 81 + 1 = 82 := by decide +kernel
theorem D_X_worksOut_82 : decode prog_7_method_7_code 82 = .ok (.isub, 1) ∧ 82 + 1 = 83 := by decide +kernel
theorem D_X_worksOut_83 : decode prog_7_method_7_code 83 = .ok (.iaload, 1) ∧ 83 + 1 = 84 := by decide +kernel
theorem D_X_worksOut_91 : decode prog_7_method_7_code 91 = .ok (.iconst 0, 1) ∧ 91 + 1 = 92 := by decide +kernel
theorem D_X_worksOut_87 : decode prog_7_method_7_code 87 = .ok (.iconst 1, 1) ∧ 87 + 1 = 88 := by decide +kernel
theorem D_X_worksOut_88 : decode prog_7_method_7_code 88 = .ok (.goto 4, 3) ∧ ((88 : Nat) : Int) + 4 = ((92 : Nat) : Int) := by decide +kernel
theorem D_X_worksOut_84 : decode prog_7_method_7_code 84 = .ok (.ifCond .ne 7, 3) ∧ ((84 : Nat) : Int) + 7 = ((91 : Nat) : Int) ∧ 84 + 3 = 87 := by decide +kernel
theorem D_X_worksOut_92 : decode prog_7_method_7_code 92 = .ok (.iastore, 1) ∧ 92 + 1 = 93 := by decide +kernel
theorem D_X_worksOut_93 : decode prog_7_method_7_code 93 = .ok (.goto 37, 3) ∧ ((93 : Nat) : Int) + 37 = ((130 : Nat) : Int) := by decide +kernel
theorem D_X_worksOut_31 : decode prog_7_method_7_code 31 = .ok (.iload 5, 2) ∧ 31 + 2 = 33 := by decide +kernel
theorem D_X_worksOut_33 : decode prog_7_method_7_code 33 = .ok (.aload 4, 2) ∧ 33 + 2 = 35 := by decide +kernel
theorem D_X_worksOut_35 : decode prog_7_method_7_code 35 = .ok (.arraylength, 1) ∧ 35 + 1 = 36 := by decide +kernel
theorem D_X_worksOut_36 : decode prog_7_method_7_code 36 = .ok (.if_icmp .ge 94, 3) ∧ ((36 : Nat) : Int) + 94 = ((130 : Nat) : Int) ∧ 36 + 3 = 39 := by decide +kernel
theorem D_X_worksOut_39 : decode prog_7_method_7_code 39 = .ok (.aload 4, 2) ∧ 39 + 2 = 41 := by decide +kernel
theorem D_X_worksOut_41 : decode prog_7_method_7_code 41 = .ok (.iload 5, 2) ∧ 41 + 2 = 43 := by decide +kernel
theorem D_X_worksOut_43 : decode prog_7_method_7_code 43 = .ok (.iload 7, 2) ∧ 43 + 2 = 45 := by decide +kernel
theorem D_X_worksOut_45 : decode prog_7_method_7_code 45 = .ok (.iload_n 1, 1) ∧ 45 + 1 = 46 := by decide +kernel
theorem D_X_worksOut_46 : decode prog_7_method_7_code 46 = .ok (.iload_n 2, 1) ∧ 46 + 1 = 47 := by decide +kernel
theorem D_X_worksOut_47 : decode prog_7_method_7_code 47 = .ok (.iload_n 3, 1) ∧ 47 + 1 = 48 := by decide +kernel
theorem D_X_worksOut_48 : decode prog_7_method_7_code 48 = .ok (.invokestatic 29, 3) ∧ 48 + 3 = 51 := by decide +kernel
theorem D_X_worksOut_51 : decode prog_7_method_7_code 51 = .ok (.iastore, 1) ∧ 51 + 1 = 52 := by decide +kernel
theorem D_X_worksOut_52 : decode prog_7_method_7_code 52 = .ok (.iinc 5 1, 3) ∧ 52 + 3 = 55 := by decide +kernel
theorem D_X_worksOut_55 : decode prog_7_method_7_code 55 = .ok (.goto 75, 3) ∧ ((55 : Nat) : Int) + 75 = ((130 : Nat) : Int) := by decide +kernel
theorem D_X_worksOut_136 : decode prog_7_method_7_code 136 = .ok (.iload 5, 2) ∧ 136 + 2 = 138 := by decide +kernel
theorem D_X_worksOut_148 : decode prog_7_method_7_code 148 = .ok (.iconst 0, 1) ∧ 148 + 1 = 149 := by decide +kernel
theorem D_X_worksOut_141 : decode prog_7_method_7_code 141 = .ok (.aload 4, 2) ∧ 141 + 2 = 143 := by decide +kernel
theorem D_X_worksOut_143 : decode prog_7_method_7_code 143 = .ok (.iconst 0, 1) ∧ 143 + 1 = 144 := by decide +kernel
theorem D_X_worksOut_144 : decode prog_7_method_7_code 144 = .ok (.iaload, 1) ∧ 144 + 1 = 145 := by decide +kernel
theorem D_X_worksOut_145 : decode prog_7_method_7_code 145 = .ok (.goto 4, 3) ∧ ((145 : Nat) : Int) + 4 = ((149 : Nat) : Int) := by decide +kernel
theorem D_X_worksOut_138 : decode prog_7_method_7_code 138 = .ok (.ifCond .le 10, 3) ∧ ((138 : Nat) : Int) + 10 = ((148 : Nat) : Int) ∧ 138 + 3 = 141 := by decide +kernel
theorem D_X_worksOut_149 : decode prog_7_method_7_code 149 = .ok (.ireturn, 1) := by decide +kernel
def f_X_worksOut_L6 (p : Nat) : Nat → Int32 → Int32 → Int32 → Int32 → Int32 → Mm → Option ((Int32 × Int32) × Mm)
  | 0, _, _, _, _, _, _ => none
  | n + 1, b1, b2, b3, b5, b6, mem => if mem p 2 ≤ b6 then some ((b5, b6), mem) else if inb b6 96 = true then lt (mem (p + 1) (ix b6)) fun x_22 => if x_22 < (-3) then if x_22 = (-33) then if b5 < 1 then f_X_worksOut_L6 p n b1 b2 b3 b5 (b6 + 1) mem else if inb (b5 - 1) 96 = true then lt (mst mem 37 (ix (b5 - 1)) (if mem 37 (ix (b5 - 1)) = 0 then (1 : Int32) else 0)) fun m_92 => f_X_worksOut_L6 p n b1 b2 b3 b5 (b6 + 1) m_92 else none else if b5 < 2 then f_X_worksOut_L6 p n b1 b2 b3 b5 (b6 + 1) mem else if inb ((b5 + (-1)) - 1) 96 = true then if inb (b5 + (-1)) 96 = true then bp (f_X_joined (-x_22) (mem 37 (ix ((b5 + (-1)) - 1))) (mem 37 (ix (b5 + (-1))))) fun r_126 => lt (mst mem 37 (ix ((b5 + (-1)) - 1)) r_126) fun m_129 => f_X_worksOut_L6 p n b1 b2 b3 (b5 + (-1)) (b6 + 1) m_129 else none else none else if 96 ≤ b5 then f_X_worksOut_L6 p n b1 b2 b3 b5 (b6 + 1) mem else bp (f_X_leaf x_22 b1 b2 b3) fun r_48 => if inb b5 96 = true then lt (mst mem 37 (ix b5) r_48) fun m_51 => f_X_worksOut_L6 p n b1 b2 b3 (b5 + 1) (b6 + 1) m_51 else none else none
def f_X_worksOut (N : Nat) (p : Nat) (a1 : Int32) (a2 : Int32) (a3 : Int32) (mem : Mm) : Option (Int32 × Mm) := bd (f_X_worksOut_L6 p N a1 a2 a3 0 0 mem) fun y_6 m_6 => some (if y_6.1 ≤ 0 then (0 : Int32) else m_6 37 (ix 0), m_6)
theorem L_X_worksOut_6 {X : Cx} {E : En} (S : Std X E prog_7_method_7_code R4 8 1) (p : Nat) (hp : isTxt p) : ∀ (n : Nat) (b1 : Int32) (b2 : Int32) (b3 : Int32) (b5 : Int32) (b6 : Int32) (mem : Mm) (z : Int32 × Int32) (m2 : Mm), f_X_worksOut_L6 p n b1 b2 b3 b5 b6 mem = some (z, m2) → J X E 8 136 [(0, .ref (eb E + p)), (1, .int b1), (2, .int b2), (3, .int b3), (4, .ref (eb E + 37)), (5, .int z.1), (6, .int z.2)] [] SH m2 → J X E 8 6 [(0, .ref (eb E + p)), (1, .int b1), (2, .int b2), (3, .int b3), (4, .ref (eb E + 37)), (5, .int b5), (6, .int b6)] [] SH mem := by
  intro n
  induction n with
  | zero =>
    intro b1 b2 b3 b5 b6 mem z m2 h hk; cases h
  | succ n ih =>
    intro b1 b2 b3 b5 b6 mem z m2 h hk
    rw [f_X_worksOut_L6] at h
    refine j_iload S D_X_worksOut_6 6 rfl ?_
    refine j_aload_n S D_X_worksOut_8 0 rfl rfl ?_
    refine j_getI S D_X_worksOut_9 fl_R4_18 (sh_txt hp) rfl ?_
    refine j_icmp_ge S D_X_worksOut_12 (fun c_12 => ?_) (fun c_12 => ?_)
    · have h := ifT c_12 h
      cases h
      exact j_locals [0, 1, 2, 3, 4, 5, 6] rfl hk
    · have h := ifF c_12 h
      refine j_aload_n S D_X_worksOut_15 0 rfl rfl ?_
      refine j_getR S D_X_worksOut_16 fl_R4_21 (sh_txt hp) rfl ?_
      refine j_iload S D_X_worksOut_19 6 rfl ?_
      obtain ⟨g_21, h⟩ := gdE h
      refine j_iald S D_X_worksOut_21 (sh_txt1 hp) g_21 ?_
      obtain ⟨x_22, hx_22, h⟩ := ltE h
      refine j_nm hx_22 ?_
      refine j_istore S D_X_worksOut_22 (lv := [(7, .int x_22), (0, .ref (eb E + p)), (1, .int b1), (2, .int b2), (3, .int b3), (4, .ref (eb E + 37)), (5, .int b5), (6, .int b6)]) rfl (Nat.le_of_ble_eq_true rfl) ?_
      refine j_iload S D_X_worksOut_24 0 rfl ?_
      refine j_bipush S D_X_worksOut_26 cb_m3 ?_
      refine j_icmp_lt S D_X_worksOut_28 (fun c_28 => ?_) (fun c_28 => ?_)
      · have h := ifT c_28 h
        refine j_iload S D_X_worksOut_58 0 rfl ?_
        refine j_bipush S D_X_worksOut_60 cb_m33 ?_
        refine j_icmp_ne S D_X_worksOut_62 (fun c_62 => ?_) (fun c_62 => ?_)
        · have h := ifF c_62 h
          refine j_iload S D_X_worksOut_96 6 rfl ?_
          refine j_iconst S D_X_worksOut_98 ci_2 ?_
          refine j_icmp_lt S D_X_worksOut_99 (fun c_99 => ?_) (fun c_99 => ?_)
          · have h := ifT c_99 h
            refine j_iinc S D_X_worksOut_130 7 rfl (congrArg (fun z => b6 + z) ci_1) (lv := [(6, .int (b6 + 1)), (7, .int x_22), (0, .ref (eb E + p)), (1, .int b1), (2, .int b2), (3, .int b3), (4, .ref (eb E + 37)), (5, .int b5)]) rfl (Nat.le_of_ble_eq_true rfl) ?_
            refine j_goto S D_X_worksOut_133 ?_
            refine j_locals [2, 3, 4, 5, 6, 7, 0] rfl (ih b1 b2 b3 b5 (b6 + 1) mem _ _ h hk)
          · have h := ifF c_99 h
            refine j_iinc S D_X_worksOut_102 6 rfl (congrArg (fun z => b5 + z) ci_m1) (lv := [(5, .int (b5 + (-1))), (7, .int x_22), (0, .ref (eb E + p)), (1, .int b1), (2, .int b2), (3, .int b3), (4, .ref (eb E + 37)), (6, .int b6)]) rfl (Nat.le_of_ble_eq_true rfl) ?_
            refine j_aload S D_X_worksOut_105 6 rfl ?_
            refine j_iload S D_X_worksOut_107 0 rfl ?_
            refine j_iconst S D_X_worksOut_109 ci_1 ?_
            refine j_isub S D_X_worksOut_110 ?_
            refine j_iload S D_X_worksOut_111 1 rfl ?_
            refine j_ineg S D_X_worksOut_113 ?_
            refine j_aload S D_X_worksOut_114 6 rfl ?_
            refine j_iload S D_X_worksOut_116 0 rfl ?_
            refine j_iconst S D_X_worksOut_118 ci_1 ?_
            refine j_isub S D_X_worksOut_119 ?_
            obtain ⟨g_120, h⟩ := gdE h
            refine j_iald S D_X_worksOut_120 sh_37 g_120 ?_
            refine j_aload S D_X_worksOut_121 6 rfl ?_
            refine j_iload S D_X_worksOut_123 0 rfl ?_
            obtain ⟨g_125, h⟩ := gdE h
            refine j_iald S D_X_worksOut_125 sh_37 g_125 ?_
            obtain ⟨r_126, e_126, h⟩ := bpE h
            refine j_callSI (As := [.int (-x_22), .int (mem 37 (ix ((b5 + (-1)) - 1))), .int (mem 37 (ix (b5 + (-1))))]) S D_X_worksOut_126 ms_R4_33 (c_X_joined (cxL X) E (-x_22) (mem 37 (ix ((b5 + (-1)) - 1))) (mem 37 (ix (b5 + (-1)))) (mem := mem) e_126) (by decide) rfl rfl (Nat.le_of_ble_eq_true rfl) ?_
            obtain ⟨m_129, hm_129, h⟩ := ltE h
            refine j_iast S D_X_worksOut_129 sh_37 g_120 ?_
            refine j_mem hm_129 ?_
            refine j_iinc S D_X_worksOut_130 7 rfl (congrArg (fun z => b6 + z) ci_1) (lv := [(6, .int (b6 + 1)), (5, .int (b5 + (-1))), (7, .int x_22), (0, .ref (eb E + p)), (1, .int b1), (2, .int b2), (3, .int b3), (4, .ref (eb E + 37))]) rfl (Nat.le_of_ble_eq_true rfl) ?_
            refine j_goto S D_X_worksOut_133 ?_
            refine j_locals [3, 4, 5, 6, 7, 1, 0] rfl (ih b1 b2 b3 (b5 + (-1)) (b6 + 1) m_129 _ _ h hk)
        · have h := ifT c_62 h
          refine j_iload S D_X_worksOut_65 6 rfl ?_
          refine j_iconst S D_X_worksOut_67 ci_1 ?_
          refine j_icmp_lt S D_X_worksOut_68 (fun c_68 => ?_) (fun c_68 => ?_)
          · have h := ifT c_68 h
            refine j_iinc S D_X_worksOut_130 7 rfl (congrArg (fun z => b6 + z) ci_1) (lv := [(6, .int (b6 + 1)), (7, .int x_22), (0, .ref (eb E + p)), (1, .int b1), (2, .int b2), (3, .int b3), (4, .ref (eb E + 37)), (5, .int b5)]) rfl (Nat.le_of_ble_eq_true rfl) ?_
            refine j_goto S D_X_worksOut_133 ?_
            refine j_locals [2, 3, 4, 5, 6, 7, 0] rfl (ih b1 b2 b3 b5 (b6 + 1) mem _ _ h hk)
          · have h := ifF c_68 h
            refine j_aload S D_X_worksOut_71 5 rfl ?_
            refine j_iload S D_X_worksOut_73 6 rfl ?_
            refine j_iconst S D_X_worksOut_75 ci_1 ?_
            refine j_isub S D_X_worksOut_76 ?_
            refine j_aload S D_X_worksOut_77 5 rfl ?_
            refine j_iload S D_X_worksOut_79 6 rfl ?_
            refine j_iconst S D_X_worksOut_81 ci_1 ?_
            refine j_isub S D_X_worksOut_82 ?_
            obtain ⟨g_83, h⟩ := gdE h
            refine j_iald S D_X_worksOut_83 sh_37 g_83 ?_
            refine j_dia (P := J X E 8 92 [(7, .int x_22), (0, .ref (eb E + p)), (1, .int b1), (2, .int b2), (3, .int b3), (4, .ref (eb E + 37)), (5, .int b5), (6, .int b6)] [.int (if mem 37 (ix (b5 - 1)) = 0 then (1 : Int32) else 0), .int (b5 - 1), .ref (eb E + 37)] SH mem) (fun hj => ?_) ?_
            · refine j_if_ne S D_X_worksOut_84 (fun c_84 => ?_) (fun c_84 => ?_)
              · refine j_iconst S D_X_worksOut_91 ci_0 ?_
                exact j_jnF hj c_84
              · refine j_iconst S D_X_worksOut_87 ci_1 ?_
                refine j_goto S D_X_worksOut_88 ?_
                exact j_jnT hj c_84
            obtain ⟨m_92, hm_92, h⟩ := ltE h
            refine j_iast S D_X_worksOut_92 sh_37 g_83 ?_
            refine j_mem hm_92 ?_
            refine j_goto S D_X_worksOut_93 ?_
            refine j_iinc S D_X_worksOut_130 7 rfl (congrArg (fun z => b6 + z) ci_1) (lv := [(6, .int (b6 + 1)), (7, .int x_22), (0, .ref (eb E + p)), (1, .int b1), (2, .int b2), (3, .int b3), (4, .ref (eb E + 37)), (5, .int b5)]) rfl (Nat.le_of_ble_eq_true rfl) ?_
            refine j_goto S D_X_worksOut_133 ?_
            refine j_locals [2, 3, 4, 5, 6, 7, 0] rfl (ih b1 b2 b3 b5 (b6 + 1) m_92 _ _ h hk)
      · have h := ifF c_28 h
        refine j_iload S D_X_worksOut_31 6 rfl ?_
        refine j_aload S D_X_worksOut_33 5 rfl ?_
        refine j_alen S D_X_worksOut_35 sh_37 cn_96 ?_
        refine j_icmp_ge S D_X_worksOut_36 (fun c_36 => ?_) (fun c_36 => ?_)
        · have h := ifT c_36 h
          refine j_iinc S D_X_worksOut_130 7 rfl (congrArg (fun z => b6 + z) ci_1) (lv := [(6, .int (b6 + 1)), (7, .int x_22), (0, .ref (eb E + p)), (1, .int b1), (2, .int b2), (3, .int b3), (4, .ref (eb E + 37)), (5, .int b5)]) rfl (Nat.le_of_ble_eq_true rfl) ?_
          refine j_goto S D_X_worksOut_133 ?_
          refine j_locals [2, 3, 4, 5, 6, 7, 0] rfl (ih b1 b2 b3 b5 (b6 + 1) mem _ _ h hk)
        · have h := ifF c_36 h
          refine j_aload S D_X_worksOut_39 5 rfl ?_
          refine j_iload S D_X_worksOut_41 6 rfl ?_
          refine j_iload S D_X_worksOut_43 0 rfl ?_
          refine j_iload_n S D_X_worksOut_45 2 rfl rfl ?_
          refine j_iload_n S D_X_worksOut_46 3 rfl rfl ?_
          refine j_iload_n S D_X_worksOut_47 4 rfl rfl ?_
          obtain ⟨r_48, e_48, h⟩ := bpE h
          refine j_callSI (As := [.int x_22, .int b1, .int b2, .int b3]) S D_X_worksOut_48 ms_R4_29 (c_X_leaf (cxL X) E x_22 b1 b2 b3 (mem := mem) e_48) (by decide) rfl rfl (Nat.le_of_ble_eq_true rfl) ?_
          obtain ⟨g_51, h⟩ := gdE h
          obtain ⟨m_51, hm_51, h⟩ := ltE h
          refine j_iast S D_X_worksOut_51 sh_37 g_51 ?_
          refine j_mem hm_51 ?_
          refine j_iinc S D_X_worksOut_52 6 rfl (congrArg (fun z => b5 + z) ci_1) (lv := [(5, .int (b5 + 1)), (7, .int x_22), (0, .ref (eb E + p)), (1, .int b1), (2, .int b2), (3, .int b3), (4, .ref (eb E + 37)), (6, .int b6)]) rfl (Nat.le_of_ble_eq_true rfl) ?_
          refine j_goto S D_X_worksOut_55 ?_
          refine j_iinc S D_X_worksOut_130 7 rfl (congrArg (fun z => b6 + z) ci_1) (lv := [(6, .int (b6 + 1)), (5, .int (b5 + 1)), (7, .int x_22), (0, .ref (eb E + p)), (1, .int b1), (2, .int b2), (3, .int b3), (4, .ref (eb E + 37))]) rfl (Nat.le_of_ble_eq_true rfl) ?_
          refine j_goto S D_X_worksOut_133 ?_
          refine j_locals [3, 4, 5, 6, 7, 1, 0] rfl (ih b1 b2 b3 (b5 + 1) (b6 + 1) m_51 _ _ h hk)
theorem c_X_worksOut (l : Launch) (E : En) (N : Nat) (p : Nat) (hp : isTxt p) (a1 : Int32) (a2 : Int32) (a3 : Int32) {mem : Mm} {r : Int32} {m2 : Mm} (h : f_X_worksOut N p a1 a2 a3 mem = some (r, m2)) : CtI l E 1 y_X_worksOut prog_7_method_7_code 8 (some .int) [.ref (eb E + p), .int a1, .int a2, .int a3, .ref (eb E + 37)] SH mem r m2 := by
  refine mk_CtI ⟨by decide, (Nat.le_of_ble_eq_true rfl)⟩ (fun X S hl hR => ?_)
  have S : Std X E prog_7_method_7_code R4 8 1 := S
  show J X E 8 0 [(0, .ref (eb E + p)), (1, .int a1), (2, .int a2), (3, .int a3), (4, .ref (eb E + 37))] [] SH mem
  unfold f_X_worksOut at h
  refine j_iconst S D_X_worksOut_0 ci_0 ?_
  refine j_istore S D_X_worksOut_1 (lv := [(5, .int 0), (0, .ref (eb E + p)), (1, .int a1), (2, .int a2), (3, .int a3), (4, .ref (eb E + 37))]) rfl (Nat.le_of_ble_eq_true rfl) ?_
  refine j_iconst S D_X_worksOut_3 ci_0 ?_
  refine j_istore S D_X_worksOut_4 (lv := [(6, .int 0), (5, .int 0), (0, .ref (eb E + p)), (1, .int a1), (2, .int a2), (3, .int a3), (4, .ref (eb E + 37))]) rfl (Nat.le_of_ble_eq_true rfl) ?_
  refine j_locals [2, 3, 4, 5, 6, 1, 0] rfl ?_
  obtain ⟨y_6, m_6, e_6, h⟩ := bdE h
  refine L_X_worksOut_6 S p hp N a1 a2 a3 0 0 mem _ _ e_6 ?_
  refine j_iload S D_X_worksOut_136 5 rfl ?_
  refine j_dia (P := J X E 8 149 [(0, .ref (eb E + p)), (1, .int a1), (2, .int a2), (3, .int a3), (4, .ref (eb E + 37)), (5, .int y_6.1), (6, .int y_6.2)] [.int (if y_6.1 ≤ 0 then (0 : Int32) else m_6 37 (ix 0))] SH m_6) (fun hj => ?_) ?_
  · refine j_if_le S D_X_worksOut_138 (fun c_138 => ?_) (fun c_138 => ?_)
    · refine j_iconst S D_X_worksOut_148 ci_0 ?_
      exact j_jnT hj c_138
    · refine j_aload S D_X_worksOut_141 4 rfl ?_
      refine j_iconst S D_X_worksOut_143 ci_0 ?_
      refine j_iald S D_X_worksOut_144 sh_37 inbc_0_96 ?_
      refine j_goto S D_X_worksOut_145 ?_
      exact j_jnF hj c_138
  exact rtM hR h _ _ D_X_worksOut_149

def y_X_addCode : MethodName := ⟨"SandPicture$Text", "addCode", "(I)V"⟩
theorem D_X_addCode_0 : decode prog_7_method_6_code 0 = .ok (.aload_n 0, 1) ∧ 0 + 1 = 1 := by decide +kernel
theorem D_X_addCode_1 : decode prog_7_method_6_code 1 = .ok (.getfield 18, 3) ∧ 1 + 3 = 4 := by decide +kernel
theorem D_X_addCode_4 : decode prog_7_method_6_code 4 = .ok (.aload_n 0, 1) ∧ 4 + 1 = 5 := by decide +kernel
theorem D_X_addCode_5 : decode prog_7_method_6_code 5 = .ok (.getfield 21, 3) ∧ 5 + 3 = 8 := by decide +kernel
theorem D_X_addCode_8 : decode prog_7_method_6_code 8 = .ok (.arraylength, 1) ∧ 8 + 1 = 9 := by decide +kernel
theorem D_X_addCode_9 : decode prog_7_method_6_code 9 = .ok (.if_icmp .ge 23, 3) ∧ ((9 : Nat) : Int) + 23 = ((32 : Nat) : Int) ∧ 9 + 3 = 12 := by decide +kernel
theorem D_X_addCode_32 : decode prog_7_method_6_code 32 = .ok (.return_, 1) := by decide +kernel
theorem D_X_addCode_12 : decode prog_7_method_6_code 12 = .ok (.aload_n 0, 1) ∧ 12 + 1 = 13 := by decide +kernel
theorem D_X_addCode_13 : decode prog_7_method_6_code 13 = .ok (.getfield 21, 3) ∧ 13 + 3 = 16 := by decide +kernel
theorem D_X_addCode_16 : decode prog_7_method_6_code 16 = .ok (.aload_n 0, 1) ∧ 16 + 1 = 17 := by decide +kernel
theorem D_X_addCode_17 : decode prog_7_method_6_code 17 = .ok (.getfield 18, 3) ∧ 17 + 3 = 20 := by decide +kernel
theorem D_X_addCode_20 : decode prog_7_method_6_code 20 = .ok (.iload_n 1, 1) ∧ 20 + 1 = 21 := by decide +kernel
theorem D_X_addCode_21 : decode prog_7_method_6_code 21 = .ok (.iastore, 1) ∧ 21 + 1 = 22 := by decide +kernel
theorem D_X_addCode_22 : decode prog_7_method_6_code 22 = .ok (.aload_n 0, 1) ∧ 22 + 1 = 23 := by decide +kernel
theorem D_X_addCode_23 : decode prog_7_method_6_code 23 = .ok (.dup, 1) ∧ 23 + 1 = 24 := by decide +kernel
theorem D_X_addCode_24 : decode prog_7_method_6_code 24 = .ok (.getfield 18, 3) ∧ 24 + 3 = 27 := by decide +kernel
theorem D_X_addCode_27 : decode prog_7_method_6_code 27 = .ok (.iconst 1, 1) ∧ 27 + 1 = 28 := by decide +kernel
theorem D_X_addCode_28 : decode prog_7_method_6_code 28 = .ok (.iadd, 1) ∧ 28 + 1 = 29 := by decide +kernel
theorem D_X_addCode_29 : decode prog_7_method_6_code 29 = .ok (.putfield 18, 3) ∧ 29 + 3 = 32 := by decide +kernel
def f_X_addCode (p : Nat) (a1 : Int32) (mem : Mm) : Option (Mm) := if 96 ≤ mem p 2 then some mem else if inb (mem p 2) 96 = true then lt (mst mem (p + 1) (ix (mem p 2)) a1) fun m_21 => lt (mst m_21 p 2 ((m_21 p 2) + 1)) fun m_29 => some m_29 else none
theorem c_X_addCode (l : Launch) (E : En) (p : Nat) (hp : isTxt p) (a1 : Int32) {mem : Mm} {m2 : Mm} (h : f_X_addCode p a1 mem = some m2) : CtV l E 0 y_X_addCode prog_7_method_6_code 2 [.ref (eb E + p), .int a1] SH mem m2 := by
  refine mk_CtV ⟨by decide, (Nat.le_of_ble_eq_true rfl)⟩ (fun X S hl hR => ?_)
  have S : Std X E prog_7_method_6_code R4 2 0 := S
  show J X E 2 0 [(0, .ref (eb E + p)), (1, .int a1)] [] SH mem
  unfold f_X_addCode at h
  refine j_aload_n S D_X_addCode_0 0 rfl rfl ?_
  refine j_getI S D_X_addCode_1 fl_R4_18 (sh_txt hp) rfl ?_
  refine j_aload_n S D_X_addCode_4 0 rfl rfl ?_
  refine j_getR S D_X_addCode_5 fl_R4_21 (sh_txt hp) rfl ?_
  refine j_alen S D_X_addCode_8 (sh_txt1 hp) cn_96 ?_
  refine j_icmp_ge S D_X_addCode_9 (fun c_9 => ?_) (fun c_9 => ?_)
  · have h := ifT c_9 h
    exact rtV hR h _ _ D_X_addCode_32
  · have h := ifF c_9 h
    refine j_aload_n S D_X_addCode_12 0 rfl rfl ?_
    refine j_getR S D_X_addCode_13 fl_R4_21 (sh_txt hp) rfl ?_
    refine j_aload_n S D_X_addCode_16 0 rfl rfl ?_
    refine j_getI S D_X_addCode_17 fl_R4_18 (sh_txt hp) rfl ?_
    refine j_iload_n S D_X_addCode_20 1 rfl rfl ?_
    obtain ⟨g_21, h⟩ := gdE h
    obtain ⟨m_21, hm_21, h⟩ := ltE h
    refine j_iast S D_X_addCode_21 (sh_txt1 hp) g_21 ?_
    refine j_mem hm_21 ?_
    refine j_aload_n S D_X_addCode_22 0 rfl rfl ?_
    refine j_dup S D_X_addCode_23 rfl ?_
    refine j_getI S D_X_addCode_24 fl_R4_18 (sh_txt hp) rfl ?_
    refine j_iconst S D_X_addCode_27 ci_1 ?_
    refine j_iadd S D_X_addCode_28 ?_
    obtain ⟨m_29, hm_29, h⟩ := ltE h
    refine j_putI S D_X_addCode_29 fp_R4_18 (sh_txt hp) rfl ?_
    refine j_mem hm_29 ?_
    exact rtV hR h _ _ D_X_addCode_32

def y_X_addNumber : MethodName := ⟨"SandPicture$Text", "addNumber", "(I)V"⟩
theorem D_X_addNumber_0 : decode prog_7_method_3_code 0 = .ok (.aload_n 0, 1) ∧ 0 + 1 = 1 := by decide +kernel
theorem D_X_addNumber_1 : decode prog_7_method_3_code 1 = .ok (.iload_n 1, 1) ∧ 1 + 1 = 2 := by decide +kernel
theorem D_X_addNumber_2 : decode prog_7_method_3_code 2 = .ok (.invokevirtual 25, 3) ∧ 2 + 3 = 5 := by decide +kernel
theorem D_X_addNumber_5 : decode prog_7_method_3_code 5 = .ok (.aload_n 0, 1) ∧ 5 + 1 = 6 := by decide +kernel
theorem D_X_addNumber_6 : decode prog_7_method_3_code 6 = .ok (.dup, 1) ∧ 6 + 1 = 7 := by decide +kernel
theorem D_X_addNumber_7 : decode prog_7_method_3_code 7 = .ok (.getfield 15, 3) ∧ 7 + 3 = 10 := by decide +kernel
theorem D_X_addNumber_10 : decode prog_7_method_3_code 10 = .ok (.iconst 1, 1) ∧ 10 + 1 = 11 := by decide +kernel
theorem D_X_addNumber_11 : decode prog_7_method_3_code 11 = .ok (.iadd, 1) ∧ 11 + 1 = 12 := by decide +kernel
theorem D_X_addNumber_12 : decode prog_7_method_3_code 12 = .ok (.putfield 15, 3) ∧ 12 + 3 = 15 := by decide +kernel
theorem D_X_addNumber_15 : decode prog_7_method_3_code 15 = .ok (.return_, 1) := by decide +kernel
def f_X_addNumber (p : Nat) (a1 : Int32) (mem : Mm) : Option (Mm) := bp (f_X_addCode p a1 mem) fun m_2 => lt (mst m_2 p 1 ((m_2 p 1) + 1)) fun m_12 => some m_12
theorem c_X_addNumber (l : Launch) (E : En) (p : Nat) (hp : isTxt p) (a1 : Int32) {mem : Mm} {m2 : Mm} (h : f_X_addNumber p a1 mem = some m2) : CtV l E 1 y_X_addNumber prog_7_method_3_code 2 [.ref (eb E + p), .int a1] SH mem m2 := by
  refine mk_CtV ⟨by decide, (Nat.le_of_ble_eq_true rfl)⟩ (fun X S hl hR => ?_)
  have S : Std X E prog_7_method_3_code R4 2 1 := S
  show J X E 2 0 [(0, .ref (eb E + p)), (1, .int a1)] [] SH mem
  unfold f_X_addNumber at h
  refine j_aload_n S D_X_addNumber_0 0 rfl rfl ?_
  refine j_iload_n S D_X_addNumber_1 1 rfl rfl ?_
  obtain ⟨m_2, e_2, h⟩ := bpE h
  refine j_callVV (As := [.int a1]) S D_X_addNumber_2 mv_R4_25 (c_X_addCode (cxL X) E p hp a1 e_2) (by decide) (sh_txt hp) rfl rfl rfl rfl (Nat.le_of_ble_eq_true rfl) ?_
  refine j_aload_n S D_X_addNumber_5 0 rfl rfl ?_
  refine j_dup S D_X_addNumber_6 rfl ?_
  refine j_getI S D_X_addNumber_7 fl_R4_15 (sh_txt hp) rfl ?_
  refine j_iconst S D_X_addNumber_10 ci_1 ?_
  refine j_iadd S D_X_addNumber_11 ?_
  obtain ⟨m_12, hm_12, h⟩ := ltE h
  refine j_putI S D_X_addNumber_12 fp_R4_15 (sh_txt hp) rfl ?_
  refine j_mem hm_12 ?_
  exact rtV hR h _ _ D_X_addNumber_15

def y_X_clear : MethodName := ⟨"SandPicture$Text", "clear", "()V"⟩
theorem D_X_clear_0 : decode prog_7_method_2_code 0 = .ok (.aload_n 0, 1) ∧ 0 + 1 = 1 := by decide +kernel
theorem D_X_clear_1 : decode prog_7_method_2_code 1 = .ok (.iconst 0, 1) ∧ 1 + 1 = 2 := by decide +kernel
theorem D_X_clear_2 : decode prog_7_method_2_code 2 = .ok (.putfield 18, 3) ∧ 2 + 3 = 5 := by decide +kernel
theorem D_X_clear_5 : decode prog_7_method_2_code 5 = .ok (.aload_n 0, 1) ∧ 5 + 1 = 6 := by decide +kernel
theorem D_X_clear_6 : decode prog_7_method_2_code 6 = .ok (.iconst 0, 1) ∧ 6 + 1 = 7 := by decide +kernel
theorem D_X_clear_7 : decode prog_7_method_2_code 7 = .ok (.putfield 15, 3) ∧ 7 + 3 = 10 := by decide +kernel
theorem D_X_clear_10 : decode prog_7_method_2_code 10 = .ok (.return_, 1) := by decide +kernel
def f_X_clear (p : Nat) (mem : Mm) : Option (Mm) := lt (mst mem p 2 0) fun m_2 => lt (mst m_2 p 1 0) fun m_7 => some m_7
theorem c_X_clear (l : Launch) (E : En) (p : Nat) (hp : isTxt p) {mem : Mm} {m2 : Mm} (h : f_X_clear p mem = some m2) : CtV l E 0 y_X_clear prog_7_method_2_code 1 [.ref (eb E + p)] SH mem m2 := by
  refine mk_CtV ⟨by decide, (Nat.le_of_ble_eq_true rfl)⟩ (fun X S hl hR => ?_)
  have S : Std X E prog_7_method_2_code R4 1 0 := S
  show J X E 1 0 [(0, .ref (eb E + p))] [] SH mem
  unfold f_X_clear at h
  refine j_aload_n S D_X_clear_0 0 rfl rfl ?_
  refine j_iconst S D_X_clear_1 ci_0 ?_
  obtain ⟨m_2, hm_2, h⟩ := ltE h
  refine j_putI S D_X_clear_2 fp_R4_18 (sh_txt hp) rfl ?_
  refine j_mem hm_2 ?_
  refine j_aload_n S D_X_clear_5 0 rfl rfl ?_
  refine j_iconst S D_X_clear_6 ci_0 ?_
  obtain ⟨m_7, hm_7, h⟩ := ltE h
  refine j_putI S D_X_clear_7 fp_R4_15 (sh_txt hp) rfl ?_
  refine j_mem hm_7 ?_
  exact rtV hR h _ _ D_X_clear_10

def y_X_addName : MethodName := ⟨"SandPicture$Text", "addName", "(I)V"⟩
theorem D_X_addName_0 : decode prog_7_method_4_code 0 = .ok (.aload_n 0, 1) ∧ 0 + 1 = 1 := by decide +kernel
theorem D_X_addName_1 : decode prog_7_method_4_code 1 = .ok (.iconst (-1), 1) ∧ 1 + 1 = 2 := by decide +kernel
theorem D_X_addName_2 : decode prog_7_method_4_code 2 = .ok (.iload_n 1, 1) ∧ 2 + 1 = 3 := by decide +kernel
theorem D_X_addName_3 : decode prog_7_method_4_code 3 = .ok (.isub, 1) ∧ 3 + 1 = 4 := by decide +kernel
theorem D_X_addName_4 : decode prog_7_method_4_code 4 = .ok (.invokevirtual 25, 3) ∧ 4 + 3 = 7 := by decide +kernel
theorem D_X_addName_7 : decode prog_7_method_4_code 7 = .ok (.aload_n 0, 1) ∧ 7 + 1 = 8 := by decide +kernel
theorem D_X_addName_8 : decode prog_7_method_4_code 8 = .ok (.dup, 1) ∧ 8 + 1 = 9 := by decide +kernel
theorem D_X_addName_9 : decode prog_7_method_4_code 9 = .ok (.getfield 15, 3) ∧ 9 + 3 = 12 := by decide +kernel
theorem D_X_addName_12 : decode prog_7_method_4_code 12 = .ok (.iconst 1, 1) ∧ 12 + 1 = 13 := by decide +kernel
theorem D_X_addName_13 : decode prog_7_method_4_code 13 = .ok (.iadd, 1) ∧ 13 + 1 = 14 := by decide +kernel
theorem D_X_addName_14 : decode prog_7_method_4_code 14 = .ok (.putfield 15, 3) ∧ 14 + 3 = 17 := by decide +kernel
theorem D_X_addName_17 : decode prog_7_method_4_code 17 = .ok (.return_, 1) := by decide +kernel
def f_X_addName (p : Nat) (a1 : Int32) (mem : Mm) : Option (Mm) := bp (f_X_addCode p ((-1) - a1) mem) fun m_4 => lt (mst m_4 p 1 ((m_4 p 1) + 1)) fun m_14 => some m_14
theorem c_X_addName (l : Launch) (E : En) (p : Nat) (hp : isTxt p) (a1 : Int32) {mem : Mm} {m2 : Mm} (h : f_X_addName p a1 mem = some m2) : CtV l E 1 y_X_addName prog_7_method_4_code 2 [.ref (eb E + p), .int a1] SH mem m2 := by
  refine mk_CtV ⟨by decide, (Nat.le_of_ble_eq_true rfl)⟩ (fun X S hl hR => ?_)
  have S : Std X E prog_7_method_4_code R4 2 1 := S
  show J X E 2 0 [(0, .ref (eb E + p)), (1, .int a1)] [] SH mem
  unfold f_X_addName at h
  refine j_aload_n S D_X_addName_0 0 rfl rfl ?_
  refine j_iconst S D_X_addName_1 ci_m1 ?_
  refine j_iload_n S D_X_addName_2 1 rfl rfl ?_
  refine j_isub S D_X_addName_3 ?_
  obtain ⟨m_4, e_4, h⟩ := bpE h
  refine j_callVV (As := [.int ((-1) - a1)]) S D_X_addName_4 mv_R4_25 (c_X_addCode (cxL X) E p hp ((-1) - a1) e_4) (by decide) (sh_txt hp) rfl rfl rfl rfl (Nat.le_of_ble_eq_true rfl) ?_
  refine j_aload_n S D_X_addName_7 0 rfl rfl ?_
  refine j_dup S D_X_addName_8 rfl ?_
  refine j_getI S D_X_addName_9 fl_R4_15 (sh_txt hp) rfl ?_
  refine j_iconst S D_X_addName_12 ci_1 ?_
  refine j_iadd S D_X_addName_13 ?_
  obtain ⟨m_14, hm_14, h⟩ := ltE h
  refine j_putI S D_X_addName_14 fp_R4_15 (sh_txt hp) rfl ?_
  refine j_mem hm_14 ?_
  exact rtV hR h _ _ D_X_addName_17

def y_X_addSign : MethodName := ⟨"SandPicture$Text", "addSign", "(I)V"⟩
theorem D_X_addSign_0 : decode prog_7_method_5_code 0 = .ok (.aload_n 0, 1) ∧ 0 + 1 = 1 := by decide +kernel
theorem D_X_addSign_1 : decode prog_7_method_5_code 1 = .ok (.iload_n 1, 1) ∧ 1 + 1 = 2 := by decide +kernel
theorem D_X_addSign_2 : decode prog_7_method_5_code 2 = .ok (.ineg, 1) ∧ 2 + 1 = 3 := by decide +kernel
theorem D_X_addSign_3 : decode prog_7_method_5_code 3 = .ok (.invokevirtual 25, 3) ∧ 3 + 3 = 6 := by decide +kernel
theorem D_X_addSign_6 : decode prog_7_method_5_code 6 = .ok (.return_, 1) := by decide +kernel
def f_X_addSign (p : Nat) (a1 : Int32) (mem : Mm) : Option (Mm) := bp (f_X_addCode p (-a1) mem) fun m_3 => some m_3
theorem c_X_addSign (l : Launch) (E : En) (p : Nat) (hp : isTxt p) (a1 : Int32) {mem : Mm} {m2 : Mm} (h : f_X_addSign p a1 mem = some m2) : CtV l E 1 y_X_addSign prog_7_method_5_code 2 [.ref (eb E + p), .int a1] SH mem m2 := by
  refine mk_CtV ⟨by decide, (Nat.le_of_ble_eq_true rfl)⟩ (fun X S hl hR => ?_)
  have S : Std X E prog_7_method_5_code R4 2 1 := S
  show J X E 2 0 [(0, .ref (eb E + p)), (1, .int a1)] [] SH mem
  unfold f_X_addSign at h
  refine j_aload_n S D_X_addSign_0 0 rfl rfl ?_
  refine j_iload_n S D_X_addSign_1 1 rfl rfl ?_
  refine j_ineg S D_X_addSign_2 ?_
  obtain ⟨m_3, e_3, h⟩ := bpE h
  refine j_callVV (As := [.int (-a1)]) S D_X_addSign_3 mv_R4_25 (c_X_addCode (cxL X) E p hp (-a1) e_3) (by decide) (sh_txt hp) rfl rfl rfl rfl (Nat.le_of_ble_eq_true rfl) ?_
  exact rtV hR h _ _ D_X_addSign_6
end
section
def y_P_become : MethodName := ⟨"SandPicture$Picture", "become", "(LSandPicture$Picture;)V"⟩
theorem D_P_become_0 : decode prog_3_method_2_code 0 = .ok (.aload_n 0, 1) ∧ 0 + 1 = 1 := by decide +kernel
theorem D_P_become_1 : decode prog_3_method_2_code 1 = .ok (.aload_n 1, 1) ∧ 1 + 1 = 2 := by decide +kernel
theorem D_P_become_2 : decode prog_3_method_2_code 2 = .ok (.getfield 9, 3) ∧ 2 + 3 = 5 := by decide +kernel
theorem D_P_become_5 : decode prog_3_method_2_code 5 = .ok (.putfield 9, 3) ∧ 5 + 3 = 8 := by decide +kernel
theorem D_P_become_8 : decode prog_3_method_2_code 8 = .ok (.aload_n 1, 1) ∧ 8 + 1 = 9 := by decide +kernel
theorem D_P_become_9 : decode prog_3_method_2_code 9 = .ok (.getfield 16, 3) ∧ 9 + 3 = 12 := by decide +kernel
theorem D_P_become_12 : decode prog_3_method_2_code 12 = .ok (.iconst 0, 1) ∧ 12 + 1 = 13 := by decide +kernel
theorem D_P_become_13 : decode prog_3_method_2_code 13 = .ok (.aload_n 0, 1) ∧ 13 + 1 = 14 := by decide +kernel
theorem D_P_become_14 : decode prog_3_method_2_code 14 = .ok (.getfield 16, 3) ∧ 14 + 3 = 17 := by decide +kernel
theorem D_P_become_17 : decode prog_3_method_2_code 17 = .ok (.iconst 0, 1) ∧ 17 + 1 = 18 := by decide +kernel
theorem D_P_become_18 : decode prog_3_method_2_code 18 = .ok (.iconst 3, 1) ∧ 18 + 1 = 19 := by decide +kernel
theorem D_P_become_19 : decode prog_3_method_2_code 19 = .ok (.invokestatic 72, 3) ∧ 19 + 3 = 22 := by decide +kernel
theorem D_P_become_22 : decode prog_3_method_2_code 22 = .ok (.aload_n 0, 1) ∧ 22 + 1 = 23 := by decide +kernel
theorem D_P_become_23 : decode prog_3_method_2_code 23 = .ok (.aload_n 1, 1) ∧ 23 + 1 = 24 := by decide +kernel
theorem D_P_become_24 : decode prog_3_method_2_code 24 = .ok (.getfield 20, 3) ∧ 24 + 3 = 27 := by decide +kernel
theorem D_P_become_27 : decode prog_3_method_2_code 27 = .ok (.putfield 20, 3) ∧ 27 + 3 = 30 := by decide +kernel
theorem D_P_become_30 : decode prog_3_method_2_code 30 = .ok (.aload_n 1, 1) ∧ 30 + 1 = 31 := by decide +kernel
theorem D_P_become_31 : decode prog_3_method_2_code 31 = .ok (.getfield 23, 3) ∧ 31 + 3 = 34 := by decide +kernel
theorem D_P_become_34 : decode prog_3_method_2_code 34 = .ok (.iconst 0, 1) ∧ 34 + 1 = 35 := by decide +kernel
theorem D_P_become_35 : decode prog_3_method_2_code 35 = .ok (.aload_n 0, 1) ∧ 35 + 1 = 36 := by decide +kernel
theorem D_P_become_36 : decode prog_3_method_2_code 36 = .ok (.getfield 23, 3) ∧ 36 + 3 = 39 := by decide +kernel
theorem D_P_become_39 : decode prog_3_method_2_code 39 = .ok (.iconst 0, 1) ∧ 39 + 1 = 40 := by decide +kernel
theorem D_P_become_40 : decode prog_3_method_2_code 40 = .ok (.bipush 10, 2) ∧ 40 + 2 = 42 := by decide +kernel
theorem D_P_become_42 : decode prog_3_method_2_code 42 = .ok (.invokestatic 72, 3) ∧ 42 + 3 = 45 := by decide +kernel
theorem D_P_become_45 : decode prog_3_method_2_code 45 = .ok (.aload_n 1, 1) ∧ 45 + 1 = 46 := by decide +kernel
theorem D_P_become_46 : decode prog_3_method_2_code 46 = .ok (.getfield 26, 3) ∧ 46 + 3 = 49 := by decide +kernel
theorem D_P_become_49 : decode prog_3_method_2_code 49 = .ok (.iconst 0, 1) ∧ 49 + 1 = 50 := by decide +kernel
theorem D_P_become_50 : decode prog_3_method_2_code 50 = .ok (.aload_n 0, 1) ∧ 50 + 1 = 51 := by decide +kernel
theorem D_P_become_51 : decode prog_3_method_2_code 51 = .ok (.getfield 26, 3) ∧ 51 + 3 = 54 := by decide +kernel
theorem D_P_become_54 : decode prog_3_method_2_code 54 = .ok (.iconst 0, 1) ∧ 54 + 1 = 55 := by decide +kernel
theorem D_P_become_55 : decode prog_3_method_2_code 55 = .ok (.bipush 10, 2) ∧ 55 + 2 = 57 := by decide +kernel
theorem D_P_become_57 : decode prog_3_method_2_code 57 = .ok (.invokestatic 72, 3) ∧ 57 + 3 = 60 := by decide +kernel
theorem D_P_become_60 : decode prog_3_method_2_code 60 = .ok (.aload_n 1, 1) ∧ 60 + 1 = 61 := by decide +kernel
theorem D_P_become_61 : decode prog_3_method_2_code 61 = .ok (.getfield 29, 3) ∧ 61 + 3 = 64 := by decide +kernel
theorem D_P_become_64 : decode prog_3_method_2_code 64 = .ok (.iconst 0, 1) ∧ 64 + 1 = 65 := by decide +kernel
theorem D_P_become_65 : decode prog_3_method_2_code 65 = .ok (.aload_n 0, 1) ∧ 65 + 1 = 66 := by decide +kernel
theorem D_P_become_66 : decode prog_3_method_2_code 66 = .ok (.getfield 29, 3) ∧ 66 + 3 = 69 := by decide +kernel
theorem D_P_become_69 : decode prog_3_method_2_code 69 = .ok (.iconst 0, 1) ∧ 69 + 1 = 70 := by decide +kernel
theorem D_P_become_70 : decode prog_3_method_2_code 70 = .ok (.bipush 10, 2) ∧ 70 + 2 = 72 := by decide +kernel
theorem D_P_become_72 : decode prog_3_method_2_code 72 = .ok (.invokestatic 72, 3) ∧ 72 + 3 = 75 := by decide +kernel
theorem D_P_become_75 : decode prog_3_method_2_code 75 = .ok (.aload_n 1, 1) ∧ 75 + 1 = 76 := by decide +kernel
theorem D_P_become_76 : decode prog_3_method_2_code 76 = .ok (.getfield 32, 3) ∧ 76 + 3 = 79 := by decide +kernel
theorem D_P_become_79 : decode prog_3_method_2_code 79 = .ok (.iconst 0, 1) ∧ 79 + 1 = 80 := by decide +kernel
theorem D_P_become_80 : decode prog_3_method_2_code 80 = .ok (.aload_n 0, 1) ∧ 80 + 1 = 81 := by decide +kernel
theorem D_P_become_81 : decode prog_3_method_2_code 81 = .ok (.getfield 32, 3) ∧ 81 + 3 = 84 := by decide +kernel
theorem D_P_become_84 : decode prog_3_method_2_code 84 = .ok (.iconst 0, 1) ∧ 84 + 1 = 85 := by decide +kernel
theorem D_P_become_85 : decode prog_3_method_2_code 85 = .ok (.bipush 6, 2) ∧ 85 + 2 = 87 := by decide +kernel
theorem D_P_become_87 : decode prog_3_method_2_code 87 = .ok (.invokestatic 72, 3) ∧ 87 + 3 = 90 := by decide +kernel
theorem D_P_become_90 : decode prog_3_method_2_code 90 = .ok (.aload_n 1, 1) ∧ 90 + 1 = 91 := by decide +kernel
theorem D_P_become_91 : decode prog_3_method_2_code 91 = .ok (.getfield 35, 3) ∧ 91 + 3 = 94 := by decide +kernel
theorem D_P_become_94 : decode prog_3_method_2_code 94 = .ok (.iconst 0, 1) ∧ 94 + 1 = 95 := by decide +kernel
theorem D_P_become_95 : decode prog_3_method_2_code 95 = .ok (.aload_n 0, 1) ∧ 95 + 1 = 96 := by decide +kernel
theorem D_P_become_96 : decode prog_3_method_2_code 96 = .ok (.getfield 35, 3) ∧ 96 + 3 = 99 := by decide +kernel
theorem D_P_become_99 : decode prog_3_method_2_code 99 = .ok (.iconst 0, 1) ∧ 99 + 1 = 100 := by decide +kernel
theorem D_P_become_100 : decode prog_3_method_2_code 100 = .ok (.bipush 6, 2) ∧ 100 + 2 = 102 := by decide +kernel
theorem D_P_become_102 : decode prog_3_method_2_code 102 = .ok (.invokestatic 72, 3) ∧ 102 + 3 = 105 := by decide +kernel
theorem D_P_become_105 : decode prog_3_method_2_code 105 = .ok (.aload_n 1, 1) ∧ 105 + 1 = 106 := by decide +kernel
theorem D_P_become_106 : decode prog_3_method_2_code 106 = .ok (.getfield 38, 3) ∧ 106 + 3 = 109 := by decide +kernel
theorem D_P_become_109 : decode prog_3_method_2_code 109 = .ok (.iconst 0, 1) ∧ 109 + 1 = 110 := by decide +kernel
theorem D_P_become_110 : decode prog_3_method_2_code 110 = .ok (.aload_n 0, 1) ∧ 110 + 1 = 111 := by decide +kernel
theorem D_P_become_111 : decode prog_3_method_2_code 111 = .ok (.getfield 38, 3) ∧ 111 + 3 = 114 := by decide +kernel
theorem D_P_become_114 : decode prog_3_method_2_code 114 = .ok (.iconst 0, 1) ∧ 114 + 1 = 115 := by decide +kernel
theorem D_P_become_115 : decode prog_3_method_2_code 115 = .ok (.bipush 6, 2) ∧ 115 + 2 = 117 := by decide +kernel
theorem D_P_become_117 : decode prog_3_method_2_code 117 = .ok (.invokestatic 72, 3) ∧ 117 + 3 = 120 := by decide +kernel
theorem D_P_become_120 : decode prog_3_method_2_code 120 = .ok (.aload_n 1, 1) ∧ 120 + 1 = 121 := by decide +kernel
theorem D_P_become_121 : decode prog_3_method_2_code 121 = .ok (.getfield 41, 3) ∧ 121 + 3 = 124 := by decide +kernel
theorem D_P_become_124 : decode prog_3_method_2_code 124 = .ok (.iconst 0, 1) ∧ 124 + 1 = 125 := by decide +kernel
theorem D_P_become_125 : decode prog_3_method_2_code 125 = .ok (.aload_n 0, 1) ∧ 125 + 1 = 126 := by decide +kernel
theorem D_P_become_126 : decode prog_3_method_2_code 126 = .ok (.getfield 41, 3) ∧ 126 + 3 = 129 := by decide +kernel
theorem D_P_become_129 : decode prog_3_method_2_code 129 = .ok (.iconst 0, 1) ∧ 129 + 1 = 130 := by decide +kernel
theorem D_P_become_130 : decode prog_3_method_2_code 130 = .ok (.bipush 6, 2) ∧ 130 + 2 = 132 := by decide +kernel
theorem D_P_become_132 : decode prog_3_method_2_code 132 = .ok (.invokestatic 72, 3) ∧ 132 + 3 = 135 := by decide +kernel
theorem D_P_become_135 : decode prog_3_method_2_code 135 = .ok (.aload_n 1, 1) ∧ 135 + 1 = 136 := by decide +kernel
theorem D_P_become_136 : decode prog_3_method_2_code 136 = .ok (.getfield 44, 3) ∧ 136 + 3 = 139 := by decide +kernel
theorem D_P_become_139 : decode prog_3_method_2_code 139 = .ok (.iconst 0, 1) ∧ 139 + 1 = 140 := by decide +kernel
theorem D_P_become_140 : decode prog_3_method_2_code 140 = .ok (.aload_n 0, 1) ∧ 140 + 1 = 141 := by decide +kernel
theorem D_P_become_141 : decode prog_3_method_2_code 141 = .ok (.getfield 44, 3) ∧ 141 + 3 = 144 := by decide +kernel
theorem D_P_become_144 : decode prog_3_method_2_code 144 = .ok (.iconst 0, 1) ∧ 144 + 1 = 145 := by decide +kernel
theorem D_P_become_145 : decode prog_3_method_2_code 145 = .ok (.iconst 3, 1) ∧ 145 + 1 = 146 := by decide +kernel
theorem D_P_become_146 : decode prog_3_method_2_code 146 = .ok (.invokestatic 72, 3) ∧ 146 + 3 = 149 := by decide +kernel
theorem D_P_become_149 : decode prog_3_method_2_code 149 = .ok (.aload_n 0, 1) ∧ 149 + 1 = 150 := by decide +kernel
theorem D_P_become_150 : decode prog_3_method_2_code 150 = .ok (.aload_n 1, 1) ∧ 150 + 1 = 151 := by decide +kernel
theorem D_P_become_151 : decode prog_3_method_2_code 151 = .ok (.getfield 47, 3) ∧ 151 + 3 = 154 := by decide +kernel
theorem D_P_become_154 : decode prog_3_method_2_code 154 = .ok (.putfield 47, 3) ∧ 154 + 3 = 157 := by decide +kernel
theorem D_P_become_157 : decode prog_3_method_2_code 157 = .ok (.aload_n 0, 1) ∧ 157 + 1 = 158 := by decide +kernel
theorem D_P_become_158 : decode prog_3_method_2_code 158 = .ok (.aload_n 1, 1) ∧ 158 + 1 = 159 := by decide +kernel
theorem D_P_become_159 : decode prog_3_method_2_code 159 = .ok (.getfield 50, 3) ∧ 159 + 3 = 162 := by decide +kernel
theorem D_P_become_162 : decode prog_3_method_2_code 162 = .ok (.putfield 50, 3) ∧ 162 + 3 = 165 := by decide +kernel
theorem D_P_become_165 : decode prog_3_method_2_code 165 = .ok (.aload_n 0, 1) ∧ 165 + 1 = 166 := by decide +kernel
theorem D_P_become_166 : decode prog_3_method_2_code 166 = .ok (.aload_n 1, 1) ∧ 166 + 1 = 167 := by decide +kernel
theorem D_P_become_167 : decode prog_3_method_2_code 167 = .ok (.getfield 53, 3) ∧ 167 + 3 = 170 := by decide +kernel
theorem D_P_become_170 : decode prog_3_method_2_code 170 = .ok (.putfield 53, 3) ∧ 170 + 3 = 173 := by decide +kernel
theorem D_P_become_173 : decode prog_3_method_2_code 173 = .ok (.aload_n 0, 1) ∧ 173 + 1 = 174 := by decide +kernel
theorem D_P_become_174 : decode prog_3_method_2_code 174 = .ok (.aload_n 1, 1) ∧ 174 + 1 = 175 := by decide +kernel
theorem D_P_become_175 : decode prog_3_method_2_code 175 = .ok (.getfield 56, 3) ∧ 175 + 3 = 178 := by decide +kernel
theorem D_P_become_178 : decode prog_3_method_2_code 178 = .ok (.putfield 56, 3) ∧ 178 + 3 = 181 := by decide +kernel
theorem D_P_become_181 : decode prog_3_method_2_code 181 = .ok (.aload_n 0, 1) ∧ 181 + 1 = 182 := by decide +kernel
theorem D_P_become_182 : decode prog_3_method_2_code 182 = .ok (.aload_n 1, 1) ∧ 182 + 1 = 183 := by decide +kernel
theorem D_P_become_183 : decode prog_3_method_2_code 183 = .ok (.getfield 59, 3) ∧ 183 + 3 = 186 := by decide +kernel
theorem D_P_become_186 : decode prog_3_method_2_code 186 = .ok (.putfield 59, 3) ∧ 186 + 3 = 189 := by decide +kernel
theorem D_P_become_189 : decode prog_3_method_2_code 189 = .ok (.aload_n 0, 1) ∧ 189 + 1 = 190 := by decide +kernel
theorem D_P_become_190 : decode prog_3_method_2_code 190 = .ok (.iconst (-1), 1) ∧ 190 + 1 = 191 := by decide +kernel
theorem D_P_become_191 : decode prog_3_method_2_code 191 = .ok (.putfield 62, 3) ∧ 191 + 3 = 194 := by decide +kernel
theorem D_P_become_194 : decode prog_3_method_2_code 194 = .ok (.return_, 1) := by decide +kernel
def f_P_become (p : Nat) (o1 : Nat) (mem : Mm) : Option (Mm) := lt (mst mem p 2 (mem o1 2)) fun m_5 => lt (va_up m_5 (p + 1) (va_cpy (m_5 (o1 + 1)) (m_5 (p + 1)) (ix 0) (ix 0) (ix 3))) fun m_19 => lt (mst m_19 p 4 (m_19 o1 4)) fun m_27 => lt (va_up m_27 (p + 2) (va_cpy (m_27 (o1 + 2)) (m_27 (p + 2)) (ix 0) (ix 0) (ix 10))) fun m_42 => lt (va_up m_42 (p + 3) (va_cpy (m_42 (o1 + 3)) (m_42 (p + 3)) (ix 0) (ix 0) (ix 10))) fun m_57 => lt (va_up m_57 (p + 4) (va_cpy (m_57 (o1 + 4)) (m_57 (p + 4)) (ix 0) (ix 0) (ix 10))) fun m_72 => lt (va_up m_72 (p + 5) (va_cpy (m_72 (o1 + 5)) (m_72 (p + 5)) (ix 0) (ix 0) (ix 6))) fun m_87 => lt (va_up m_87 (p + 6) (va_cpy (m_87 (o1 + 6)) (m_87 (p + 6)) (ix 0) (ix 0) (ix 6))) fun m_102 => lt (va_up m_102 (p + 7) (va_cpy (m_102 (o1 + 7)) (m_102 (p + 7)) (ix 0) (ix 0) (ix 6))) fun m_117 => lt (va_up m_117 (p + 8) (va_cpy (m_117 (o1 + 8)) (m_117 (p + 8)) (ix 0) (ix 0) (ix 6))) fun m_132 => lt (va_up m_132 (p + 9) (va_cpy (m_132 (o1 + 9)) (m_132 (p + 9)) (ix 0) (ix 0) (ix 3))) fun m_146 => lt (mst m_146 p 13 (m_146 o1 13)) fun m_154 => lt (mst m_154 p 14 (m_154 o1 14)) fun m_162 => lt (mst m_162 p 15 (m_162 o1 15)) fun m_170 => lt (mst m_170 p 16 (m_170 o1 16)) fun m_178 => lt (mst m_178 p 17 (m_178 o1 17)) fun m_186 => lt (mst m_186 p 18 (-1)) fun m_191 => some m_191
theorem c_P_become (l : Launch) (E : En) (p : Nat) (hp : isPic p) (o1 : Nat) (ho1 : isPic o1) {mem : Mm} {m2 : Mm} (h : f_P_become p o1 mem = some m2) : CtV l E 1 y_P_become prog_3_method_2_code 2 [.ref (eb E + p), .ref (eb E + o1)] SH mem m2 := by
  refine mk_CtV ⟨by decide, (Nat.le_of_ble_eq_true rfl)⟩ (fun X S hl hR => ?_)
  have S : Std X E prog_3_method_2_code R0 2 1 := S
  show J X E 2 0 [(0, .ref (eb E + p)), (1, .ref (eb E + o1))] [] SH mem
  unfold f_P_become at h
  refine j_aload_n S D_P_become_0 0 rfl rfl ?_
  refine j_aload_n S D_P_become_1 1 rfl rfl ?_
  refine j_getI S D_P_become_2 fl_R0_9 (sh_pic ho1) rfl ?_
  obtain ⟨m_5, hm_5, h⟩ := ltE h
  refine j_putI S D_P_become_5 fp_R0_9 (sh_pic hp) rfl ?_
  refine j_mem hm_5 ?_
  refine j_aload_n S D_P_become_8 1 rfl rfl ?_
  refine j_getR S D_P_become_9 fl_R0_16 (sh_pic ho1) rfl ?_
  refine j_iconst S D_P_become_12 ci_0 ?_
  refine j_aload_n S D_P_become_13 0 rfl rfl ?_
  refine j_getR S D_P_become_14 fl_R0_16 (sh_pic hp) rfl ?_
  refine j_iconst S D_P_become_17 ci_0 ?_
  refine j_iconst S D_P_become_18 ci_3 ?_
  obtain ⟨m_19, hm_19, h⟩ := ltE h
  refine j_copy S D_P_become_19 (by decide) ac_R0_72 (Nat.le_of_ble_eq_true rfl) (sh_pic1 ho1) (sh_pic1 hp) nn_3 cp_0_3_3 cp_0_3_3 ?_
  refine j_mem hm_19 ?_
  refine j_aload_n S D_P_become_22 0 rfl rfl ?_
  refine j_aload_n S D_P_become_23 1 rfl rfl ?_
  refine j_getI S D_P_become_24 fl_R0_20 (sh_pic ho1) rfl ?_
  obtain ⟨m_27, hm_27, h⟩ := ltE h
  refine j_putI S D_P_become_27 fp_R0_20 (sh_pic hp) rfl ?_
  refine j_mem hm_27 ?_
  refine j_aload_n S D_P_become_30 1 rfl rfl ?_
  refine j_getR S D_P_become_31 fl_R0_23 (sh_pic ho1) rfl ?_
  refine j_iconst S D_P_become_34 ci_0 ?_
  refine j_aload_n S D_P_become_35 0 rfl rfl ?_
  refine j_getR S D_P_become_36 fl_R0_23 (sh_pic hp) rfl ?_
  refine j_iconst S D_P_become_39 ci_0 ?_
  refine j_bipush S D_P_become_40 cb_10 ?_
  obtain ⟨m_42, hm_42, h⟩ := ltE h
  refine j_copy S D_P_become_42 (by decide) ac_R0_72 (Nat.le_of_ble_eq_true rfl) (sh_pic2 ho1) (sh_pic2 hp) nn_10 cp_0_10_10 cp_0_10_10 ?_
  refine j_mem hm_42 ?_
  refine j_aload_n S D_P_become_45 1 rfl rfl ?_
  refine j_getR S D_P_become_46 fl_R0_26 (sh_pic ho1) rfl ?_
  refine j_iconst S D_P_become_49 ci_0 ?_
  refine j_aload_n S D_P_become_50 0 rfl rfl ?_
  refine j_getR S D_P_become_51 fl_R0_26 (sh_pic hp) rfl ?_
  refine j_iconst S D_P_become_54 ci_0 ?_
  refine j_bipush S D_P_become_55 cb_10 ?_
  obtain ⟨m_57, hm_57, h⟩ := ltE h
  refine j_copy S D_P_become_57 (by decide) ac_R0_72 (Nat.le_of_ble_eq_true rfl) (sh_pic3 ho1) (sh_pic3 hp) nn_10 cp_0_10_10 cp_0_10_10 ?_
  refine j_mem hm_57 ?_
  refine j_aload_n S D_P_become_60 1 rfl rfl ?_
  refine j_getR S D_P_become_61 fl_R0_29 (sh_pic ho1) rfl ?_
  refine j_iconst S D_P_become_64 ci_0 ?_
  refine j_aload_n S D_P_become_65 0 rfl rfl ?_
  refine j_getR S D_P_become_66 fl_R0_29 (sh_pic hp) rfl ?_
  refine j_iconst S D_P_become_69 ci_0 ?_
  refine j_bipush S D_P_become_70 cb_10 ?_
  obtain ⟨m_72, hm_72, h⟩ := ltE h
  refine j_copy S D_P_become_72 (by decide) ac_R0_72 (Nat.le_of_ble_eq_true rfl) (sh_pic4 ho1) (sh_pic4 hp) nn_10 cp_0_10_10 cp_0_10_10 ?_
  refine j_mem hm_72 ?_
  refine j_aload_n S D_P_become_75 1 rfl rfl ?_
  refine j_getR S D_P_become_76 fl_R0_32 (sh_pic ho1) rfl ?_
  refine j_iconst S D_P_become_79 ci_0 ?_
  refine j_aload_n S D_P_become_80 0 rfl rfl ?_
  refine j_getR S D_P_become_81 fl_R0_32 (sh_pic hp) rfl ?_
  refine j_iconst S D_P_become_84 ci_0 ?_
  refine j_bipush S D_P_become_85 cb_6 ?_
  obtain ⟨m_87, hm_87, h⟩ := ltE h
  refine j_copy S D_P_become_87 (by decide) ac_R0_72 (Nat.le_of_ble_eq_true rfl) (sh_pic5 ho1) (sh_pic5 hp) nn_6 cp_0_6_6 cp_0_6_6 ?_
  refine j_mem hm_87 ?_
  refine j_aload_n S D_P_become_90 1 rfl rfl ?_
  refine j_getR S D_P_become_91 fl_R0_35 (sh_pic ho1) rfl ?_
  refine j_iconst S D_P_become_94 ci_0 ?_
  refine j_aload_n S D_P_become_95 0 rfl rfl ?_
  refine j_getR S D_P_become_96 fl_R0_35 (sh_pic hp) rfl ?_
  refine j_iconst S D_P_become_99 ci_0 ?_
  refine j_bipush S D_P_become_100 cb_6 ?_
  obtain ⟨m_102, hm_102, h⟩ := ltE h
  refine j_copy S D_P_become_102 (by decide) ac_R0_72 (Nat.le_of_ble_eq_true rfl) (sh_pic6 ho1) (sh_pic6 hp) nn_6 cp_0_6_6 cp_0_6_6 ?_
  refine j_mem hm_102 ?_
  refine j_aload_n S D_P_become_105 1 rfl rfl ?_
  refine j_getR S D_P_become_106 fl_R0_38 (sh_pic ho1) rfl ?_
  refine j_iconst S D_P_become_109 ci_0 ?_
  refine j_aload_n S D_P_become_110 0 rfl rfl ?_
  refine j_getR S D_P_become_111 fl_R0_38 (sh_pic hp) rfl ?_
  refine j_iconst S D_P_become_114 ci_0 ?_
  refine j_bipush S D_P_become_115 cb_6 ?_
  obtain ⟨m_117, hm_117, h⟩ := ltE h
  refine j_copy S D_P_become_117 (by decide) ac_R0_72 (Nat.le_of_ble_eq_true rfl) (sh_pic7 ho1) (sh_pic7 hp) nn_6 cp_0_6_6 cp_0_6_6 ?_
  refine j_mem hm_117 ?_
  refine j_aload_n S D_P_become_120 1 rfl rfl ?_
  refine j_getR S D_P_become_121 fl_R0_41 (sh_pic ho1) rfl ?_
  refine j_iconst S D_P_become_124 ci_0 ?_
  refine j_aload_n S D_P_become_125 0 rfl rfl ?_
  refine j_getR S D_P_become_126 fl_R0_41 (sh_pic hp) rfl ?_
  refine j_iconst S D_P_become_129 ci_0 ?_
  refine j_bipush S D_P_become_130 cb_6 ?_
  obtain ⟨m_132, hm_132, h⟩ := ltE h
  refine j_copy S D_P_become_132 (by decide) ac_R0_72 (Nat.le_of_ble_eq_true rfl) (sh_pic8 ho1) (sh_pic8 hp) nn_6 cp_0_6_6 cp_0_6_6 ?_
  refine j_mem hm_132 ?_
  refine j_aload_n S D_P_become_135 1 rfl rfl ?_
  refine j_getR S D_P_become_136 fl_R0_44 (sh_pic ho1) rfl ?_
  refine j_iconst S D_P_become_139 ci_0 ?_
  refine j_aload_n S D_P_become_140 0 rfl rfl ?_
  refine j_getR S D_P_become_141 fl_R0_44 (sh_pic hp) rfl ?_
  refine j_iconst S D_P_become_144 ci_0 ?_
  refine j_iconst S D_P_become_145 ci_3 ?_
  obtain ⟨m_146, hm_146, h⟩ := ltE h
  refine j_copy S D_P_become_146 (by decide) ac_R0_72 (Nat.le_of_ble_eq_true rfl) (sh_pic9 ho1) (sh_pic9 hp) nn_3 cp_0_3_3 cp_0_3_3 ?_
  refine j_mem hm_146 ?_
  refine j_aload_n S D_P_become_149 0 rfl rfl ?_
  refine j_aload_n S D_P_become_150 1 rfl rfl ?_
  refine j_getI S D_P_become_151 fl_R0_47 (sh_pic ho1) rfl ?_
  obtain ⟨m_154, hm_154, h⟩ := ltE h
  refine j_putI S D_P_become_154 fp_R0_47 (sh_pic hp) rfl ?_
  refine j_mem hm_154 ?_
  refine j_aload_n S D_P_become_157 0 rfl rfl ?_
  refine j_aload_n S D_P_become_158 1 rfl rfl ?_
  refine j_getI S D_P_become_159 fl_R0_50 (sh_pic ho1) rfl ?_
  obtain ⟨m_162, hm_162, h⟩ := ltE h
  refine j_putI S D_P_become_162 fp_R0_50 (sh_pic hp) rfl ?_
  refine j_mem hm_162 ?_
  refine j_aload_n S D_P_become_165 0 rfl rfl ?_
  refine j_aload_n S D_P_become_166 1 rfl rfl ?_
  refine j_getI S D_P_become_167 fl_R0_53 (sh_pic ho1) rfl ?_
  obtain ⟨m_170, hm_170, h⟩ := ltE h
  refine j_putI S D_P_become_170 fp_R0_53 (sh_pic hp) rfl ?_
  refine j_mem hm_170 ?_
  refine j_aload_n S D_P_become_173 0 rfl rfl ?_
  refine j_aload_n S D_P_become_174 1 rfl rfl ?_
  refine j_getI S D_P_become_175 fl_R0_56 (sh_pic ho1) rfl ?_
  obtain ⟨m_178, hm_178, h⟩ := ltE h
  refine j_putI S D_P_become_178 fp_R0_56 (sh_pic hp) rfl ?_
  refine j_mem hm_178 ?_
  refine j_aload_n S D_P_become_181 0 rfl rfl ?_
  refine j_aload_n S D_P_become_182 1 rfl rfl ?_
  refine j_getI S D_P_become_183 fl_R0_59 (sh_pic ho1) rfl ?_
  obtain ⟨m_186, hm_186, h⟩ := ltE h
  refine j_putI S D_P_become_186 fp_R0_59 (sh_pic hp) rfl ?_
  refine j_mem hm_186 ?_
  refine j_aload_n S D_P_become_189 0 rfl rfl ?_
  refine j_iconst S D_P_become_190 ci_m1 ?_
  obtain ⟨m_191, hm_191, h⟩ := ltE h
  refine j_putI S D_P_become_191 fp_R0_62 (sh_pic hp) rfl ?_
  refine j_mem hm_191 ?_
  exact rtV hR h _ _ D_P_become_194

def y_P_addMonk : MethodName := ⟨"SandPicture$Picture", "addMonk", "(III)I"⟩
theorem D_P_addMonk_0 : decode prog_3_method_3_code 0 = .ok (.aload_n 0, 1) ∧ 0 + 1 = 1 := by decide +kernel
theorem D_P_addMonk_1 : decode prog_3_method_3_code 1 = .ok (.getfield 20, 3) ∧ 1 + 3 = 4 := by decide +kernel
theorem D_P_addMonk_4 : decode prog_3_method_3_code 4 = .ok (.bipush 10, 2) ∧ 4 + 2 = 6 := by decide +kernel
theorem D_P_addMonk_6 : decode prog_3_method_3_code 6 = .ok (.if_icmp .lt 6, 3) ∧ ((6 : Nat) : Int) + 6 = ((12 : Nat) : Int) ∧ 6 + 3 = 9 := by decide +kernel
theorem D_P_addMonk_12 : decode prog_3_method_3_code 12 = .ok (.aload_n 0, 1) ∧ 12 + 1 = 13 := by decide +kernel
theorem D_P_addMonk_13 : decode prog_3_method_3_code 13 = .ok (.getfield 23, 3) ∧ 13 + 3 = 16 := by decide +kernel
theorem D_P_addMonk_16 : decode prog_3_method_3_code 16 = .ok (.aload_n 0, 1) ∧ 16 + 1 = 17 := by decide +kernel
theorem D_P_addMonk_17 : decode prog_3_method_3_code 17 = .ok (.getfield 20, 3) ∧ 17 + 3 = 20 := by decide +kernel
theorem D_P_addMonk_20 : decode prog_3_method_3_code 20 = .ok (.iload_n 1, 1) ∧ 20 + 1 = 21 := by decide +kernel
theorem D_P_addMonk_21 : decode prog_3_method_3_code 21 = .ok (.iastore, 1) ∧ 21 + 1 = 22 := by decide +kernel
theorem D_P_addMonk_22 : decode prog_3_method_3_code 22 = .ok (.aload_n 0, 1) ∧ 22 + 1 = 23 := by decide +kernel
theorem D_P_addMonk_23 : decode prog_3_method_3_code 23 = .ok (.getfield 26, 3) ∧ 23 + 3 = 26 := by decide +kernel
theorem D_P_addMonk_26 : decode prog_3_method_3_code 26 = .ok (.aload_n 0, 1) ∧ 26 + 1 = 27 := by decide +kernel
theorem D_P_addMonk_27 : decode prog_3_method_3_code 27 = .ok (.getfield 20, 3) ∧ 27 + 3 = 30 := by decide +kernel
theorem D_P_addMonk_30 : decode prog_3_method_3_code 30 = .ok (.iload_n 2, 1) ∧ 30 + 1 = 31 := by decide +kernel
theorem D_P_addMonk_31 : decode prog_3_method_3_code 31 = .ok (.iastore, 1) ∧ 31 + 1 = 32 := by decide +kernel
theorem D_P_addMonk_32 : decode prog_3_method_3_code 32 = .ok (.aload_n 0, 1) ∧ 32 + 1 = 33 := by decide +kernel
theorem D_P_addMonk_33 : decode prog_3_method_3_code 33 = .ok (.getfield 29, 3) ∧ 33 + 3 = 36 := by decide +kernel
theorem D_P_addMonk_36 : decode prog_3_method_3_code 36 = .ok (.aload_n 0, 1) ∧ 36 + 1 = 37 := by decide +kernel
theorem D_P_addMonk_37 : decode prog_3_method_3_code 37 = .ok (.getfield 20, 3) ∧ 37 + 3 = 40 := by decide +kernel
theorem D_P_addMonk_40 : decode prog_3_method_3_code 40 = .ok (.iload_n 3, 1) ∧ 40 + 1 = 41 := by decide +kernel
theorem D_P_addMonk_41 : decode prog_3_method_3_code 41 = .ok (.iastore, 1) ∧ 41 + 1 = 42 := by decide +kernel
theorem D_P_addMonk_42 : decode prog_3_method_3_code 42 = .ok (.aload_n 0, 1) ∧ 42 + 1 = 43 := by decide +kernel
theorem D_P_addMonk_43 : decode prog_3_method_3_code 43 = .ok (.dup, 1) ∧ 43 + 1 = 44 := by decide +kernel
theorem D_P_addMonk_44 : decode prog_3_method_3_code 44 = .ok (.getfield 20, 3) ∧ 44 + 3 = 47 := by decide +kernel
theorem D_P_addMonk_47 : decode prog_3_method_3_code 47 = .ok (.iconst 1, 1) ∧ 47 + 1 = 48 := by decide +kernel
theorem D_P_addMonk_48 : decode prog_3_method_3_code 48 = .ok (.iadd, 1) ∧ 48 + 1 = 49 := by decide +kernel
theorem D_P_addMonk_49 : decode prog_3_method_3_code 49 = .ok (.putfield 20, 3) ∧ 49 + 3 = 52 := by decide +kernel
theorem D_P_addMonk_52 : decode prog_3_method_3_code 52 = .ok (.aload_n 0, 1) ∧ 52 + 1 = 53 := by decide +kernel
theorem D_P_addMonk_53 : decode prog_3_method_3_code 53 = .ok (.getfield 20, 3) ∧ 53 + 3 = 56 := by decide +kernel
theorem D_P_addMonk_56 : decode prog_3_method_3_code 56 = .ok (.iconst 1, 1) ∧ 56 + 1 = 57 := by decide +kernel
theorem D_P_addMonk_57 : decode prog_3_method_3_code 57 = .ok (.isub, 1) ∧ 57 + 1 = 58 := by decide +kernel
theorem D_P_addMonk_58 : decode prog_3_method_3_code 58 = .ok (.ireturn, 1) := by decide +kernel
theorem D_P_addMonk_9 : decode prog_3_method_3_code 9 = .ok (.ldc 78, 2) ∧ 9 + 2 = 11 := by decide +kernel
theorem D_P_addMonk_11 : decode prog_3_method_3_code 11 = .ok (.ireturn, 1) := by decide +kernel
def f_P_addMonk (p : Nat) (a1 : Int32) (a2 : Int32) (a3 : Int32) (mem : Mm) : Option (Int32 × Mm) := if mem p 4 < 10 then if inb (mem p 4) 10 = true then lt (mst mem (p + 2) (ix (mem p 4)) a1) fun m_21 => if inb (m_21 p 4) 10 = true then lt (mst m_21 (p + 3) (ix (m_21 p 4)) a2) fun m_31 => if inb (m_31 p 4) 10 = true then lt (mst m_31 (p + 4) (ix (m_31 p 4)) a3) fun m_41 => lt (mst m_41 p 4 ((m_41 p 4) + 1)) fun m_49 => some ((m_49 p 4) - 1, m_49) else none else none else none else some ((-1000000003), mem)
theorem c_P_addMonk (l : Launch) (E : En) (p : Nat) (hp : isPic p) (a1 : Int32) (a2 : Int32) (a3 : Int32) {mem : Mm} {r : Int32} {m2 : Mm} (h : f_P_addMonk p a1 a2 a3 mem = some (r, m2)) : CtI l E 0 y_P_addMonk prog_3_method_3_code 4 (some .int) [.ref (eb E + p), .int a1, .int a2, .int a3] SH mem r m2 := by
  refine mk_CtI ⟨by decide, (Nat.le_of_ble_eq_true rfl)⟩ (fun X S hl hR => ?_)
  have S : Std X E prog_3_method_3_code R0 4 0 := S
  show J X E 4 0 [(0, .ref (eb E + p)), (1, .int a1), (2, .int a2), (3, .int a3)] [] SH mem
  unfold f_P_addMonk at h
  refine j_aload_n S D_P_addMonk_0 0 rfl rfl ?_
  refine j_getI S D_P_addMonk_1 fl_R0_20 (sh_pic hp) rfl ?_
  refine j_bipush S D_P_addMonk_4 cb_10 ?_
  refine j_icmp_lt S D_P_addMonk_6 (fun c_6 => ?_) (fun c_6 => ?_)
  · have h := ifT c_6 h
    refine j_aload_n S D_P_addMonk_12 0 rfl rfl ?_
    refine j_getR S D_P_addMonk_13 fl_R0_23 (sh_pic hp) rfl ?_
    refine j_aload_n S D_P_addMonk_16 0 rfl rfl ?_
    refine j_getI S D_P_addMonk_17 fl_R0_20 (sh_pic hp) rfl ?_
    refine j_iload_n S D_P_addMonk_20 1 rfl rfl ?_
    obtain ⟨g_21, h⟩ := gdE h
    obtain ⟨m_21, hm_21, h⟩ := ltE h
    refine j_iast S D_P_addMonk_21 (sh_pic2 hp) g_21 ?_
    refine j_mem hm_21 ?_
    refine j_aload_n S D_P_addMonk_22 0 rfl rfl ?_
    refine j_getR S D_P_addMonk_23 fl_R0_26 (sh_pic hp) rfl ?_
    refine j_aload_n S D_P_addMonk_26 0 rfl rfl ?_
    refine j_getI S D_P_addMonk_27 fl_R0_20 (sh_pic hp) rfl ?_
    refine j_iload_n S D_P_addMonk_30 2 rfl rfl ?_
    obtain ⟨g_31, h⟩ := gdE h
    obtain ⟨m_31, hm_31, h⟩ := ltE h
    refine j_iast S D_P_addMonk_31 (sh_pic3 hp) g_31 ?_
    refine j_mem hm_31 ?_
    refine j_aload_n S D_P_addMonk_32 0 rfl rfl ?_
    refine j_getR S D_P_addMonk_33 fl_R0_29 (sh_pic hp) rfl ?_
    refine j_aload_n S D_P_addMonk_36 0 rfl rfl ?_
    refine j_getI S D_P_addMonk_37 fl_R0_20 (sh_pic hp) rfl ?_
    refine j_iload_n S D_P_addMonk_40 3 rfl rfl ?_
    obtain ⟨g_41, h⟩ := gdE h
    obtain ⟨m_41, hm_41, h⟩ := ltE h
    refine j_iast S D_P_addMonk_41 (sh_pic4 hp) g_41 ?_
    refine j_mem hm_41 ?_
    refine j_aload_n S D_P_addMonk_42 0 rfl rfl ?_
    refine j_dup S D_P_addMonk_43 rfl ?_
    refine j_getI S D_P_addMonk_44 fl_R0_20 (sh_pic hp) rfl ?_
    refine j_iconst S D_P_addMonk_47 ci_1 ?_
    refine j_iadd S D_P_addMonk_48 ?_
    obtain ⟨m_49, hm_49, h⟩ := ltE h
    refine j_putI S D_P_addMonk_49 fp_R0_20 (sh_pic hp) rfl ?_
    refine j_mem hm_49 ?_
    refine j_aload_n S D_P_addMonk_52 0 rfl rfl ?_
    refine j_getI S D_P_addMonk_53 fl_R0_20 (sh_pic hp) rfl ?_
    refine j_iconst S D_P_addMonk_56 ci_1 ?_
    refine j_isub S D_P_addMonk_57 ?_
    exact rtM hR h _ _ D_P_addMonk_58
  · have h := ifF c_6 h
    refine j_ldc S D_P_addMonk_9 co_R0_78 ?_
    exact rtM hR h _ _ D_P_addMonk_11

def y_P_draw : MethodName := ⟨"SandPicture$Picture", "draw", "()I"⟩
theorem D_P_draw_0 : decode prog_3_method_5_code 0 = .ok (.aload_n 0, 1) ∧ 0 + 1 = 1 := by decide +kernel
theorem D_P_draw_1 : decode prog_3_method_5_code 1 = .ok (.aload_n 0, 1) ∧ 1 + 1 = 2 := by decide +kernel
theorem D_P_draw_2 : decode prog_3_method_5_code 2 = .ok (.getfield 59, 3) ∧ 2 + 3 = 5 := by decide +kernel
theorem D_P_draw_5 : decode prog_3_method_5_code 5 = .ok (.ldc 87, 2) ∧ 5 + 2 = 7 := by decide +kernel
theorem D_P_draw_7 : decode prog_3_method_5_code 7 = .ok (.imul, 1) ∧ 7 + 1 = 8 := by decide +kernel
theorem D_P_draw_8 : decode prog_3_method_5_code 8 = .ok (.sipush 12345, 3) ∧ 8 + 3 = 11 := by decide +kernel
theorem D_P_draw_11 : decode prog_3_method_5_code 11 = .ok (.iadd, 1) ∧ 11 + 1 = 12 := by decide +kernel
theorem D_P_draw_12 : decode prog_3_method_5_code 12 = .ok (.putfield 59, 3) ∧ 12 + 3 = 15 := by decide +kernel
theorem D_P_draw_15 : decode prog_3_method_5_code 15 = .ok (.aload_n 0, 1) ∧ 15 + 1 = 16 := by decide +kernel
theorem D_P_draw_16 : decode prog_3_method_5_code 16 = .ok (.getfield 59, 3) ∧ 16 + 3 = 19 := by decide +kernel
theorem D_P_draw_19 : decode prog_3_method_5_code 19 = .ok (.bipush 8, 2) ∧ 19 + 2 = 21 := by decide +kernel
theorem D_P_draw_21 : decode prog_3_method_5_code 21 = .ok (.iushr, 1) ∧ 21 + 1 = 22 := by decide +kernel
theorem D_P_draw_22 : decode prog_3_method_5_code 22 = .ok (.ireturn, 1) := by decide +kernel
def f_P_draw (p : Nat) (mem : Mm) : Option (Int32 × Mm) := lt (mst mem p 17 (((mem p 17) * 1103515245) + 12345)) fun m_12 => some (((m_12 p 17).toUInt32 >>> ((8 : Int32).toUInt32 &&& Int32.toUInt32 31)).toInt32, m_12)
theorem c_P_draw (l : Launch) (E : En) (p : Nat) (hp : isPic p) {mem : Mm} {r : Int32} {m2 : Mm} (h : f_P_draw p mem = some (r, m2)) : CtI l E 0 y_P_draw prog_3_method_5_code 1 (some .int) [.ref (eb E + p)] SH mem r m2 := by
  refine mk_CtI ⟨by decide, (Nat.le_of_ble_eq_true rfl)⟩ (fun X S hl hR => ?_)
  have S : Std X E prog_3_method_5_code R0 1 0 := S
  show J X E 1 0 [(0, .ref (eb E + p))] [] SH mem
  unfold f_P_draw at h
  refine j_aload_n S D_P_draw_0 0 rfl rfl ?_
  refine j_aload_n S D_P_draw_1 0 rfl rfl ?_
  refine j_getI S D_P_draw_2 fl_R0_59 (sh_pic hp) rfl ?_
  refine j_ldc S D_P_draw_5 co_R0_87 ?_
  refine j_imul S D_P_draw_7 ?_
  refine j_sipush S D_P_draw_8 cs_12345 ?_
  refine j_iadd S D_P_draw_11 ?_
  obtain ⟨m_12, hm_12, h⟩ := ltE h
  refine j_putI S D_P_draw_12 fp_R0_59 (sh_pic hp) rfl ?_
  refine j_mem hm_12 ?_
  refine j_aload_n S D_P_draw_15 0 rfl rfl ?_
  refine j_getI S D_P_draw_16 fl_R0_59 (sh_pic hp) rfl ?_
  refine j_bipush S D_P_draw_19 cb_8 ?_
  refine j_iushr S D_P_draw_21 ?_
  exact rtM hR h _ _ D_P_draw_22

def y_P_drawMonk : MethodName := ⟨"SandPicture$Picture", "drawMonk", "()V"⟩
theorem D_P_drawMonk_0 : decode prog_3_method_4_code 0 = .ok (.aload_n 0, 1) ∧ 0 + 1 = 1 := by decide +kernel
theorem D_P_drawMonk_1 : decode prog_3_method_4_code 1 = .ok (.invokevirtual 79, 3) ∧ 1 + 3 = 4 := by decide +kernel
theorem D_P_drawMonk_4 : decode prog_3_method_4_code 4 = .ok (.bipush 6, 2) ∧ 4 + 2 = 6 := by decide +kernel
theorem D_P_drawMonk_6 : decode prog_3_method_4_code 6 = .ok (.irem, 1) ∧ 6 + 1 = 7 := by decide +kernel
theorem D_P_drawMonk_7 : decode prog_3_method_4_code 7 = .ok (.istore_n 1, 1) ∧ 7 + 1 = 8 := by decide +kernel
theorem D_P_drawMonk_8 : decode prog_3_method_4_code 8 = .ok (.iconst 1, 1) ∧ 8 + 1 = 9 := by decide +kernel
theorem D_P_drawMonk_9 : decode prog_3_method_4_code 9 = .ok (.aload_n 0, 1) ∧ 9 + 1 = 10 := by decide +kernel
theorem D_P_drawMonk_10 : decode prog_3_method_4_code 10 = .ok (.invokevirtual 79, 3) ∧ 10 + 3 = 13 := by decide +kernel
theorem D_P_drawMonk_13 : decode prog_3_method_4_code 13 = .ok (.bipush 20, 2) ∧ 13 + 2 = 15 := by decide +kernel
theorem D_P_drawMonk_15 : decode prog_3_method_4_code 15 = .ok (.irem, 1) ∧ 15 + 1 = 16 := by decide +kernel
theorem D_P_drawMonk_16 : decode prog_3_method_4_code 16 = .ok (.iadd, 1) ∧ 16 + 1 = 17 := by decide +kernel
theorem D_P_drawMonk_17 : decode prog_3_method_4_code 17 = .ok (.istore_n 2, 1) ∧ 17 + 1 = 18 := by decide +kernel
theorem D_P_drawMonk_18 : decode prog_3_method_4_code 18 = .ok (.aload_n 0, 1) ∧ 18 + 1 = 19 := by decide +kernel
theorem D_P_drawMonk_19 : decode prog_3_method_4_code 19 = .ok (.invokevirtual 79, 3) ∧ 19 + 3 = 22 := by decide +kernel
theorem D_P_drawMonk_22 : decode prog_3_method_4_code 22 = .ok (.bipush 6, 2) ∧ 22 + 2 = 24 := by decide +kernel
theorem D_P_drawMonk_24 : decode prog_3_method_4_code 24 = .ok (.irem, 1) ∧ 24 + 1 = 25 := by decide +kernel
theorem D_P_drawMonk_25 : decode prog_3_method_4_code 25 = .ok (.istore_n 3, 1) ∧ 25 + 1 = 26 := by decide +kernel
theorem D_P_drawMonk_26 : decode prog_3_method_4_code 26 = .ok (.aload_n 0, 1) ∧ 26 + 1 = 27 := by decide +kernel
theorem D_P_drawMonk_27 : decode prog_3_method_4_code 27 = .ok (.iload_n 1, 1) ∧ 27 + 1 = 28 := by decide +kernel
theorem D_P_drawMonk_28 : decode prog_3_method_4_code 28 = .ok (.iload_n 2, 1) ∧ 28 + 1 = 29 := by decide +kernel
theorem D_P_drawMonk_29 : decode prog_3_method_4_code 29 = .ok (.iload_n 3, 1) ∧ 29 + 1 = 30 := by decide +kernel
theorem D_P_drawMonk_30 : decode prog_3_method_4_code 30 = .ok (.invokevirtual 83, 3) ∧ 30 + 3 = 33 := by decide +kernel
theorem D_P_drawMonk_33 : decode prog_3_method_4_code 33 = .ok (.pop, 1) ∧ 33 + 1 = 34 := by decide +kernel
theorem D_P_drawMonk_34 : decode prog_3_method_4_code 34 = .ok (.return_, 1) := by decide +kernel
def f_P_drawMonk (p : Nat) (mem : Mm) : Option (Mm) := bd (f_P_draw p mem) fun r_1 m_1 => lt (r_1 - r_1 / 6 * 6) fun x_7 => bd (f_P_draw p m_1) fun r_10 m_10 => lt (1 + (r_10 - r_10 / 20 * 20)) fun x_17 => bd (f_P_draw p m_10) fun r_19 m_19 => lt (r_19 - r_19 / 6 * 6) fun x_25 => bd (f_P_addMonk p x_7 x_17 x_25 m_19) fun r_30 m_30 => some m_30
theorem c_P_drawMonk (l : Launch) (E : En) (p : Nat) (hp : isPic p) {mem : Mm} {m2 : Mm} (h : f_P_drawMonk p mem = some m2) : CtV l E 1 y_P_drawMonk prog_3_method_4_code 4 [.ref (eb E + p)] SH mem m2 := by
  refine mk_CtV ⟨by decide, (Nat.le_of_ble_eq_true rfl)⟩ (fun X S hl hR => ?_)
  have S : Std X E prog_3_method_4_code R0 4 1 := S
  show J X E 4 0 [(0, .ref (eb E + p))] [] SH mem
  unfold f_P_drawMonk at h
  refine j_aload_n S D_P_drawMonk_0 0 rfl rfl ?_
  obtain ⟨r_1, m_1, e_1, h⟩ := bdE h
  refine j_callVI (As := []) S D_P_drawMonk_1 mv_R0_79 (c_P_draw (cxL X) E p hp e_1) (by decide) (sh_pic hp) rfl rfl rfl rfl (Nat.le_of_ble_eq_true rfl) ?_
  refine j_bipush S D_P_drawMonk_4 cb_6 ?_
  refine j_irem S D_P_drawMonk_6 nz_6 ?_
  obtain ⟨x_7, hx_7, h⟩ := ltE h
  refine j_nm hx_7 ?_
  refine j_istore_n S D_P_drawMonk_7 (lv := [(1, .int x_7), (0, .ref (eb E + p))]) rfl ⟨rfl, (Nat.le_of_ble_eq_true rfl)⟩ ?_
  refine j_iconst S D_P_drawMonk_8 ci_1 ?_
  refine j_aload_n S D_P_drawMonk_9 1 rfl rfl ?_
  obtain ⟨r_10, m_10, e_10, h⟩ := bdE h
  refine j_callVI (As := []) S D_P_drawMonk_10 mv_R0_79 (c_P_draw (cxL X) E p hp e_10) (by decide) (sh_pic hp) rfl rfl rfl rfl (Nat.le_of_ble_eq_true rfl) ?_
  refine j_bipush S D_P_drawMonk_13 cb_20 ?_
  refine j_irem S D_P_drawMonk_15 nz_20 ?_
  refine j_iadd S D_P_drawMonk_16 ?_
  obtain ⟨x_17, hx_17, h⟩ := ltE h
  refine j_nm hx_17 ?_
  refine j_istore_n S D_P_drawMonk_17 (lv := [(2, .int x_17), (1, .int x_7), (0, .ref (eb E + p))]) rfl ⟨rfl, (Nat.le_of_ble_eq_true rfl)⟩ ?_
  refine j_aload_n S D_P_drawMonk_18 2 rfl rfl ?_
  obtain ⟨r_19, m_19, e_19, h⟩ := bdE h
  refine j_callVI (As := []) S D_P_drawMonk_19 mv_R0_79 (c_P_draw (cxL X) E p hp e_19) (by decide) (sh_pic hp) rfl rfl rfl rfl (Nat.le_of_ble_eq_true rfl) ?_
  refine j_bipush S D_P_drawMonk_22 cb_6 ?_
  refine j_irem S D_P_drawMonk_24 nz_6 ?_
  obtain ⟨x_25, hx_25, h⟩ := ltE h
  refine j_nm hx_25 ?_
  refine j_istore_n S D_P_drawMonk_25 (lv := [(3, .int x_25), (2, .int x_17), (1, .int x_7), (0, .ref (eb E + p))]) rfl ⟨rfl, (Nat.le_of_ble_eq_true rfl)⟩ ?_
  refine j_aload_n S D_P_drawMonk_26 3 rfl rfl ?_
  refine j_iload_n S D_P_drawMonk_27 2 rfl rfl ?_
  refine j_iload_n S D_P_drawMonk_28 1 rfl rfl ?_
  refine j_iload_n S D_P_drawMonk_29 0 rfl rfl ?_
  obtain ⟨r_30, m_30, e_30, h⟩ := bdE h
  refine j_callVI (As := [.int x_7, .int x_17, .int x_25]) S D_P_drawMonk_30 mv_R0_83 (c_P_addMonk (cxL X) E p hp x_7 x_17 x_25 e_30) (by decide) (sh_pic hp) rfl rfl rfl rfl (Nat.le_of_ble_eq_true rfl) ?_
  refine j_pop S D_P_drawMonk_33 rfl ?_
  exact rtV hR h _ _ D_P_drawMonk_34

def y_P_lawGives : MethodName := ⟨"SandPicture$Picture", "lawGives", "(IIIII)I"⟩
theorem D_P_lawGives_0 : decode prog_3_method_6_code 0 = .ok (.aload_n 0, 1) ∧ 0 + 1 = 1 := by decide +kernel
theorem D_P_lawGives_1 : decode prog_3_method_6_code 1 = .ok (.getfield 16, 3) ∧ 1 + 3 = 4 := by decide +kernel
theorem D_P_lawGives_4 : decode prog_3_method_6_code 4 = .ok (.iload_n 1, 1) ∧ 4 + 1 = 5 := by decide +kernel
theorem D_P_lawGives_5 : decode prog_3_method_6_code 5 = .ok (.iaload, 1) ∧ 5 + 1 = 6 := by decide +kernel
theorem D_P_lawGives_6 : decode prog_3_method_6_code 6 = .ok (.istore 6, 2) ∧ 6 + 2 = 8 := by decide +kernel
theorem D_P_lawGives_8 : decode prog_3_method_6_code 8 = .ok (.iload 6, 2) ∧ 8 + 2 = 10 := by decide +kernel
theorem D_P_lawGives_10 : decode prog_3_method_6_code 10 = .ok (.ifCond .lt 13, 3) ∧ ((10 : Nat) : Int) + 13 = ((23 : Nat) : Int) ∧ 10 + 3 = 13 := by decide +kernel
theorem D_P_lawGives_23 : decode prog_3_method_6_code 23 = .ok (.iload 5, 2) ∧ 23 + 2 = 25 := by decide +kernel
theorem D_P_lawGives_25 : decode prog_3_method_6_code 25 = .ok (.ireturn, 1) := by decide +kernel
theorem D_P_lawGives_13 : decode prog_3_method_6_code 13 = .ok (.iload 6, 2) ∧ 13 + 2 = 15 := by decide +kernel
theorem D_P_lawGives_15 : decode prog_3_method_6_code 15 = .ok (.aload_n 0, 1) ∧ 15 + 1 = 16 := by decide +kernel
theorem D_P_lawGives_16 : decode prog_3_method_6_code 16 = .ok (.getfield 65, 3) ∧ 16 + 3 = 19 := by decide +kernel
theorem D_P_lawGives_19 : decode prog_3_method_6_code 19 = .ok (.arraylength, 1) ∧ 19 + 1 = 20 := by decide +kernel
theorem D_P_lawGives_20 : decode prog_3_method_6_code 20 = .ok (.if_icmp .lt 6, 3) ∧ ((20 : Nat) : Int) + 6 = ((26 : Nat) : Int) ∧ 20 + 3 = 23 := by decide +kernel
theorem D_P_lawGives_26 : decode prog_3_method_6_code 26 = .ok (.aload_n 0, 1) ∧ 26 + 1 = 27 := by decide +kernel
theorem D_P_lawGives_27 : decode prog_3_method_6_code 27 = .ok (.getfield 65, 3) ∧ 27 + 3 = 30 := by decide +kernel
theorem D_P_lawGives_30 : decode prog_3_method_6_code 30 = .ok (.iload 6, 2) ∧ 30 + 2 = 32 := by decide +kernel
theorem D_P_lawGives_32 : decode prog_3_method_6_code 32 = .ok (.aaload, 1) ∧ 32 + 1 = 33 := by decide +kernel
theorem D_P_lawGives_33 : decode prog_3_method_6_code 33 = .ok (.iload_n 2, 1) ∧ 33 + 1 = 34 := by decide +kernel
theorem D_P_lawGives_34 : decode prog_3_method_6_code 34 = .ok (.iload_n 3, 1) ∧ 34 + 1 = 35 := by decide +kernel
theorem D_P_lawGives_35 : decode prog_3_method_6_code 35 = .ok (.iload 4, 2) ∧ 35 + 2 = 37 := by decide +kernel
theorem D_P_lawGives_37 : decode prog_3_method_6_code 37 = .ok (.aload_n 0, 1) ∧ 37 + 1 = 38 := by decide +kernel
theorem D_P_lawGives_38 : decode prog_3_method_6_code 38 = .ok (.getfield 69, 3) ∧ 38 + 3 = 41 := by decide +kernel
theorem D_P_lawGives_41 : decode prog_3_method_6_code 41 = .ok (.invokevirtual 88, 3) ∧ 41 + 3 = 44 := by decide +kernel
theorem D_P_lawGives_44 : decode prog_3_method_6_code 44 = .ok (.ireturn, 1) := by decide +kernel
def f_P_lawGives (N : Nat) (p : Nat) (a1 : Int32) (a2 : Int32) (a3 : Int32) (a4 : Int32) (a5 : Int32) (mem : Mm) : Option (Int32 × Mm) := if inb a1 3 = true then lt (mem (p + 1) (ix a1)) fun x_6 => if x_6 < 0 then some (a5, mem) else if x_6 < 15 then if inb x_6 15 = true then bd (f_X_worksOut N (7 + 2 * ix x_6) a2 a3 a4 mem) fun r_41 m_41 => some (r_41, m_41) else none else some (a5, mem) else none
theorem c_P_lawGives (l : Launch) (E : En) (N : Nat) (p : Nat) (hp : isPic p) (a1 : Int32) (a2 : Int32) (a3 : Int32) (a4 : Int32) (a5 : Int32) {mem : Mm} {r : Int32} {m2 : Mm} (h : f_P_lawGives N p a1 a2 a3 a4 a5 mem = some (r, m2)) : CtI l E 2 y_P_lawGives prog_3_method_6_code 7 (some .int) [.ref (eb E + p), .int a1, .int a2, .int a3, .int a4, .int a5] SH mem r m2 := by
  refine mk_CtI ⟨by decide, (Nat.le_of_ble_eq_true rfl)⟩ (fun X S hl hR => ?_)
  have S : Std X E prog_3_method_6_code R0 7 2 := S
  show J X E 7 0 [(0, .ref (eb E + p)), (1, .int a1), (2, .int a2), (3, .int a3), (4, .int a4), (5, .int a5)] [] SH mem
  unfold f_P_lawGives at h
  refine j_aload_n S D_P_lawGives_0 0 rfl rfl ?_
  refine j_getR S D_P_lawGives_1 fl_R0_16 (sh_pic hp) rfl ?_
  refine j_iload_n S D_P_lawGives_4 1 rfl rfl ?_
  obtain ⟨g_5, h⟩ := gdE h
  refine j_iald S D_P_lawGives_5 (sh_pic1 hp) g_5 ?_
  obtain ⟨x_6, hx_6, h⟩ := ltE h
  refine j_nm hx_6 ?_
  refine j_istore S D_P_lawGives_6 (lv := [(6, .int x_6), (0, .ref (eb E + p)), (1, .int a1), (2, .int a2), (3, .int a3), (4, .int a4), (5, .int a5)]) rfl (Nat.le_of_ble_eq_true rfl) ?_
  refine j_iload S D_P_lawGives_8 0 rfl ?_
  refine j_if_lt S D_P_lawGives_10 (fun c_10 => ?_) (fun c_10 => ?_)
  · have h := ifT c_10 h
    refine j_iload S D_P_lawGives_23 6 rfl ?_
    exact rtM hR h _ _ D_P_lawGives_25
  · have h := ifF c_10 h
    refine j_iload S D_P_lawGives_13 0 rfl ?_
    refine j_aload_n S D_P_lawGives_15 1 rfl rfl ?_
    refine j_getR S D_P_lawGives_16 fl_R0_65 (sh_pic hp) rfl ?_
    refine j_alenQ S D_P_lawGives_19 sh_1 rfl cn_15 ?_
    refine j_icmp_lt S D_P_lawGives_20 (fun c_20 => ?_) (fun c_20 => ?_)
    · have h := ifT c_20 h
      refine j_aload_n S D_P_lawGives_26 1 rfl rfl ?_
      refine j_getR S D_P_lawGives_27 fl_R0_65 (sh_pic hp) rfl ?_
      refine j_iload S D_P_lawGives_30 0 rfl ?_
      obtain ⟨g_32, h⟩ := gdE h
      refine j_aald S D_P_lawGives_32 sh_1 rfl g_32 (el_txt g_32) ?_
      refine j_iload_n S D_P_lawGives_33 3 rfl rfl ?_
      refine j_iload_n S D_P_lawGives_34 4 rfl rfl ?_
      refine j_iload S D_P_lawGives_35 5 rfl ?_
      refine j_aload_n S D_P_lawGives_37 1 rfl rfl ?_
      refine j_getR S D_P_lawGives_38 fl_R0_69 (sh_pic hp) rfl ?_
      obtain ⟨r_41, m_41, e_41, h⟩ := bdE h
      refine j_callVI (As := [.int a2, .int a3, .int a4, .ref (eb E + 37)]) S D_P_lawGives_41 mv_R0_88 (c_X_worksOut (cxL X) E N (7 + 2 * ix x_6) (ro_txt g_32) a2 a3 a4 e_41) (by decide) (sh_txt (ro_txt g_32)) rfl rfl rfl rfl (Nat.le_of_ble_eq_true rfl) ?_
      exact rtM hR h _ _ D_P_lawGives_44
    · have h := ifF c_20 h
      refine j_iload S D_P_lawGives_23 6 rfl ?_
      exact rtM hR h _ _ D_P_lawGives_25

def y_P_pours : MethodName := ⟨"SandPicture$Picture", "pours", "(II)I"⟩
theorem D_P_pours_0 : decode prog_3_method_7_code 0 = .ok (.aload_n 0, 1) ∧ 0 + 1 = 1 := by decide +kernel
theorem D_P_pours_1 : decode prog_3_method_7_code 1 = .ok (.iconst 0, 1) ∧ 1 + 1 = 2 := by decide +kernel
theorem D_P_pours_2 : decode prog_3_method_7_code 2 = .ok (.aload_n 0, 1) ∧ 2 + 1 = 3 := by decide +kernel
theorem D_P_pours_3 : decode prog_3_method_7_code 3 = .ok (.getfield 26, 3) ∧ 3 + 3 = 6 := by decide +kernel
theorem D_P_pours_6 : decode prog_3_method_7_code 6 = .ok (.iload_n 1, 1) ∧ 6 + 1 = 7 := by decide +kernel
theorem D_P_pours_7 : decode prog_3_method_7_code 7 = .ok (.iaload, 1) ∧ 7 + 1 = 8 := by decide +kernel
theorem D_P_pours_8 : decode prog_3_method_7_code 8 = .ok (.aload_n 0, 1) ∧ 8 + 1 = 9 := by decide +kernel
theorem D_P_pours_9 : decode prog_3_method_7_code 9 = .ok (.getfield 35, 3) ∧ 9 + 3 = 12 := by decide +kernel
theorem D_P_pours_12 : decode prog_3_method_7_code 12 = .ok (.aload_n 0, 1) ∧ 12 + 1 = 13 := by decide +kernel
theorem D_P_pours_13 : decode prog_3_method_7_code 13 = .ok (.getfield 29, 3) ∧ 13 + 3 = 16 := by decide +kernel
theorem D_P_pours_16 : decode prog_3_method_7_code 16 = .ok (.iload_n 1, 1) ∧ 16 + 1 = 17 := by decide +kernel
theorem D_P_pours_17 : decode prog_3_method_7_code 17 = .ok (.iaload, 1) ∧ 17 + 1 = 18 := by decide +kernel
theorem D_P_pours_18 : decode prog_3_method_7_code 18 = .ok (.iaload, 1) ∧ 18 + 1 = 19 := by decide +kernel
theorem D_P_pours_19 : decode prog_3_method_7_code 19 = .ok (.iload_n 2, 1) ∧ 19 + 1 = 20 := by decide +kernel
theorem D_P_pours_20 : decode prog_3_method_7_code 20 = .ok (.aload_n 0, 1) ∧ 20 + 1 = 21 := by decide +kernel
theorem D_P_pours_21 : decode prog_3_method_7_code 21 = .ok (.getfield 26, 3) ∧ 21 + 3 = 24 := by decide +kernel
theorem D_P_pours_24 : decode prog_3_method_7_code 24 = .ok (.iload_n 1, 1) ∧ 24 + 1 = 25 := by decide +kernel
theorem D_P_pours_25 : decode prog_3_method_7_code 25 = .ok (.iaload, 1) ∧ 25 + 1 = 26 := by decide +kernel
theorem D_P_pours_26 : decode prog_3_method_7_code 26 = .ok (.invokevirtual 94, 3) ∧ 26 + 3 = 29 := by decide +kernel
theorem D_P_pours_29 : decode prog_3_method_7_code 29 = .ok (.istore_n 3, 1) ∧ 29 + 1 = 30 := by decide +kernel
theorem D_P_pours_30 : decode prog_3_method_7_code 30 = .ok (.aload_n 0, 1) ∧ 30 + 1 = 31 := by decide +kernel
theorem D_P_pours_31 : decode prog_3_method_7_code 31 = .ok (.getfield 23, 3) ∧ 31 + 3 = 34 := by decide +kernel
theorem D_P_pours_34 : decode prog_3_method_7_code 34 = .ok (.iload_n 1, 1) ∧ 34 + 1 = 35 := by decide +kernel
theorem D_P_pours_35 : decode prog_3_method_7_code 35 = .ok (.iaload, 1) ∧ 35 + 1 = 36 := by decide +kernel
theorem D_P_pours_36 : decode prog_3_method_7_code 36 = .ok (.iconst 0, 1) ∧ 36 + 1 = 37 := by decide +kernel
theorem D_P_pours_37 : decode prog_3_method_7_code 37 = .ok (.sipush 999, 3) ∧ 37 + 3 = 40 := by decide +kernel
theorem D_P_pours_40 : decode prog_3_method_7_code 40 = .ok (.iload_n 3, 1) ∧ 40 + 1 = 41 := by decide +kernel
theorem D_P_pours_41 : decode prog_3_method_7_code 41 = .ok (.invokestatic 98, 3) ∧ 41 + 3 = 44 := by decide +kernel
theorem D_P_pours_44 : decode prog_3_method_7_code 44 = .ok (.invokestatic 104, 3) ∧ 44 + 3 = 47 := by decide +kernel
theorem D_P_pours_47 : decode prog_3_method_7_code 47 = .ok (.iload_n 2, 1) ∧ 47 + 1 = 48 := by decide +kernel
theorem D_P_pours_48 : decode prog_3_method_7_code 48 = .ok (.invokestatic 107, 3) ∧ 48 + 3 = 51 := by decide +kernel
theorem D_P_pours_51 : decode prog_3_method_7_code 51 = .ok (.ireturn, 1) := by decide +kernel
def f_P_pours (N : Nat) (p : Nat) (a1 : Int32) (a2 : Int32) (mem : Mm) : Option (Int32 × Mm) := if inb a1 10 = true then if inb (mem (p + 4) (ix a1)) 6 = true then bd (f_P_lawGives N p 0 (mem (p + 3) (ix a1)) (mem (p + 6) (ix (mem (p + 4) (ix a1)))) a2 (mem (p + 3) (ix a1)) mem) fun r_26 m_26 => bp (f_K_poursOf (m_26 (p + 2) (ix a1)) (if 0 < (if r_26 < 999 then r_26 else 999) then if r_26 < 999 then r_26 else 999 else 0) a2) fun r_48 => some (r_48, m_26) else none else none
theorem c_P_pours (l : Launch) (E : En) (N : Nat) (p : Nat) (hp : isPic p) (a1 : Int32) (a2 : Int32) {mem : Mm} {r : Int32} {m2 : Mm} (h : f_P_pours N p a1 a2 mem = some (r, m2)) : CtI l E 3 y_P_pours prog_3_method_7_code 4 (some .int) [.ref (eb E + p), .int a1, .int a2] SH mem r m2 := by
  refine mk_CtI ⟨by decide, (Nat.le_of_ble_eq_true rfl)⟩ (fun X S hl hR => ?_)
  have S : Std X E prog_3_method_7_code R0 4 3 := S
  show J X E 4 0 [(0, .ref (eb E + p)), (1, .int a1), (2, .int a2)] [] SH mem
  unfold f_P_pours at h
  refine j_aload_n S D_P_pours_0 0 rfl rfl ?_
  refine j_iconst S D_P_pours_1 ci_0 ?_
  refine j_aload_n S D_P_pours_2 0 rfl rfl ?_
  refine j_getR S D_P_pours_3 fl_R0_26 (sh_pic hp) rfl ?_
  refine j_iload_n S D_P_pours_6 1 rfl rfl ?_
  obtain ⟨g_7, h⟩ := gdE h
  refine j_iald S D_P_pours_7 (sh_pic3 hp) g_7 ?_
  refine j_aload_n S D_P_pours_8 0 rfl rfl ?_
  refine j_getR S D_P_pours_9 fl_R0_35 (sh_pic hp) rfl ?_
  refine j_aload_n S D_P_pours_12 0 rfl rfl ?_
  refine j_getR S D_P_pours_13 fl_R0_29 (sh_pic hp) rfl ?_
  refine j_iload_n S D_P_pours_16 1 rfl rfl ?_
  refine j_iald S D_P_pours_17 (sh_pic4 hp) g_7 ?_
  obtain ⟨g_18, h⟩ := gdE h
  refine j_iald S D_P_pours_18 (sh_pic6 hp) g_18 ?_
  refine j_iload_n S D_P_pours_19 2 rfl rfl ?_
  refine j_aload_n S D_P_pours_20 0 rfl rfl ?_
  refine j_getR S D_P_pours_21 fl_R0_26 (sh_pic hp) rfl ?_
  refine j_iload_n S D_P_pours_24 1 rfl rfl ?_
  refine j_iald S D_P_pours_25 (sh_pic3 hp) g_7 ?_
  obtain ⟨r_26, m_26, e_26, h⟩ := bdE h
  refine j_callVI (As := [.int 0, .int (mem (p + 3) (ix a1)), .int (mem (p + 6) (ix (mem (p + 4) (ix a1)))), .int a2, .int (mem (p + 3) (ix a1))]) S D_P_pours_26 mv_R0_94 (c_P_lawGives (cxL X) E N p hp 0 (mem (p + 3) (ix a1)) (mem (p + 6) (ix (mem (p + 4) (ix a1)))) a2 (mem (p + 3) (ix a1)) e_26) (by decide) (sh_pic hp) rfl rfl rfl rfl (Nat.le_of_ble_eq_true rfl) ?_
  refine j_istore_n S D_P_pours_29 (lv := [(3, .int r_26), (0, .ref (eb E + p)), (1, .int a1), (2, .int a2)]) rfl ⟨rfl, (Nat.le_of_ble_eq_true rfl)⟩ ?_
  refine j_aload_n S D_P_pours_30 1 rfl rfl ?_
  refine j_getR S D_P_pours_31 fl_R0_23 (sh_pic hp) rfl ?_
  refine j_iload_n S D_P_pours_34 2 rfl rfl ?_
  refine j_iald S D_P_pours_35 (sh_pic2 hp) g_7 ?_
  refine j_iconst S D_P_pours_36 ci_0 ?_
  refine j_sipush S D_P_pours_37 cs_999 ?_
  refine j_iload_n S D_P_pours_40 0 rfl rfl ?_
  refine j_mmin S D_P_pours_41 (by decide) mm_R0_98 (Nat.le_of_ble_eq_true rfl) ?_
  refine j_mmax S D_P_pours_44 (by decide) mm_R0_104 (Nat.le_of_ble_eq_true rfl) ?_
  refine j_iload_n S D_P_pours_47 3 rfl rfl ?_
  obtain ⟨r_48, e_48, h⟩ := bpE h
  refine j_callSI (As := [.int (m_26 (p + 2) (ix a1)), .int (if 0 < (if r_26 < 999 then r_26 else 999) then if r_26 < 999 then r_26 else 999 else 0), .int a2]) S D_P_pours_48 ms_R0_107 (c_K_poursOf (cxL X) E (m_26 (p + 2) (ix a1)) (if 0 < (if r_26 < 999 then r_26 else 999) then if r_26 < 999 then r_26 else 999 else 0) a2 (mem := m_26) e_48) (by decide) rfl rfl (Nat.le_of_ble_eq_true rfl) ?_
  exact rtM hR h _ _ D_P_pours_51

def y_P_work : MethodName := ⟨"SandPicture$Picture", "work", "(I)V"⟩
theorem D_P_work_0 : decode prog_3_method_10_code 0 = .ok (.aload_n 0, 1) ∧ 0 + 1 = 1 := by decide +kernel
theorem D_P_work_1 : decode prog_3_method_10_code 1 = .ok (.invokevirtual 79, 3) ∧ 1 + 3 = 4 := by decide +kernel
theorem D_P_work_4 : decode prog_3_method_10_code 4 = .ok (.bipush 10, 2) ∧ 4 + 2 = 6 := by decide +kernel
theorem D_P_work_6 : decode prog_3_method_10_code 6 = .ok (.irem, 1) ∧ 6 + 1 = 7 := by decide +kernel
theorem D_P_work_7 : decode prog_3_method_10_code 7 = .ok (.istore_n 2, 1) ∧ 7 + 1 = 8 := by decide +kernel
theorem D_P_work_8 : decode prog_3_method_10_code 8 = .ok (.iload_n 1, 1) ∧ 8 + 1 = 9 := by decide +kernel
theorem D_P_work_9 : decode prog_3_method_10_code 9 = .ok (.aload_n 0, 1) ∧ 9 + 1 = 10 := by decide +kernel
theorem D_P_work_10 : decode prog_3_method_10_code 10 = .ok (.getfield 62, 3) ∧ 10 + 3 = 13 := by decide +kernel
theorem D_P_work_13 : decode prog_3_method_10_code 13 = .ok (.if_icmp .ne 4, 3) ∧ ((13 : Nat) : Int) + 4 = ((17 : Nat) : Int) ∧ 13 + 3 = 16 := by decide +kernel
theorem D_P_work_17 : decode prog_3_method_10_code 17 = .ok (.aload_n 0, 1) ∧ 17 + 1 = 18 := by decide +kernel
theorem D_P_work_18 : decode prog_3_method_10_code 18 = .ok (.getfield 29, 3) ∧ 18 + 3 = 21 := by decide +kernel
theorem D_P_work_21 : decode prog_3_method_10_code 21 = .ok (.iload_n 1, 1) ∧ 21 + 1 = 22 := by decide +kernel
theorem D_P_work_22 : decode prog_3_method_10_code 22 = .ok (.iaload, 1) ∧ 22 + 1 = 23 := by decide +kernel
theorem D_P_work_23 : decode prog_3_method_10_code 23 = .ok (.istore_n 3, 1) ∧ 23 + 1 = 24 := by decide +kernel
theorem D_P_work_24 : decode prog_3_method_10_code 24 = .ok (.iconst 0, 1) ∧ 24 + 1 = 25 := by decide +kernel
theorem D_P_work_25 : decode prog_3_method_10_code 25 = .ok (.aload_n 0, 1) ∧ 25 + 1 = 26 := by decide +kernel
theorem D_P_work_26 : decode prog_3_method_10_code 26 = .ok (.getfield 32, 3) ∧ 26 + 3 = 29 := by decide +kernel
theorem D_P_work_29 : decode prog_3_method_10_code 29 = .ok (.iload_n 3, 1) ∧ 29 + 1 = 30 := by decide +kernel
theorem D_P_work_30 : decode prog_3_method_10_code 30 = .ok (.iaload, 1) ∧ 30 + 1 = 31 := by decide +kernel
theorem D_P_work_31 : decode prog_3_method_10_code 31 = .ok (.aload_n 0, 1) ∧ 31 + 1 = 32 := by decide +kernel
theorem D_P_work_32 : decode prog_3_method_10_code 32 = .ok (.getfield 35, 3) ∧ 32 + 3 = 35 := by decide +kernel
theorem D_P_work_35 : decode prog_3_method_10_code 35 = .ok (.iload_n 3, 1) ∧ 35 + 1 = 36 := by decide +kernel
theorem D_P_work_36 : decode prog_3_method_10_code 36 = .ok (.iaload, 1) ∧ 36 + 1 = 37 := by decide +kernel
theorem D_P_work_37 : decode prog_3_method_10_code 37 = .ok (.isub, 1) ∧ 37 + 1 = 38 := by decide +kernel
theorem D_P_work_38 : decode prog_3_method_10_code 38 = .ok (.invokestatic 104, 3) ∧ 38 + 3 = 41 := by decide +kernel
theorem D_P_work_41 : decode prog_3_method_10_code 41 = .ok (.istore 4, 2) ∧ 41 + 2 = 43 := by decide +kernel
theorem D_P_work_43 : decode prog_3_method_10_code 43 = .ok (.aload_n 0, 1) ∧ 43 + 1 = 44 := by decide +kernel
theorem D_P_work_44 : decode prog_3_method_10_code 44 = .ok (.iload_n 1, 1) ∧ 44 + 1 = 45 := by decide +kernel
theorem D_P_work_45 : decode prog_3_method_10_code 45 = .ok (.iload_n 2, 1) ∧ 45 + 1 = 46 := by decide +kernel
theorem D_P_work_46 : decode prog_3_method_10_code 46 = .ok (.invokevirtual 129, 3) ∧ 46 + 3 = 49 := by decide +kernel
theorem D_P_work_49 : decode prog_3_method_10_code 49 = .ok (.aload_n 0, 1) ∧ 49 + 1 = 50 := by decide +kernel
theorem D_P_work_50 : decode prog_3_method_10_code 50 = .ok (.getfield 44, 3) ∧ 50 + 3 = 53 := by decide +kernel
theorem D_P_work_53 : decode prog_3_method_10_code 53 = .ok (.iload_n 3, 1) ∧ 53 + 1 = 54 := by decide +kernel
theorem D_P_work_54 : decode prog_3_method_10_code 54 = .ok (.iconst 3, 1) ∧ 54 + 1 = 55 := by decide +kernel
theorem D_P_work_55 : decode prog_3_method_10_code 55 = .ok (.irem, 1) ∧ 55 + 1 = 56 := by decide +kernel
theorem D_P_work_56 : decode prog_3_method_10_code 56 = .ok (.iaload, 1) ∧ 56 + 1 = 57 := by decide +kernel
theorem D_P_work_57 : decode prog_3_method_10_code 57 = .ok (.iload 4, 2) ∧ 57 + 2 = 59 := by decide +kernel
theorem D_P_work_59 : decode prog_3_method_10_code 59 = .ok (.invokestatic 98, 3) ∧ 59 + 3 = 62 := by decide +kernel
theorem D_P_work_62 : decode prog_3_method_10_code 62 = .ok (.invokestatic 98, 3) ∧ 62 + 3 = 65 := by decide +kernel
theorem D_P_work_65 : decode prog_3_method_10_code 65 = .ok (.istore 5, 2) ∧ 65 + 2 = 67 := by decide +kernel
theorem D_P_work_67 : decode prog_3_method_10_code 67 = .ok (.iload 5, 2) ∧ 67 + 2 = 69 := by decide +kernel
theorem D_P_work_69 : decode prog_3_method_10_code 69 = .ok (.ifCond .gt 4, 3) ∧ ((69 : Nat) : Int) + 4 = ((73 : Nat) : Int) ∧ 69 + 3 = 72 := by decide +kernel
theorem D_P_work_73 : decode prog_3_method_10_code 73 = .ok (.aload_n 0, 1) ∧ 73 + 1 = 74 := by decide +kernel
theorem D_P_work_74 : decode prog_3_method_10_code 74 = .ok (.getfield 23, 3) ∧ 74 + 3 = 77 := by decide +kernel
theorem D_P_work_77 : decode prog_3_method_10_code 77 = .ok (.iload_n 1, 1) ∧ 77 + 1 = 78 := by decide +kernel
theorem D_P_work_78 : decode prog_3_method_10_code 78 = .ok (.iaload, 1) ∧ 78 + 1 = 79 := by decide +kernel
theorem D_P_work_79 : decode prog_3_method_10_code 79 = .ok (.iload 5, 2) ∧ 79 + 2 = 81 := by decide +kernel
theorem D_P_work_81 : decode prog_3_method_10_code 81 = .ok (.invokestatic 132, 3) ∧ 81 + 3 = 84 := by decide +kernel
theorem D_P_work_84 : decode prog_3_method_10_code 84 = .ok (.istore 6, 2) ∧ 84 + 2 = 86 := by decide +kernel
theorem D_P_work_86 : decode prog_3_method_10_code 86 = .ok (.aload_n 0, 1) ∧ 86 + 1 = 87 := by decide +kernel
theorem D_P_work_87 : decode prog_3_method_10_code 87 = .ok (.getfield 44, 3) ∧ 87 + 3 = 90 := by decide +kernel
theorem D_P_work_90 : decode prog_3_method_10_code 90 = .ok (.iload_n 3, 1) ∧ 90 + 1 = 91 := by decide +kernel
theorem D_P_work_91 : decode prog_3_method_10_code 91 = .ok (.iconst 3, 1) ∧ 91 + 1 = 92 := by decide +kernel
theorem D_P_work_92 : decode prog_3_method_10_code 92 = .ok (.irem, 1) ∧ 92 + 1 = 93 := by decide +kernel
theorem D_P_work_93 : decode prog_3_method_10_code 93 = .ok (.dup2, 1) ∧ 93 + 1 = 94 := by decide +kernel
theorem D_P_work_94 : decode prog_3_method_10_code 94 = .ok (.iaload, 1) ∧ 94 + 1 = 95 := by decide +kernel
theorem D_P_work_95 : decode prog_3_method_10_code 95 = .ok (.iload 5, 2) ∧ 95 + 2 = 97 := by decide +kernel
theorem D_P_work_97 : decode prog_3_method_10_code 97 = .ok (.isub, 1) ∧ 97 + 1 = 98 := by decide +kernel
theorem D_P_work_98 : decode prog_3_method_10_code 98 = .ok (.iastore, 1) ∧ 98 + 1 = 99 := by decide +kernel
theorem D_P_work_99 : decode prog_3_method_10_code 99 = .ok (.aload_n 0, 1) ∧ 99 + 1 = 100 := by decide +kernel
theorem D_P_work_100 : decode prog_3_method_10_code 100 = .ok (.dup, 1) ∧ 100 + 1 = 101 := by decide +kernel
theorem D_P_work_101 : decode prog_3_method_10_code 101 = .ok (.getfield 50, 3) ∧ 101 + 3 = 104 := by decide +kernel
theorem D_P_work_104 : decode prog_3_method_10_code 104 = .ok (.iload 6, 2) ∧ 104 + 2 = 106 := by decide +kernel
theorem D_P_work_106 : decode prog_3_method_10_code 106 = .ok (.iadd, 1) ∧ 106 + 1 = 107 := by decide +kernel
theorem D_P_work_107 : decode prog_3_method_10_code 107 = .ok (.putfield 50, 3) ∧ 107 + 3 = 110 := by decide +kernel
theorem D_P_work_110 : decode prog_3_method_10_code 110 = .ok (.aload_n 0, 1) ∧ 110 + 1 = 111 := by decide +kernel
theorem D_P_work_111 : decode prog_3_method_10_code 111 = .ok (.getfield 35, 3) ∧ 111 + 3 = 114 := by decide +kernel
theorem D_P_work_114 : decode prog_3_method_10_code 114 = .ok (.iload_n 3, 1) ∧ 114 + 1 = 115 := by decide +kernel
theorem D_P_work_115 : decode prog_3_method_10_code 115 = .ok (.dup2, 1) ∧ 115 + 1 = 116 := by decide +kernel
theorem D_P_work_116 : decode prog_3_method_10_code 116 = .ok (.iaload, 1) ∧ 116 + 1 = 117 := by decide +kernel
theorem D_P_work_117 : decode prog_3_method_10_code 117 = .ok (.iload 5, 2) ∧ 117 + 2 = 119 := by decide +kernel
theorem D_P_work_119 : decode prog_3_method_10_code 119 = .ok (.iload 6, 2) ∧ 119 + 2 = 121 := by decide +kernel
theorem D_P_work_121 : decode prog_3_method_10_code 121 = .ok (.isub, 1) ∧ 121 + 1 = 122 := by decide +kernel
theorem D_P_work_122 : decode prog_3_method_10_code 122 = .ok (.iadd, 1) ∧ 122 + 1 = 123 := by decide +kernel
theorem D_P_work_123 : decode prog_3_method_10_code 123 = .ok (.iastore, 1) ∧ 123 + 1 = 124 := by decide +kernel
theorem D_P_work_124 : decode prog_3_method_10_code 124 = .ok (.aload_n 0, 1) ∧ 124 + 1 = 125 := by decide +kernel
theorem D_P_work_125 : decode prog_3_method_10_code 125 = .ok (.getfield 38, 3) ∧ 125 + 3 = 128 := by decide +kernel
theorem D_P_work_128 : decode prog_3_method_10_code 128 = .ok (.iload_n 3, 1) ∧ 128 + 1 = 129 := by decide +kernel
theorem D_P_work_129 : decode prog_3_method_10_code 129 = .ok (.dup2, 1) ∧ 129 + 1 = 130 := by decide +kernel
theorem D_P_work_130 : decode prog_3_method_10_code 130 = .ok (.iaload, 1) ∧ 130 + 1 = 131 := by decide +kernel
theorem D_P_work_131 : decode prog_3_method_10_code 131 = .ok (.aload_n 0, 1) ∧ 131 + 1 = 132 := by decide +kernel
theorem D_P_work_132 : decode prog_3_method_10_code 132 = .ok (.getfield 23, 3) ∧ 132 + 3 = 135 := by decide +kernel
theorem D_P_work_135 : decode prog_3_method_10_code 135 = .ok (.iload_n 1, 1) ∧ 135 + 1 = 136 := by decide +kernel
theorem D_P_work_136 : decode prog_3_method_10_code 136 = .ok (.iaload, 1) ∧ 136 + 1 = 137 := by decide +kernel
theorem D_P_work_137 : decode prog_3_method_10_code 137 = .ok (.iload 5, 2) ∧ 137 + 2 = 139 := by decide +kernel
theorem D_P_work_139 : decode prog_3_method_10_code 139 = .ok (.invokestatic 135, 3) ∧ 139 + 3 = 142 := by decide +kernel
theorem D_P_work_142 : decode prog_3_method_10_code 142 = .ok (.iadd, 1) ∧ 142 + 1 = 143 := by decide +kernel
theorem D_P_work_143 : decode prog_3_method_10_code 143 = .ok (.iastore, 1) ∧ 143 + 1 = 144 := by decide +kernel
theorem D_P_work_144 : decode prog_3_method_10_code 144 = .ok (.return_, 1) := by decide +kernel
theorem D_P_work_72 : decode prog_3_method_10_code 72 = .ok (.return_, 1) := by decide +kernel
theorem D_P_work_16 : decode prog_3_method_10_code 16 = .ok (.return_, 1) := by decide +kernel
def f_P_work (N : Nat) (p : Nat) (a1 : Int32) (mem : Mm) : Option (Mm) := bd (f_P_draw p mem) fun r_1 m_1 => lt (r_1 - r_1 / 10 * 10) fun x_7 => if a1 = m_1 p 18 then some m_1 else if inb a1 10 = true then lt (m_1 (p + 4) (ix a1)) fun x_23 => if inb x_23 6 = true then lt (if 0 < ((m_1 (p + 5) (ix x_23)) - (m_1 (p + 6) (ix x_23))) then (m_1 (p + 5) (ix x_23)) - (m_1 (p + 6) (ix x_23)) else 0) fun x_41 => bd (f_P_pours N p a1 x_7 m_1) fun r_46 m_46 => if inb (x_23 - x_23 / 3 * 3) 3 = true then lt (if (if x_41 < (m_46 (p + 9) (ix (x_23 - x_23 / 3 * 3))) then x_41 else m_46 (p + 9) (ix (x_23 - x_23 / 3 * 3))) < r_46 then if x_41 < (m_46 (p + 9) (ix (x_23 - x_23 / 3 * 3))) then x_41 else m_46 (p + 9) (ix (x_23 - x_23 / 3 * 3)) else r_46) fun x_65 => if 0 < x_65 then bp (f_K_spills (m_46 (p + 2) (ix a1)) x_65) fun r_81 => lt (mst m_46 (p + 9) (ix (x_23 - x_23 / 3 * 3)) ((m_46 (p + 9) (ix (x_23 - x_23 / 3 * 3))) - x_65)) fun m_98 => lt (mst m_98 p 14 ((m_98 p 14) + r_81)) fun m_107 => lt (mst m_107 (p + 6) (ix x_23) ((m_107 (p + 6) (ix x_23)) + (x_65 - r_81))) fun m_123 => bp (f_K_adds (m_123 (p + 2) (ix a1)) x_65) fun r_139 => lt (mst m_123 (p + 7) (ix x_23) ((m_123 (p + 7) (ix x_23)) + r_139)) fun m_143 => some m_143 else some m_46 else none else none else none
theorem c_P_work (l : Launch) (E : En) (N : Nat) (p : Nat) (hp : isPic p) (a1 : Int32) {mem : Mm} {m2 : Mm} (h : f_P_work N p a1 mem = some m2) : CtV l E 4 y_P_work prog_3_method_10_code 7 [.ref (eb E + p), .int a1] SH mem m2 := by
  refine mk_CtV ⟨by decide, (Nat.le_of_ble_eq_true rfl)⟩ (fun X S hl hR => ?_)
  have S : Std X E prog_3_method_10_code R0 7 4 := S
  show J X E 7 0 [(0, .ref (eb E + p)), (1, .int a1)] [] SH mem
  unfold f_P_work at h
  refine j_aload_n S D_P_work_0 0 rfl rfl ?_
  obtain ⟨r_1, m_1, e_1, h⟩ := bdE h
  refine j_callVI (As := []) S D_P_work_1 mv_R0_79 (c_P_draw (cxL X) E p hp e_1) (by decide) (sh_pic hp) rfl rfl rfl rfl (Nat.le_of_ble_eq_true rfl) ?_
  refine j_bipush S D_P_work_4 cb_10 ?_
  refine j_irem S D_P_work_6 nz_10 ?_
  obtain ⟨x_7, hx_7, h⟩ := ltE h
  refine j_nm hx_7 ?_
  refine j_istore_n S D_P_work_7 (lv := [(2, .int x_7), (0, .ref (eb E + p)), (1, .int a1)]) rfl ⟨rfl, (Nat.le_of_ble_eq_true rfl)⟩ ?_
  refine j_iload_n S D_P_work_8 2 rfl rfl ?_
  refine j_aload_n S D_P_work_9 1 rfl rfl ?_
  refine j_getI S D_P_work_10 fl_R0_62 (sh_pic hp) rfl ?_
  refine j_icmp_ne S D_P_work_13 (fun c_13 => ?_) (fun c_13 => ?_)
  · have h := ifF c_13 h
    refine j_aload_n S D_P_work_17 1 rfl rfl ?_
    refine j_getR S D_P_work_18 fl_R0_29 (sh_pic hp) rfl ?_
    refine j_iload_n S D_P_work_21 2 rfl rfl ?_
    obtain ⟨g_22, h⟩ := gdE h
    refine j_iald S D_P_work_22 (sh_pic4 hp) g_22 ?_
    obtain ⟨x_23, hx_23, h⟩ := ltE h
    refine j_nm hx_23 ?_
    refine j_istore_n S D_P_work_23 (lv := [(3, .int x_23), (2, .int x_7), (0, .ref (eb E + p)), (1, .int a1)]) rfl ⟨rfl, (Nat.le_of_ble_eq_true rfl)⟩ ?_
    refine j_iconst S D_P_work_24 ci_0 ?_
    refine j_aload_n S D_P_work_25 2 rfl rfl ?_
    refine j_getR S D_P_work_26 fl_R0_32 (sh_pic hp) rfl ?_
    refine j_iload_n S D_P_work_29 0 rfl rfl ?_
    obtain ⟨g_30, h⟩ := gdE h
    refine j_iald S D_P_work_30 (sh_pic5 hp) g_30 ?_
    refine j_aload_n S D_P_work_31 2 rfl rfl ?_
    refine j_getR S D_P_work_32 fl_R0_35 (sh_pic hp) rfl ?_
    refine j_iload_n S D_P_work_35 0 rfl rfl ?_
    refine j_iald S D_P_work_36 (sh_pic6 hp) g_30 ?_
    refine j_isub S D_P_work_37 ?_
    refine j_mmax S D_P_work_38 (by decide) mm_R0_104 (Nat.le_of_ble_eq_true rfl) ?_
    obtain ⟨x_41, hx_41, h⟩ := ltE h
    refine j_nm hx_41 ?_
    refine j_istore S D_P_work_41 (lv := [(4, .int x_41), (3, .int x_23), (2, .int x_7), (0, .ref (eb E + p)), (1, .int a1)]) rfl (Nat.le_of_ble_eq_true rfl) ?_
    refine j_aload_n S D_P_work_43 3 rfl rfl ?_
    refine j_iload_n S D_P_work_44 4 rfl rfl ?_
    refine j_iload_n S D_P_work_45 2 rfl rfl ?_
    obtain ⟨r_46, m_46, e_46, h⟩ := bdE h
    refine j_callVI (As := [.int a1, .int x_7]) S D_P_work_46 mv_R0_129 (c_P_pours (cxL X) E N p hp a1 x_7 e_46) (by decide) (sh_pic hp) rfl rfl rfl rfl (Nat.le_of_ble_eq_true rfl) ?_
    refine j_aload_n S D_P_work_49 3 rfl rfl ?_
    refine j_getR S D_P_work_50 fl_R0_44 (sh_pic hp) rfl ?_
    refine j_iload_n S D_P_work_53 1 rfl rfl ?_
    refine j_iconst S D_P_work_54 ci_3 ?_
    refine j_irem S D_P_work_55 nz_3 ?_
    obtain ⟨g_56, h⟩ := gdE h
    refine j_iald S D_P_work_56 (sh_pic9 hp) g_56 ?_
    refine j_iload S D_P_work_57 0 rfl ?_
    refine j_mmin S D_P_work_59 (by decide) mm_R0_98 (Nat.le_of_ble_eq_true rfl) ?_
    refine j_mmin S D_P_work_62 (by decide) mm_R0_98 (Nat.le_of_ble_eq_true rfl) ?_
    obtain ⟨x_65, hx_65, h⟩ := ltE h
    refine j_nm hx_65 ?_
    refine j_istore S D_P_work_65 (lv := [(5, .int x_65), (4, .int x_41), (3, .int x_23), (2, .int x_7), (0, .ref (eb E + p)), (1, .int a1)]) rfl (Nat.le_of_ble_eq_true rfl) ?_
    refine j_iload S D_P_work_67 0 rfl ?_
    refine j_if_gt S D_P_work_69 (fun c_69 => ?_) (fun c_69 => ?_)
    · have h := ifT c_69 h
      refine j_aload_n S D_P_work_73 4 rfl rfl ?_
      refine j_getR S D_P_work_74 fl_R0_23 (sh_pic hp) rfl ?_
      refine j_iload_n S D_P_work_77 5 rfl rfl ?_
      refine j_iald S D_P_work_78 (sh_pic2 hp) g_22 ?_
      refine j_iload S D_P_work_79 0 rfl ?_
      obtain ⟨r_81, e_81, h⟩ := bpE h
      refine j_callSI (As := [.int (m_46 (p + 2) (ix a1)), .int x_65]) S D_P_work_81 ms_R0_132 (c_K_spills (cxL X) E (m_46 (p + 2) (ix a1)) x_65 (mem := m_46) e_81) (by decide) rfl rfl (Nat.le_of_ble_eq_true rfl) ?_
      refine j_istore S D_P_work_84 (lv := [(6, .int r_81), (5, .int x_65), (4, .int x_41), (3, .int x_23), (2, .int x_7), (0, .ref (eb E + p)), (1, .int a1)]) rfl (Nat.le_of_ble_eq_true rfl) ?_
      refine j_aload_n S D_P_work_86 5 rfl rfl ?_
      refine j_getR S D_P_work_87 fl_R0_44 (sh_pic hp) rfl ?_
      refine j_iload_n S D_P_work_90 3 rfl rfl ?_
      refine j_iconst S D_P_work_91 ci_3 ?_
      refine j_irem S D_P_work_92 nz_3 ?_
      refine j_dup2 S D_P_work_93 ⟨rfl, rfl⟩ ?_
      refine j_iald S D_P_work_94 (sh_pic9 hp) g_56 ?_
      refine j_iload S D_P_work_95 1 rfl ?_
      refine j_isub S D_P_work_97 ?_
      obtain ⟨m_98, hm_98, h⟩ := ltE h
      refine j_iast S D_P_work_98 (sh_pic9 hp) g_56 ?_
      refine j_mem hm_98 ?_
      refine j_aload_n S D_P_work_99 5 rfl rfl ?_
      refine j_dup S D_P_work_100 rfl ?_
      refine j_getI S D_P_work_101 fl_R0_50 (sh_pic hp) rfl ?_
      refine j_iload S D_P_work_104 0 rfl ?_
      refine j_iadd S D_P_work_106 ?_
      obtain ⟨m_107, hm_107, h⟩ := ltE h
      refine j_putI S D_P_work_107 fp_R0_50 (sh_pic hp) rfl ?_
      refine j_mem hm_107 ?_
      refine j_aload_n S D_P_work_110 5 rfl rfl ?_
      refine j_getR S D_P_work_111 fl_R0_35 (sh_pic hp) rfl ?_
      refine j_iload_n S D_P_work_114 3 rfl rfl ?_
      refine j_dup2 S D_P_work_115 ⟨rfl, rfl⟩ ?_
      refine j_iald S D_P_work_116 (sh_pic6 hp) g_30 ?_
      refine j_iload S D_P_work_117 1 rfl ?_
      refine j_iload S D_P_work_119 0 rfl ?_
      refine j_isub S D_P_work_121 ?_
      refine j_iadd S D_P_work_122 ?_
      obtain ⟨m_123, hm_123, h⟩ := ltE h
      refine j_iast S D_P_work_123 (sh_pic6 hp) g_30 ?_
      refine j_mem hm_123 ?_
      refine j_aload_n S D_P_work_124 5 rfl rfl ?_
      refine j_getR S D_P_work_125 fl_R0_38 (sh_pic hp) rfl ?_
      refine j_iload_n S D_P_work_128 3 rfl rfl ?_
      refine j_dup2 S D_P_work_129 ⟨rfl, rfl⟩ ?_
      refine j_iald S D_P_work_130 (sh_pic7 hp) g_30 ?_
      refine j_aload_n S D_P_work_131 5 rfl rfl ?_
      refine j_getR S D_P_work_132 fl_R0_23 (sh_pic hp) rfl ?_
      refine j_iload_n S D_P_work_135 6 rfl rfl ?_
      refine j_iald S D_P_work_136 (sh_pic2 hp) g_22 ?_
      refine j_iload S D_P_work_137 1 rfl ?_
      obtain ⟨r_139, e_139, h⟩ := bpE h
      refine j_callSI (As := [.int (m_123 (p + 2) (ix a1)), .int x_65]) S D_P_work_139 ms_R0_135 (c_K_adds (cxL X) E (m_123 (p + 2) (ix a1)) x_65 (mem := m_123) e_139) (by decide) rfl rfl (Nat.le_of_ble_eq_true rfl) ?_
      refine j_iadd S D_P_work_142 ?_
      obtain ⟨m_143, hm_143, h⟩ := ltE h
      refine j_iast S D_P_work_143 (sh_pic7 hp) g_30 ?_
      refine j_mem hm_143 ?_
      exact rtV hR h _ _ D_P_work_144
    · have h := ifF c_69 h
      exact rtV hR h _ _ D_P_work_72
  · have h := ifT c_13 h
    exact rtV hR h _ _ D_P_work_16

def y_P_blowFrom : MethodName := ⟨"SandPicture$Picture", "blowFrom", "(I)V"⟩
theorem D_P_blowFrom_0 : decode prog_3_method_11_code 0 = .ok (.iload_n 1, 1) ∧ 0 + 1 = 1 := by decide +kernel
theorem D_P_blowFrom_1 : decode prog_3_method_11_code 1 = .ok (.iconst 1, 1) ∧ 1 + 1 = 2 := by decide +kernel
theorem D_P_blowFrom_2 : decode prog_3_method_11_code 2 = .ok (.iadd, 1) ∧ 2 + 1 = 3 := by decide +kernel
theorem D_P_blowFrom_3 : decode prog_3_method_11_code 3 = .ok (.bipush 6, 2) ∧ 3 + 2 = 5 := by decide +kernel
theorem D_P_blowFrom_5 : decode prog_3_method_11_code 5 = .ok (.irem, 1) ∧ 5 + 1 = 6 := by decide +kernel
theorem D_P_blowFrom_6 : decode prog_3_method_11_code 6 = .ok (.istore_n 2, 1) ∧ 6 + 1 = 7 := by decide +kernel
theorem D_P_blowFrom_7 : decode prog_3_method_11_code 7 = .ok (.aload_n 0, 1) ∧ 7 + 1 = 8 := by decide +kernel
theorem D_P_blowFrom_8 : decode prog_3_method_11_code 8 = .ok (.getfield 35, 3) ∧ 8 + 3 = 11 := by decide +kernel
theorem D_P_blowFrom_11 : decode prog_3_method_11_code 11 = .ok (.iload_n 1, 1) ∧ 11 + 1 = 12 := by decide +kernel
theorem D_P_blowFrom_12 : decode prog_3_method_11_code 12 = .ok (.iaload, 1) ∧ 12 + 1 = 13 := by decide +kernel
theorem D_P_blowFrom_13 : decode prog_3_method_11_code 13 = .ok (.bipush 10, 2) ∧ 13 + 2 = 15 := by decide +kernel
theorem D_P_blowFrom_15 : decode prog_3_method_11_code 15 = .ok (.idiv, 1) ∧ 15 + 1 = 16 := by decide +kernel
theorem D_P_blowFrom_16 : decode prog_3_method_11_code 16 = .ok (.istore_n 3, 1) ∧ 16 + 1 = 17 := by decide +kernel
theorem D_P_blowFrom_17 : decode prog_3_method_11_code 17 = .ok (.aload_n 0, 1) ∧ 17 + 1 = 18 := by decide +kernel
theorem D_P_blowFrom_18 : decode prog_3_method_11_code 18 = .ok (.getfield 35, 3) ∧ 18 + 3 = 21 := by decide +kernel
theorem D_P_blowFrom_21 : decode prog_3_method_11_code 21 = .ok (.iload_n 1, 1) ∧ 21 + 1 = 22 := by decide +kernel
theorem D_P_blowFrom_22 : decode prog_3_method_11_code 22 = .ok (.dup2, 1) ∧ 22 + 1 = 23 := by decide +kernel
theorem D_P_blowFrom_23 : decode prog_3_method_11_code 23 = .ok (.iaload, 1) ∧ 23 + 1 = 24 := by decide +kernel
theorem D_P_blowFrom_24 : decode prog_3_method_11_code 24 = .ok (.iload_n 3, 1) ∧ 24 + 1 = 25 := by decide +kernel
theorem D_P_blowFrom_25 : decode prog_3_method_11_code 25 = .ok (.isub, 1) ∧ 25 + 1 = 26 := by decide +kernel
theorem D_P_blowFrom_26 : decode prog_3_method_11_code 26 = .ok (.iastore, 1) ∧ 26 + 1 = 27 := by decide +kernel
theorem D_P_blowFrom_27 : decode prog_3_method_11_code 27 = .ok (.aload_n 0, 1) ∧ 27 + 1 = 28 := by decide +kernel
theorem D_P_blowFrom_28 : decode prog_3_method_11_code 28 = .ok (.getfield 35, 3) ∧ 28 + 3 = 31 := by decide +kernel
theorem D_P_blowFrom_31 : decode prog_3_method_11_code 31 = .ok (.iload_n 2, 1) ∧ 31 + 1 = 32 := by decide +kernel
theorem D_P_blowFrom_32 : decode prog_3_method_11_code 32 = .ok (.dup2, 1) ∧ 32 + 1 = 33 := by decide +kernel
theorem D_P_blowFrom_33 : decode prog_3_method_11_code 33 = .ok (.iaload, 1) ∧ 33 + 1 = 34 := by decide +kernel
theorem D_P_blowFrom_34 : decode prog_3_method_11_code 34 = .ok (.iload_n 3, 1) ∧ 34 + 1 = 35 := by decide +kernel
theorem D_P_blowFrom_35 : decode prog_3_method_11_code 35 = .ok (.iadd, 1) ∧ 35 + 1 = 36 := by decide +kernel
theorem D_P_blowFrom_36 : decode prog_3_method_11_code 36 = .ok (.iastore, 1) ∧ 36 + 1 = 37 := by decide +kernel
theorem D_P_blowFrom_37 : decode prog_3_method_11_code 37 = .ok (.aload_n 0, 1) ∧ 37 + 1 = 38 := by decide +kernel
theorem D_P_blowFrom_38 : decode prog_3_method_11_code 38 = .ok (.getfield 38, 3) ∧ 38 + 3 = 41 := by decide +kernel
theorem D_P_blowFrom_41 : decode prog_3_method_11_code 41 = .ok (.iload_n 2, 1) ∧ 41 + 1 = 42 := by decide +kernel
theorem D_P_blowFrom_42 : decode prog_3_method_11_code 42 = .ok (.dup2, 1) ∧ 42 + 1 = 43 := by decide +kernel
theorem D_P_blowFrom_43 : decode prog_3_method_11_code 43 = .ok (.iaload, 1) ∧ 43 + 1 = 44 := by decide +kernel
theorem D_P_blowFrom_44 : decode prog_3_method_11_code 44 = .ok (.iload_n 3, 1) ∧ 44 + 1 = 45 := by decide +kernel
theorem D_P_blowFrom_52 : decode prog_3_method_11_code 52 = .ok (.iconst 0, 1) ∧ 52 + 1 = 53 := by decide +kernel
theorem D_P_blowFrom_48 : decode prog_3_method_11_code 48 = .ok (.iconst 1, 1) ∧ 48 + 1 = 49 := by decide +kernel
theorem D_P_blowFrom_49 : decode prog_3_method_11_code 49 = .ok (.goto 4, 3) ∧ ((49 : Nat) : Int) + 4 = ((53 : Nat) : Int) := by decide +kernel
theorem D_P_blowFrom_45 : decode prog_3_method_11_code 45 = .ok (.ifCond .le 7, 3) ∧ ((45 : Nat) : Int) + 7 = ((52 : Nat) : Int) ∧ 45 + 3 = 48 := by decide +kernel
theorem D_P_blowFrom_53 : decode prog_3_method_11_code 53 = .ok (.iadd, 1) ∧ 53 + 1 = 54 := by decide +kernel
theorem D_P_blowFrom_54 : decode prog_3_method_11_code 54 = .ok (.iastore, 1) ∧ 54 + 1 = 55 := by decide +kernel
theorem D_P_blowFrom_55 : decode prog_3_method_11_code 55 = .ok (.return_, 1) := by decide +kernel
def f_P_blowFrom (p : Nat) (a1 : Int32) (mem : Mm) : Option (Mm) := lt ((a1 + 1) - (a1 + 1) / 6 * 6) fun x_6 => if inb a1 6 = true then lt ((mem (p + 6) (ix a1)) / 10) fun x_16 => lt (mst mem (p + 6) (ix a1) ((mem (p + 6) (ix a1)) - x_16)) fun m_26 => if inb x_6 6 = true then lt (mst m_26 (p + 6) (ix x_6) ((m_26 (p + 6) (ix x_6)) + x_16)) fun m_36 => lt (mst m_36 (p + 7) (ix x_6) ((m_36 (p + 7) (ix x_6)) + (if x_16 ≤ 0 then (0 : Int32) else 1))) fun m_54 => some m_54 else none else none
theorem c_P_blowFrom (l : Launch) (E : En) (p : Nat) (hp : isPic p) (a1 : Int32) {mem : Mm} {m2 : Mm} (h : f_P_blowFrom p a1 mem = some m2) : CtV l E 0 y_P_blowFrom prog_3_method_11_code 4 [.ref (eb E + p), .int a1] SH mem m2 := by
  refine mk_CtV ⟨by decide, (Nat.le_of_ble_eq_true rfl)⟩ (fun X S hl hR => ?_)
  have S : Std X E prog_3_method_11_code R0 4 0 := S
  show J X E 4 0 [(0, .ref (eb E + p)), (1, .int a1)] [] SH mem
  unfold f_P_blowFrom at h
  refine j_iload_n S D_P_blowFrom_0 1 rfl rfl ?_
  refine j_iconst S D_P_blowFrom_1 ci_1 ?_
  refine j_iadd S D_P_blowFrom_2 ?_
  refine j_bipush S D_P_blowFrom_3 cb_6 ?_
  refine j_irem S D_P_blowFrom_5 nz_6 ?_
  obtain ⟨x_6, hx_6, h⟩ := ltE h
  refine j_nm hx_6 ?_
  refine j_istore_n S D_P_blowFrom_6 (lv := [(2, .int x_6), (0, .ref (eb E + p)), (1, .int a1)]) rfl ⟨rfl, (Nat.le_of_ble_eq_true rfl)⟩ ?_
  refine j_aload_n S D_P_blowFrom_7 1 rfl rfl ?_
  refine j_getR S D_P_blowFrom_8 fl_R0_35 (sh_pic hp) rfl ?_
  refine j_iload_n S D_P_blowFrom_11 2 rfl rfl ?_
  obtain ⟨g_12, h⟩ := gdE h
  refine j_iald S D_P_blowFrom_12 (sh_pic6 hp) g_12 ?_
  refine j_bipush S D_P_blowFrom_13 cb_10 ?_
  refine j_idiv S D_P_blowFrom_15 nz_10 ?_
  obtain ⟨x_16, hx_16, h⟩ := ltE h
  refine j_nm hx_16 ?_
  refine j_istore_n S D_P_blowFrom_16 (lv := [(3, .int x_16), (2, .int x_6), (0, .ref (eb E + p)), (1, .int a1)]) rfl ⟨rfl, (Nat.le_of_ble_eq_true rfl)⟩ ?_
  refine j_aload_n S D_P_blowFrom_17 2 rfl rfl ?_
  refine j_getR S D_P_blowFrom_18 fl_R0_35 (sh_pic hp) rfl ?_
  refine j_iload_n S D_P_blowFrom_21 3 rfl rfl ?_
  refine j_dup2 S D_P_blowFrom_22 ⟨rfl, rfl⟩ ?_
  refine j_iald S D_P_blowFrom_23 (sh_pic6 hp) g_12 ?_
  refine j_iload_n S D_P_blowFrom_24 0 rfl rfl ?_
  refine j_isub S D_P_blowFrom_25 ?_
  obtain ⟨m_26, hm_26, h⟩ := ltE h
  refine j_iast S D_P_blowFrom_26 (sh_pic6 hp) g_12 ?_
  refine j_mem hm_26 ?_
  refine j_aload_n S D_P_blowFrom_27 2 rfl rfl ?_
  refine j_getR S D_P_blowFrom_28 fl_R0_35 (sh_pic hp) rfl ?_
  refine j_iload_n S D_P_blowFrom_31 1 rfl rfl ?_
  refine j_dup2 S D_P_blowFrom_32 ⟨rfl, rfl⟩ ?_
  obtain ⟨g_33, h⟩ := gdE h
  refine j_iald S D_P_blowFrom_33 (sh_pic6 hp) g_33 ?_
  refine j_iload_n S D_P_blowFrom_34 0 rfl rfl ?_
  refine j_iadd S D_P_blowFrom_35 ?_
  obtain ⟨m_36, hm_36, h⟩ := ltE h
  refine j_iast S D_P_blowFrom_36 (sh_pic6 hp) g_33 ?_
  refine j_mem hm_36 ?_
  refine j_aload_n S D_P_blowFrom_37 2 rfl rfl ?_
  refine j_getR S D_P_blowFrom_38 fl_R0_38 (sh_pic hp) rfl ?_
  refine j_iload_n S D_P_blowFrom_41 1 rfl rfl ?_
  refine j_dup2 S D_P_blowFrom_42 ⟨rfl, rfl⟩ ?_
  refine j_iald S D_P_blowFrom_43 (sh_pic7 hp) g_33 ?_
  refine j_iload_n S D_P_blowFrom_44 0 rfl rfl ?_
  refine j_dia (P := J X E 4 53 [(3, .int x_16), (2, .int x_6), (0, .ref (eb E + p)), (1, .int a1)] [.int (if x_16 ≤ 0 then (0 : Int32) else 1), .int (m_36 (p + 7) (ix x_6)), .int x_6, .ref (eb E + (p + 7))] SH m_36) (fun hj => ?_) ?_
  · refine j_if_le S D_P_blowFrom_45 (fun c_45 => ?_) (fun c_45 => ?_)
    · refine j_iconst S D_P_blowFrom_52 ci_0 ?_
      exact j_jnT hj c_45
    · refine j_iconst S D_P_blowFrom_48 ci_1 ?_
      refine j_goto S D_P_blowFrom_49 ?_
      exact j_jnF hj c_45
  refine j_iadd S D_P_blowFrom_53 ?_
  obtain ⟨m_54, hm_54, h⟩ := ltE h
  refine j_iast S D_P_blowFrom_54 (sh_pic7 hp) g_33 ?_
  refine j_mem hm_54 ?_
  exact rtV hR h _ _ D_P_blowFrom_55

def y_P_allAreDone : MethodName := ⟨"SandPicture$Picture", "allAreDone", "()Z"⟩
theorem D_P_allAreDone_0 : decode prog_3_method_12_code 0 = .ok (.iconst 0, 1) ∧ 0 + 1 = 1 := by decide +kernel
theorem D_P_allAreDone_1 : decode prog_3_method_12_code 1 = .ok (.istore_n 1, 1) ∧ 1 + 1 = 2 := by decide +kernel
theorem D_P_allAreDone_2 : decode prog_3_method_12_code 2 = .ok (.iload_n 1, 1) ∧ 2 + 1 = 3 := by decide +kernel
theorem D_P_allAreDone_3 : decode prog_3_method_12_code 3 = .ok (.bipush 6, 2) ∧ 3 + 2 = 5 := by decide +kernel
theorem D_P_allAreDone_5 : decode prog_3_method_12_code 5 = .ok (.if_icmp .ge 26, 3) ∧ ((5 : Nat) : Int) + 26 = ((31 : Nat) : Int) ∧ 5 + 3 = 8 := by decide +kernel
theorem D_P_allAreDone_31 : decode prog_3_method_12_code 31 = .ok (.iconst 1, 1) ∧ 31 + 1 = 32 := by decide +kernel
theorem D_P_allAreDone_32 : decode prog_3_method_12_code 32 = .ok (.ireturn, 1) := by decide +kernel
theorem D_P_allAreDone_8 : decode prog_3_method_12_code 8 = .ok (.aload_n 0, 1) ∧ 8 + 1 = 9 := by decide +kernel
theorem D_P_allAreDone_9 : decode prog_3_method_12_code 9 = .ok (.getfield 35, 3) ∧ 9 + 3 = 12 := by decide +kernel
theorem D_P_allAreDone_12 : decode prog_3_method_12_code 12 = .ok (.iload_n 1, 1) ∧ 12 + 1 = 13 := by decide +kernel
theorem D_P_allAreDone_13 : decode prog_3_method_12_code 13 = .ok (.iaload, 1) ∧ 13 + 1 = 14 := by decide +kernel
theorem D_P_allAreDone_14 : decode prog_3_method_12_code 14 = .ok (.aload_n 0, 1) ∧ 14 + 1 = 15 := by decide +kernel
theorem D_P_allAreDone_15 : decode prog_3_method_12_code 15 = .ok (.getfield 32, 3) ∧ 15 + 3 = 18 := by decide +kernel
theorem D_P_allAreDone_18 : decode prog_3_method_12_code 18 = .ok (.iload_n 1, 1) ∧ 18 + 1 = 19 := by decide +kernel
theorem D_P_allAreDone_19 : decode prog_3_method_12_code 19 = .ok (.iaload, 1) ∧ 19 + 1 = 20 := by decide +kernel
theorem D_P_allAreDone_20 : decode prog_3_method_12_code 20 = .ok (.if_icmp .ge 5, 3) ∧ ((20 : Nat) : Int) + 5 = ((25 : Nat) : Int) ∧ 20 + 3 = 23 := by decide +kernel
theorem D_P_allAreDone_25 : decode prog_3_method_12_code 25 = .ok (.iinc 1 1, 3) ∧ 25 + 3 = 28 := by decide +kernel
theorem D_P_allAreDone_28 : decode prog_3_method_12_code 28 = .ok (.goto (-26), 3) ∧ ((28 : Nat) : Int) + (-26) = ((2 : Nat) : Int) := by decide +kernel
theorem D_P_allAreDone_23 : decode prog_3_method_12_code 23 = .ok (.iconst 0, 1) ∧ 23 + 1 = 24 := by decide +kernel
theorem D_P_allAreDone_24 : decode prog_3_method_12_code 24 = .ok (.ireturn, 1) := by decide +kernel
def f_P_allAreDone_L2 (p : Nat) : Nat → Int32 → Mm → Option Int32
  | 0, _, _ => none
  | n + 1, b1, mem => if 6 ≤ b1 then some 1 else if inb b1 6 = true then if mem (p + 5) (ix b1) ≤ mem (p + 6) (ix b1) then f_P_allAreDone_L2 p n (b1 + 1) mem else some 0 else none
def f_P_allAreDone (N : Nat) (p : Nat) (mem : Mm) : Option (Int32) := f_P_allAreDone_L2 p N 0 mem
theorem L_P_allAreDone_2 {X : Cx} {E : En} (S : Std X E prog_3_method_12_code R0 2 0) (p : Nat) (hp : isPic p) {r : Int32} {mem : Mm} (hR : isb r = true → RetI X E prog_3_method_12_code 2 SH r mem) : ∀ (n : Nat) (b1 : Int32), f_P_allAreDone_L2 p n b1 mem = some r → J X E 2 2 [(0, .ref (eb E + p)), (1, .int b1)] [] SH mem := by
  intro n
  induction n with
  | zero =>
    intro b1 h; cases h
  | succ n ih =>
    intro b1 h
    rw [f_P_allAreDone_L2] at h
    refine j_iload_n S D_P_allAreDone_2 1 rfl rfl ?_
    refine j_bipush S D_P_allAreDone_3 cb_6 ?_
    refine j_icmp_ge S D_P_allAreDone_5 (fun c_5 => ?_) (fun c_5 => ?_)
    · have h := ifT c_5 h
      refine j_iconst S D_P_allAreDone_31 ci_1 ?_
      exact rtIZ hR h isb1 _ _ D_P_allAreDone_32
    · have h := ifF c_5 h
      refine j_aload_n S D_P_allAreDone_8 0 rfl rfl ?_
      refine j_getR S D_P_allAreDone_9 fl_R0_35 (sh_pic hp) rfl ?_
      refine j_iload_n S D_P_allAreDone_12 1 rfl rfl ?_
      obtain ⟨g_13, h⟩ := gdE h
      refine j_iald S D_P_allAreDone_13 (sh_pic6 hp) g_13 ?_
      refine j_aload_n S D_P_allAreDone_14 0 rfl rfl ?_
      refine j_getR S D_P_allAreDone_15 fl_R0_32 (sh_pic hp) rfl ?_
      refine j_iload_n S D_P_allAreDone_18 1 rfl rfl ?_
      refine j_iald S D_P_allAreDone_19 (sh_pic5 hp) g_13 ?_
      refine j_icmp_ge S D_P_allAreDone_20 (fun c_20 => ?_) (fun c_20 => ?_)
      · have h := ifT c_20 h
        refine j_iinc S D_P_allAreDone_25 1 rfl (congrArg (fun z => b1 + z) ci_1) (lv := [(1, .int (b1 + 1)), (0, .ref (eb E + p))]) rfl (Nat.le_of_ble_eq_true rfl) ?_
        refine j_goto S D_P_allAreDone_28 ?_
        refine j_locals [1, 0] rfl (ih (b1 + 1) h)
      · have h := ifF c_20 h
        refine j_iconst S D_P_allAreDone_23 ci_0 ?_
        exact rtIZ hR h isb0 _ _ D_P_allAreDone_24
theorem c_P_allAreDone (l : Launch) (E : En) (N : Nat) (p : Nat) (hp : isPic p) {mem : Mm} {r : Int32} (h : f_P_allAreDone N p mem = some r) : CtI l E 0 y_P_allAreDone prog_3_method_12_code 2 (some .boolean) [.ref (eb E + p)] SH mem r mem := by
  refine mk_CtZ ⟨by decide, (Nat.le_of_ble_eq_true rfl)⟩ (fun X S hl hR => ?_)
  have S : Std X E prog_3_method_12_code R0 2 0 := S
  show J X E 2 0 [(0, .ref (eb E + p))] [] SH mem
  unfold f_P_allAreDone at h
  refine j_iconst S D_P_allAreDone_0 ci_0 ?_
  refine j_istore_n S D_P_allAreDone_1 (lv := [(1, .int 0), (0, .ref (eb E + p))]) rfl ⟨rfl, (Nat.le_of_ble_eq_true rfl)⟩ ?_
  refine j_locals [1, 0] rfl ?_
  exact L_P_allAreDone_2 S p hp hR N 0 h

def y_P_wipe : MethodName := ⟨"SandPicture$Picture", "wipe", "(I)V"⟩
theorem D_P_wipe_0 : decode prog_3_method_13_code 0 = .ok (.aload_n 0, 1) ∧ 0 + 1 = 1 := by decide +kernel
theorem D_P_wipe_1 : decode prog_3_method_13_code 1 = .ok (.iconst 1, 1) ∧ 1 + 1 = 2 := by decide +kernel
theorem D_P_wipe_2 : decode prog_3_method_13_code 2 = .ok (.aload_n 0, 1) ∧ 2 + 1 = 3 := by decide +kernel
theorem D_P_wipe_3 : decode prog_3_method_13_code 3 = .ok (.getfield 35, 3) ∧ 3 + 3 = 6 := by decide +kernel
theorem D_P_wipe_6 : decode prog_3_method_13_code 6 = .ok (.iload_n 1, 1) ∧ 6 + 1 = 7 := by decide +kernel
theorem D_P_wipe_7 : decode prog_3_method_13_code 7 = .ok (.iaload, 1) ∧ 7 + 1 = 8 := by decide +kernel
theorem D_P_wipe_8 : decode prog_3_method_13_code 8 = .ok (.aload_n 0, 1) ∧ 8 + 1 = 9 := by decide +kernel
theorem D_P_wipe_9 : decode prog_3_method_13_code 9 = .ok (.getfield 38, 3) ∧ 9 + 3 = 12 := by decide +kernel
theorem D_P_wipe_12 : decode prog_3_method_13_code 12 = .ok (.iload_n 1, 1) ∧ 12 + 1 = 13 := by decide +kernel
theorem D_P_wipe_13 : decode prog_3_method_13_code 13 = .ok (.iaload, 1) ∧ 13 + 1 = 14 := by decide +kernel
theorem D_P_wipe_14 : decode prog_3_method_13_code 14 = .ok (.aload_n 0, 1) ∧ 14 + 1 = 15 := by decide +kernel
theorem D_P_wipe_15 : decode prog_3_method_13_code 15 = .ok (.getfield 41, 3) ∧ 15 + 3 = 18 := by decide +kernel
theorem D_P_wipe_18 : decode prog_3_method_13_code 18 = .ok (.iload_n 1, 1) ∧ 18 + 1 = 19 := by decide +kernel
theorem D_P_wipe_19 : decode prog_3_method_13_code 19 = .ok (.iaload, 1) ∧ 19 + 1 = 20 := by decide +kernel
theorem D_P_wipe_20 : decode prog_3_method_13_code 20 = .ok (.aload_n 0, 1) ∧ 20 + 1 = 21 := by decide +kernel
theorem D_P_wipe_21 : decode prog_3_method_13_code 21 = .ok (.getfield 35, 3) ∧ 21 + 3 = 24 := by decide +kernel
theorem D_P_wipe_24 : decode prog_3_method_13_code 24 = .ok (.iload_n 1, 1) ∧ 24 + 1 = 25 := by decide +kernel
theorem D_P_wipe_25 : decode prog_3_method_13_code 25 = .ok (.iaload, 1) ∧ 25 + 1 = 26 := by decide +kernel
theorem D_P_wipe_26 : decode prog_3_method_13_code 26 = .ok (.invokevirtual 94, 3) ∧ 26 + 3 = 29 := by decide +kernel
theorem D_P_wipe_29 : decode prog_3_method_13_code 29 = .ok (.istore_n 2, 1) ∧ 29 + 1 = 30 := by decide +kernel
theorem D_P_wipe_30 : decode prog_3_method_13_code 30 = .ok (.iconst 0, 1) ∧ 30 + 1 = 31 := by decide +kernel
theorem D_P_wipe_31 : decode prog_3_method_13_code 31 = .ok (.aload_n 0, 1) ∧ 31 + 1 = 32 := by decide +kernel
theorem D_P_wipe_32 : decode prog_3_method_13_code 32 = .ok (.getfield 35, 3) ∧ 32 + 3 = 35 := by decide +kernel
theorem D_P_wipe_35 : decode prog_3_method_13_code 35 = .ok (.iload_n 1, 1) ∧ 35 + 1 = 36 := by decide +kernel
theorem D_P_wipe_36 : decode prog_3_method_13_code 36 = .ok (.iaload, 1) ∧ 36 + 1 = 37 := by decide +kernel
theorem D_P_wipe_37 : decode prog_3_method_13_code 37 = .ok (.iload_n 2, 1) ∧ 37 + 1 = 38 := by decide +kernel
theorem D_P_wipe_38 : decode prog_3_method_13_code 38 = .ok (.invokestatic 98, 3) ∧ 38 + 3 = 41 := by decide +kernel
theorem D_P_wipe_41 : decode prog_3_method_13_code 41 = .ok (.invokestatic 104, 3) ∧ 41 + 3 = 44 := by decide +kernel
theorem D_P_wipe_44 : decode prog_3_method_13_code 44 = .ok (.istore_n 3, 1) ∧ 44 + 1 = 45 := by decide +kernel
theorem D_P_wipe_45 : decode prog_3_method_13_code 45 = .ok (.iload_n 3, 1) ∧ 45 + 1 = 46 := by decide +kernel
theorem D_P_wipe_46 : decode prog_3_method_13_code 46 = .ok (.ldc 138, 2) ∧ 46 + 2 = 48 := by decide +kernel
theorem D_P_wipe_48 : decode prog_3_method_13_code 48 = .ok (.aload_n 0, 1) ∧ 48 + 1 = 49 := by decide +kernel
theorem D_P_wipe_49 : decode prog_3_method_13_code 49 = .ok (.getfield 44, 3) ∧ 49 + 3 = 52 := by decide +kernel
theorem D_P_wipe_52 : decode prog_3_method_13_code 52 = .ok (.iload_n 1, 1) ∧ 52 + 1 = 53 := by decide +kernel
theorem D_P_wipe_53 : decode prog_3_method_13_code 53 = .ok (.iconst 3, 1) ∧ 53 + 1 = 54 := by decide +kernel
theorem D_P_wipe_54 : decode prog_3_method_13_code 54 = .ok (.irem, 1) ∧ 54 + 1 = 55 := by decide +kernel
theorem D_P_wipe_55 : decode prog_3_method_13_code 55 = .ok (.iaload, 1) ∧ 55 + 1 = 56 := by decide +kernel
theorem D_P_wipe_56 : decode prog_3_method_13_code 56 = .ok (.isub, 1) ∧ 56 + 1 = 57 := by decide +kernel
theorem D_P_wipe_57 : decode prog_3_method_13_code 57 = .ok (.invokestatic 98, 3) ∧ 57 + 3 = 60 := by decide +kernel
theorem D_P_wipe_60 : decode prog_3_method_13_code 60 = .ok (.istore 4, 2) ∧ 60 + 2 = 62 := by decide +kernel
theorem D_P_wipe_62 : decode prog_3_method_13_code 62 = .ok (.aload_n 0, 1) ∧ 62 + 1 = 63 := by decide +kernel
theorem D_P_wipe_63 : decode prog_3_method_13_code 63 = .ok (.getfield 44, 3) ∧ 63 + 3 = 66 := by decide +kernel
theorem D_P_wipe_66 : decode prog_3_method_13_code 66 = .ok (.iload_n 1, 1) ∧ 66 + 1 = 67 := by decide +kernel
theorem D_P_wipe_67 : decode prog_3_method_13_code 67 = .ok (.iconst 3, 1) ∧ 67 + 1 = 68 := by decide +kernel
theorem D_P_wipe_68 : decode prog_3_method_13_code 68 = .ok (.irem, 1) ∧ 68 + 1 = 69 := by decide +kernel
theorem D_P_wipe_69 : decode prog_3_method_13_code 69 = .ok (.dup2, 1) ∧ 69 + 1 = 70 := by decide +kernel
theorem D_P_wipe_70 : decode prog_3_method_13_code 70 = .ok (.iaload, 1) ∧ 70 + 1 = 71 := by decide +kernel
theorem D_P_wipe_71 : decode prog_3_method_13_code 71 = .ok (.iload 4, 2) ∧ 71 + 2 = 73 := by decide +kernel
theorem D_P_wipe_73 : decode prog_3_method_13_code 73 = .ok (.iadd, 1) ∧ 73 + 1 = 74 := by decide +kernel
theorem D_P_wipe_74 : decode prog_3_method_13_code 74 = .ok (.iastore, 1) ∧ 74 + 1 = 75 := by decide +kernel
theorem D_P_wipe_75 : decode prog_3_method_13_code 75 = .ok (.aload_n 0, 1) ∧ 75 + 1 = 76 := by decide +kernel
theorem D_P_wipe_76 : decode prog_3_method_13_code 76 = .ok (.dup, 1) ∧ 76 + 1 = 77 := by decide +kernel
theorem D_P_wipe_77 : decode prog_3_method_13_code 77 = .ok (.getfield 50, 3) ∧ 77 + 3 = 80 := by decide +kernel
theorem D_P_wipe_80 : decode prog_3_method_13_code 80 = .ok (.aload_n 0, 1) ∧ 80 + 1 = 81 := by decide +kernel
theorem D_P_wipe_81 : decode prog_3_method_13_code 81 = .ok (.getfield 35, 3) ∧ 81 + 3 = 84 := by decide +kernel
theorem D_P_wipe_84 : decode prog_3_method_13_code 84 = .ok (.iload_n 1, 1) ∧ 84 + 1 = 85 := by decide +kernel
theorem D_P_wipe_85 : decode prog_3_method_13_code 85 = .ok (.iaload, 1) ∧ 85 + 1 = 86 := by decide +kernel
theorem D_P_wipe_86 : decode prog_3_method_13_code 86 = .ok (.iload 4, 2) ∧ 86 + 2 = 88 := by decide +kernel
theorem D_P_wipe_88 : decode prog_3_method_13_code 88 = .ok (.isub, 1) ∧ 88 + 1 = 89 := by decide +kernel
theorem D_P_wipe_89 : decode prog_3_method_13_code 89 = .ok (.iadd, 1) ∧ 89 + 1 = 90 := by decide +kernel
theorem D_P_wipe_90 : decode prog_3_method_13_code 90 = .ok (.putfield 50, 3) ∧ 90 + 3 = 93 := by decide +kernel
theorem D_P_wipe_93 : decode prog_3_method_13_code 93 = .ok (.aload_n 0, 1) ∧ 93 + 1 = 94 := by decide +kernel
theorem D_P_wipe_94 : decode prog_3_method_13_code 94 = .ok (.getfield 35, 3) ∧ 94 + 3 = 97 := by decide +kernel
theorem D_P_wipe_97 : decode prog_3_method_13_code 97 = .ok (.iload_n 1, 1) ∧ 97 + 1 = 98 := by decide +kernel
theorem D_P_wipe_98 : decode prog_3_method_13_code 98 = .ok (.iconst 0, 1) ∧ 98 + 1 = 99 := by decide +kernel
theorem D_P_wipe_99 : decode prog_3_method_13_code 99 = .ok (.iastore, 1) ∧ 99 + 1 = 100 := by decide +kernel
theorem D_P_wipe_100 : decode prog_3_method_13_code 100 = .ok (.aload_n 0, 1) ∧ 100 + 1 = 101 := by decide +kernel
theorem D_P_wipe_101 : decode prog_3_method_13_code 101 = .ok (.getfield 38, 3) ∧ 101 + 3 = 104 := by decide +kernel
theorem D_P_wipe_104 : decode prog_3_method_13_code 104 = .ok (.iload_n 1, 1) ∧ 104 + 1 = 105 := by decide +kernel
theorem D_P_wipe_105 : decode prog_3_method_13_code 105 = .ok (.iconst 0, 1) ∧ 105 + 1 = 106 := by decide +kernel
theorem D_P_wipe_106 : decode prog_3_method_13_code 106 = .ok (.iastore, 1) ∧ 106 + 1 = 107 := by decide +kernel
theorem D_P_wipe_107 : decode prog_3_method_13_code 107 = .ok (.aload_n 0, 1) ∧ 107 + 1 = 108 := by decide +kernel
theorem D_P_wipe_108 : decode prog_3_method_13_code 108 = .ok (.getfield 41, 3) ∧ 108 + 3 = 111 := by decide +kernel
theorem D_P_wipe_111 : decode prog_3_method_13_code 111 = .ok (.iload_n 1, 1) ∧ 111 + 1 = 112 := by decide +kernel
theorem D_P_wipe_112 : decode prog_3_method_13_code 112 = .ok (.dup2, 1) ∧ 112 + 1 = 113 := by decide +kernel
theorem D_P_wipe_113 : decode prog_3_method_13_code 113 = .ok (.iaload, 1) ∧ 113 + 1 = 114 := by decide +kernel
theorem D_P_wipe_114 : decode prog_3_method_13_code 114 = .ok (.iconst 1, 1) ∧ 114 + 1 = 115 := by decide +kernel
theorem D_P_wipe_115 : decode prog_3_method_13_code 115 = .ok (.iadd, 1) ∧ 115 + 1 = 116 := by decide +kernel
theorem D_P_wipe_116 : decode prog_3_method_13_code 116 = .ok (.iastore, 1) ∧ 116 + 1 = 117 := by decide +kernel
theorem D_P_wipe_117 : decode prog_3_method_13_code 117 = .ok (.return_, 1) := by decide +kernel
def f_P_wipe (N : Nat) (p : Nat) (a1 : Int32) (mem : Mm) : Option (Mm) := if inb a1 6 = true then bd (f_P_lawGives N p 1 (mem (p + 6) (ix a1)) (mem (p + 7) (ix a1)) (mem (p + 8) (ix a1)) (mem (p + 6) (ix a1)) mem) fun r_26 m_26 => lt (if 0 < (if r_26 < (m_26 (p + 6) (ix a1)) then r_26 else m_26 (p + 6) (ix a1)) then if r_26 < (m_26 (p + 6) (ix a1)) then r_26 else m_26 (p + 6) (ix a1) else 0) fun x_44 => if inb (a1 - a1 / 3 * 3) 3 = true then lt (if (99999 - (m_26 (p + 9) (ix (a1 - a1 / 3 * 3)))) < x_44 then 99999 - (m_26 (p + 9) (ix (a1 - a1 / 3 * 3))) else x_44) fun x_60 => lt (mst m_26 (p + 9) (ix (a1 - a1 / 3 * 3)) ((m_26 (p + 9) (ix (a1 - a1 / 3 * 3))) + x_60)) fun m_74 => lt (mst m_74 p 14 ((m_74 p 14) + ((m_74 (p + 6) (ix a1)) - x_60))) fun m_90 => lt (mst m_90 (p + 6) (ix a1) 0) fun m_99 => lt (mst m_99 (p + 7) (ix a1) 0) fun m_106 => lt (mst m_106 (p + 8) (ix a1) ((m_106 (p + 8) (ix a1)) + 1)) fun m_116 => some m_116 else none else none
theorem c_P_wipe (l : Launch) (E : En) (N : Nat) (p : Nat) (hp : isPic p) (a1 : Int32) {mem : Mm} {m2 : Mm} (h : f_P_wipe N p a1 mem = some m2) : CtV l E 3 y_P_wipe prog_3_method_13_code 5 [.ref (eb E + p), .int a1] SH mem m2 := by
  refine mk_CtV ⟨by decide, (Nat.le_of_ble_eq_true rfl)⟩ (fun X S hl hR => ?_)
  have S : Std X E prog_3_method_13_code R0 5 3 := S
  show J X E 5 0 [(0, .ref (eb E + p)), (1, .int a1)] [] SH mem
  unfold f_P_wipe at h
  refine j_aload_n S D_P_wipe_0 0 rfl rfl ?_
  refine j_iconst S D_P_wipe_1 ci_1 ?_
  refine j_aload_n S D_P_wipe_2 0 rfl rfl ?_
  refine j_getR S D_P_wipe_3 fl_R0_35 (sh_pic hp) rfl ?_
  refine j_iload_n S D_P_wipe_6 1 rfl rfl ?_
  obtain ⟨g_7, h⟩ := gdE h
  refine j_iald S D_P_wipe_7 (sh_pic6 hp) g_7 ?_
  refine j_aload_n S D_P_wipe_8 0 rfl rfl ?_
  refine j_getR S D_P_wipe_9 fl_R0_38 (sh_pic hp) rfl ?_
  refine j_iload_n S D_P_wipe_12 1 rfl rfl ?_
  refine j_iald S D_P_wipe_13 (sh_pic7 hp) g_7 ?_
  refine j_aload_n S D_P_wipe_14 0 rfl rfl ?_
  refine j_getR S D_P_wipe_15 fl_R0_41 (sh_pic hp) rfl ?_
  refine j_iload_n S D_P_wipe_18 1 rfl rfl ?_
  refine j_iald S D_P_wipe_19 (sh_pic8 hp) g_7 ?_
  refine j_aload_n S D_P_wipe_20 0 rfl rfl ?_
  refine j_getR S D_P_wipe_21 fl_R0_35 (sh_pic hp) rfl ?_
  refine j_iload_n S D_P_wipe_24 1 rfl rfl ?_
  refine j_iald S D_P_wipe_25 (sh_pic6 hp) g_7 ?_
  obtain ⟨r_26, m_26, e_26, h⟩ := bdE h
  refine j_callVI (As := [.int 1, .int (mem (p + 6) (ix a1)), .int (mem (p + 7) (ix a1)), .int (mem (p + 8) (ix a1)), .int (mem (p + 6) (ix a1))]) S D_P_wipe_26 mv_R0_94 (c_P_lawGives (cxL X) E N p hp 1 (mem (p + 6) (ix a1)) (mem (p + 7) (ix a1)) (mem (p + 8) (ix a1)) (mem (p + 6) (ix a1)) e_26) (by decide) (sh_pic hp) rfl rfl rfl rfl (Nat.le_of_ble_eq_true rfl) ?_
  refine j_istore_n S D_P_wipe_29 (lv := [(2, .int r_26), (0, .ref (eb E + p)), (1, .int a1)]) rfl ⟨rfl, (Nat.le_of_ble_eq_true rfl)⟩ ?_
  refine j_iconst S D_P_wipe_30 ci_0 ?_
  refine j_aload_n S D_P_wipe_31 1 rfl rfl ?_
  refine j_getR S D_P_wipe_32 fl_R0_35 (sh_pic hp) rfl ?_
  refine j_iload_n S D_P_wipe_35 2 rfl rfl ?_
  refine j_iald S D_P_wipe_36 (sh_pic6 hp) g_7 ?_
  refine j_iload_n S D_P_wipe_37 0 rfl rfl ?_
  refine j_mmin S D_P_wipe_38 (by decide) mm_R0_98 (Nat.le_of_ble_eq_true rfl) ?_
  refine j_mmax S D_P_wipe_41 (by decide) mm_R0_104 (Nat.le_of_ble_eq_true rfl) ?_
  obtain ⟨x_44, hx_44, h⟩ := ltE h
  refine j_nm hx_44 ?_
  refine j_istore_n S D_P_wipe_44 (lv := [(3, .int x_44), (2, .int r_26), (0, .ref (eb E + p)), (1, .int a1)]) rfl ⟨rfl, (Nat.le_of_ble_eq_true rfl)⟩ ?_
  refine j_iload_n S D_P_wipe_45 0 rfl rfl ?_
  refine j_ldc S D_P_wipe_46 co_R0_138 ?_
  refine j_aload_n S D_P_wipe_48 2 rfl rfl ?_
  refine j_getR S D_P_wipe_49 fl_R0_44 (sh_pic hp) rfl ?_
  refine j_iload_n S D_P_wipe_52 3 rfl rfl ?_
  refine j_iconst S D_P_wipe_53 ci_3 ?_
  refine j_irem S D_P_wipe_54 nz_3 ?_
  obtain ⟨g_55, h⟩ := gdE h
  refine j_iald S D_P_wipe_55 (sh_pic9 hp) g_55 ?_
  refine j_isub S D_P_wipe_56 ?_
  refine j_mmin S D_P_wipe_57 (by decide) mm_R0_98 (Nat.le_of_ble_eq_true rfl) ?_
  obtain ⟨x_60, hx_60, h⟩ := ltE h
  refine j_nm hx_60 ?_
  refine j_istore S D_P_wipe_60 (lv := [(4, .int x_60), (3, .int x_44), (2, .int r_26), (0, .ref (eb E + p)), (1, .int a1)]) rfl (Nat.le_of_ble_eq_true rfl) ?_
  refine j_aload_n S D_P_wipe_62 3 rfl rfl ?_
  refine j_getR S D_P_wipe_63 fl_R0_44 (sh_pic hp) rfl ?_
  refine j_iload_n S D_P_wipe_66 4 rfl rfl ?_
  refine j_iconst S D_P_wipe_67 ci_3 ?_
  refine j_irem S D_P_wipe_68 nz_3 ?_
  refine j_dup2 S D_P_wipe_69 ⟨rfl, rfl⟩ ?_
  refine j_iald S D_P_wipe_70 (sh_pic9 hp) g_55 ?_
  refine j_iload S D_P_wipe_71 0 rfl ?_
  refine j_iadd S D_P_wipe_73 ?_
  obtain ⟨m_74, hm_74, h⟩ := ltE h
  refine j_iast S D_P_wipe_74 (sh_pic9 hp) g_55 ?_
  refine j_mem hm_74 ?_
  refine j_aload_n S D_P_wipe_75 3 rfl rfl ?_
  refine j_dup S D_P_wipe_76 rfl ?_
  refine j_getI S D_P_wipe_77 fl_R0_50 (sh_pic hp) rfl ?_
  refine j_aload_n S D_P_wipe_80 3 rfl rfl ?_
  refine j_getR S D_P_wipe_81 fl_R0_35 (sh_pic hp) rfl ?_
  refine j_iload_n S D_P_wipe_84 4 rfl rfl ?_
  refine j_iald S D_P_wipe_85 (sh_pic6 hp) g_7 ?_
  refine j_iload S D_P_wipe_86 0 rfl ?_
  refine j_isub S D_P_wipe_88 ?_
  refine j_iadd S D_P_wipe_89 ?_
  obtain ⟨m_90, hm_90, h⟩ := ltE h
  refine j_putI S D_P_wipe_90 fp_R0_50 (sh_pic hp) rfl ?_
  refine j_mem hm_90 ?_
  refine j_aload_n S D_P_wipe_93 3 rfl rfl ?_
  refine j_getR S D_P_wipe_94 fl_R0_35 (sh_pic hp) rfl ?_
  refine j_iload_n S D_P_wipe_97 4 rfl rfl ?_
  refine j_iconst S D_P_wipe_98 ci_0 ?_
  obtain ⟨m_99, hm_99, h⟩ := ltE h
  refine j_iast S D_P_wipe_99 (sh_pic6 hp) g_7 ?_
  refine j_mem hm_99 ?_
  refine j_aload_n S D_P_wipe_100 3 rfl rfl ?_
  refine j_getR S D_P_wipe_101 fl_R0_38 (sh_pic hp) rfl ?_
  refine j_iload_n S D_P_wipe_104 4 rfl rfl ?_
  refine j_iconst S D_P_wipe_105 ci_0 ?_
  obtain ⟨m_106, hm_106, h⟩ := ltE h
  refine j_iast S D_P_wipe_106 (sh_pic7 hp) g_7 ?_
  refine j_mem hm_106 ?_
  refine j_aload_n S D_P_wipe_107 3 rfl rfl ?_
  refine j_getR S D_P_wipe_108 fl_R0_41 (sh_pic hp) rfl ?_
  refine j_iload_n S D_P_wipe_111 4 rfl rfl ?_
  refine j_dup2 S D_P_wipe_112 ⟨rfl, rfl⟩ ?_
  refine j_iald S D_P_wipe_113 (sh_pic8 hp) g_7 ?_
  refine j_iconst S D_P_wipe_114 ci_1 ?_
  refine j_iadd S D_P_wipe_115 ?_
  obtain ⟨m_116, hm_116, h⟩ := ltE h
  refine j_iast S D_P_wipe_116 (sh_pic8 hp) g_7 ?_
  refine j_mem hm_116 ?_
  exact rtV hR h _ _ D_P_wipe_117

def y_P_passHour : MethodName := ⟨"SandPicture$Picture", "passHour", "()I"⟩
theorem D_P_passHour_0 : decode prog_3_method_9_code 0 = .ok (.iconst 0, 1) ∧ 0 + 1 = 1 := by decide +kernel
theorem D_P_passHour_1 : decode prog_3_method_9_code 1 = .ok (.istore_n 1, 1) ∧ 1 + 1 = 2 := by decide +kernel
theorem D_P_passHour_2 : decode prog_3_method_9_code 2 = .ok (.iload_n 1, 1) ∧ 2 + 1 = 3 := by decide +kernel
theorem D_P_passHour_3 : decode prog_3_method_9_code 3 = .ok (.aload_n 0, 1) ∧ 3 + 1 = 4 := by decide +kernel
theorem D_P_passHour_4 : decode prog_3_method_9_code 4 = .ok (.getfield 20, 3) ∧ 4 + 3 = 7 := by decide +kernel
theorem D_P_passHour_7 : decode prog_3_method_9_code 7 = .ok (.if_icmp .ge 14, 3) ∧ ((7 : Nat) : Int) + 14 = ((21 : Nat) : Int) ∧ 7 + 3 = 10 := by decide +kernel
theorem D_P_passHour_10 : decode prog_3_method_9_code 10 = .ok (.aload_n 0, 1) ∧ 10 + 1 = 11 := by decide +kernel
theorem D_P_passHour_11 : decode prog_3_method_9_code 11 = .ok (.iload_n 1, 1) ∧ 11 + 1 = 12 := by decide +kernel
theorem D_P_passHour_12 : decode prog_3_method_9_code 12 = .ok (.invokevirtual 115, 3) ∧ 12 + 3 = 15 := by decide +kernel
theorem D_P_passHour_15 : decode prog_3_method_9_code 15 = .ok (.iinc 1 1, 3) ∧ 15 + 3 = 18 := by decide +kernel
theorem D_P_passHour_18 : decode prog_3_method_9_code 18 = .ok (.goto (-16), 3) ∧ ((18 : Nat) : Int) + (-16) = ((2 : Nat) : Int) := by decide +kernel
theorem D_P_passHour_21 : decode prog_3_method_9_code 21 = .ok (.aload_n 0, 1) ∧ 21 + 1 = 22 := by decide +kernel
theorem D_P_passHour_22 : decode prog_3_method_9_code 22 = .ok (.invokevirtual 79, 3) ∧ 22 + 3 = 25 := by decide +kernel
theorem D_P_passHour_25 : decode prog_3_method_9_code 25 = .ok (.bipush 100, 2) ∧ 25 + 2 = 27 := by decide +kernel
theorem D_P_passHour_27 : decode prog_3_method_9_code 27 = .ok (.irem, 1) ∧ 27 + 1 = 28 := by decide +kernel
theorem D_P_passHour_28 : decode prog_3_method_9_code 28 = .ok (.aload_n 0, 1) ∧ 28 + 1 = 29 := by decide +kernel
theorem D_P_passHour_29 : decode prog_3_method_9_code 29 = .ok (.getfield 47, 3) ∧ 29 + 3 = 32 := by decide +kernel
theorem D_P_passHour_32 : decode prog_3_method_9_code 32 = .ok (.if_icmp .ge 14, 3) ∧ ((32 : Nat) : Int) + 14 = ((46 : Nat) : Int) ∧ 32 + 3 = 35 := by decide +kernel
theorem D_P_passHour_46 : decode prog_3_method_9_code 46 = .ok (.aload_n 0, 1) ∧ 46 + 1 = 47 := by decide +kernel
theorem D_P_passHour_47 : decode prog_3_method_9_code 47 = .ok (.invokevirtual 122, 3) ∧ 47 + 3 = 50 := by decide +kernel
theorem D_P_passHour_50 : decode prog_3_method_9_code 50 = .ok (.ifCond .eq 13, 3) ∧ ((50 : Nat) : Int) + 13 = ((63 : Nat) : Int) ∧ 50 + 3 = 53 := by decide +kernel
theorem D_P_passHour_63 : decode prog_3_method_9_code 63 = .ok (.iconst 0, 1) ∧ 63 + 1 = 64 := by decide +kernel
theorem D_P_passHour_64 : decode prog_3_method_9_code 64 = .ok (.istore_n 1, 1) ∧ 64 + 1 = 65 := by decide +kernel
theorem D_P_passHour_65 : decode prog_3_method_9_code 65 = .ok (.iconst 0, 1) ∧ 65 + 1 = 66 := by decide +kernel
theorem D_P_passHour_66 : decode prog_3_method_9_code 66 = .ok (.istore_n 2, 1) ∧ 66 + 1 = 67 := by decide +kernel
theorem D_P_passHour_67 : decode prog_3_method_9_code 67 = .ok (.iload_n 2, 1) ∧ 67 + 1 = 68 := by decide +kernel
theorem D_P_passHour_68 : decode prog_3_method_9_code 68 = .ok (.bipush 6, 2) ∧ 68 + 2 = 70 := by decide +kernel
theorem D_P_passHour_70 : decode prog_3_method_9_code 70 = .ok (.if_icmp .ge 32, 3) ∧ ((70 : Nat) : Int) + 32 = ((102 : Nat) : Int) ∧ 70 + 3 = 73 := by decide +kernel
theorem D_P_passHour_73 : decode prog_3_method_9_code 73 = .ok (.aload_n 0, 1) ∧ 73 + 1 = 74 := by decide +kernel
theorem D_P_passHour_74 : decode prog_3_method_9_code 74 = .ok (.getfield 35, 3) ∧ 74 + 3 = 77 := by decide +kernel
theorem D_P_passHour_77 : decode prog_3_method_9_code 77 = .ok (.iload_n 2, 1) ∧ 77 + 1 = 78 := by decide +kernel
theorem D_P_passHour_78 : decode prog_3_method_9_code 78 = .ok (.iaload, 1) ∧ 78 + 1 = 79 := by decide +kernel
theorem D_P_passHour_79 : decode prog_3_method_9_code 79 = .ok (.aload_n 0, 1) ∧ 79 + 1 = 80 := by decide +kernel
theorem D_P_passHour_80 : decode prog_3_method_9_code 80 = .ok (.getfield 32, 3) ∧ 80 + 3 = 83 := by decide +kernel
theorem D_P_passHour_83 : decode prog_3_method_9_code 83 = .ok (.iload_n 2, 1) ∧ 83 + 1 = 84 := by decide +kernel
theorem D_P_passHour_84 : decode prog_3_method_9_code 84 = .ok (.iaload, 1) ∧ 84 + 1 = 85 := by decide +kernel
theorem D_P_passHour_85 : decode prog_3_method_9_code 85 = .ok (.if_icmp .lt 11, 3) ∧ ((85 : Nat) : Int) + 11 = ((96 : Nat) : Int) ∧ 85 + 3 = 88 := by decide +kernel
theorem D_P_passHour_96 : decode prog_3_method_9_code 96 = .ok (.iinc 2 1, 3) ∧ 96 + 3 = 99 := by decide +kernel
theorem D_P_passHour_99 : decode prog_3_method_9_code 99 = .ok (.goto (-32), 3) ∧ ((99 : Nat) : Int) + (-32) = ((67 : Nat) : Int) := by decide +kernel
theorem D_P_passHour_88 : decode prog_3_method_9_code 88 = .ok (.aload_n 0, 1) ∧ 88 + 1 = 89 := by decide +kernel
theorem D_P_passHour_89 : decode prog_3_method_9_code 89 = .ok (.iload_n 2, 1) ∧ 89 + 1 = 90 := by decide +kernel
theorem D_P_passHour_90 : decode prog_3_method_9_code 90 = .ok (.invokevirtual 126, 3) ∧ 90 + 3 = 93 := by decide +kernel
theorem D_P_passHour_93 : decode prog_3_method_9_code 93 = .ok (.iinc 1 1, 3) ∧ 93 + 3 = 96 := by decide +kernel
theorem D_P_passHour_102 : decode prog_3_method_9_code 102 = .ok (.aload_n 0, 1) ∧ 102 + 1 = 103 := by decide +kernel
theorem D_P_passHour_103 : decode prog_3_method_9_code 103 = .ok (.dup, 1) ∧ 103 + 1 = 104 := by decide +kernel
theorem D_P_passHour_104 : decode prog_3_method_9_code 104 = .ok (.getfield 53, 3) ∧ 104 + 3 = 107 := by decide +kernel
theorem D_P_passHour_107 : decode prog_3_method_9_code 107 = .ok (.iconst 1, 1) ∧ 107 + 1 = 108 := by decide +kernel
theorem D_P_passHour_108 : decode prog_3_method_9_code 108 = .ok (.iadd, 1) ∧ 108 + 1 = 109 := by decide +kernel
theorem D_P_passHour_109 : decode prog_3_method_9_code 109 = .ok (.putfield 53, 3) ∧ 109 + 3 = 112 := by decide +kernel
theorem D_P_passHour_112 : decode prog_3_method_9_code 112 = .ok (.iload_n 1, 1) ∧ 112 + 1 = 113 := by decide +kernel
theorem D_P_passHour_113 : decode prog_3_method_9_code 113 = .ok (.ireturn, 1) := by decide +kernel
theorem D_P_passHour_53 : decode prog_3_method_9_code 53 = .ok (.aload_n 0, 1) ∧ 53 + 1 = 54 := by decide +kernel
theorem D_P_passHour_54 : decode prog_3_method_9_code 54 = .ok (.dup, 1) ∧ 54 + 1 = 55 := by decide +kernel
theorem D_P_passHour_55 : decode prog_3_method_9_code 55 = .ok (.getfield 56, 3) ∧ 55 + 3 = 58 := by decide +kernel
theorem D_P_passHour_58 : decode prog_3_method_9_code 58 = .ok (.iconst 1, 1) ∧ 58 + 1 = 59 := by decide +kernel
theorem D_P_passHour_59 : decode prog_3_method_9_code 59 = .ok (.iadd, 1) ∧ 59 + 1 = 60 := by decide +kernel
theorem D_P_passHour_60 : decode prog_3_method_9_code 60 = .ok (.putfield 56, 3) ∧ 60 + 3 = 63 := by decide +kernel
theorem D_P_passHour_35 : decode prog_3_method_9_code 35 = .ok (.aload_n 0, 1) ∧ 35 + 1 = 36 := by decide +kernel
theorem D_P_passHour_36 : decode prog_3_method_9_code 36 = .ok (.aload_n 0, 1) ∧ 36 + 1 = 37 := by decide +kernel
theorem D_P_passHour_37 : decode prog_3_method_9_code 37 = .ok (.invokevirtual 79, 3) ∧ 37 + 3 = 40 := by decide +kernel
theorem D_P_passHour_40 : decode prog_3_method_9_code 40 = .ok (.bipush 6, 2) ∧ 40 + 2 = 42 := by decide +kernel
theorem D_P_passHour_42 : decode prog_3_method_9_code 42 = .ok (.irem, 1) ∧ 42 + 1 = 43 := by decide +kernel
theorem D_P_passHour_43 : decode prog_3_method_9_code 43 = .ok (.invokevirtual 119, 3) ∧ 43 + 3 = 46 := by decide +kernel
def f_P_passHour_L2 (N : Nat) (p : Nat) : Nat → Int32 → Mm → Option (Int32 × Mm)
  | 0, _, _ => none
  | n + 1, b1, mem => if mem p 4 ≤ b1 then some (b1, mem) else bp (f_P_work N p b1 mem) fun m_12 => f_P_passHour_L2 N p n (b1 + 1) m_12
def f_P_passHour_L67 (N : Nat) (p : Nat) : Nat → Int32 → Int32 → Mm → Option ((Int32 × Int32) × Mm)
  | 0, _, _, _ => none
  | n + 1, b1, b2, mem => if 6 ≤ b2 then some ((b1, b2), mem) else if inb b2 6 = true then if mem (p + 6) (ix b2) < mem (p + 5) (ix b2) then f_P_passHour_L67 N p n b1 (b2 + 1) mem else bp (f_P_wipe N p b2 mem) fun m_90 => f_P_passHour_L67 N p n (b1 + 1) (b2 + 1) m_90 else none
def f_P_passHour (N : Nat) (p : Nat) (mem : Mm) : Option (Int32 × Mm) := bd (f_P_passHour_L2 N p N 0 mem) fun y_2 m_2 => bd (f_P_draw p m_2) fun r_22 m_22 => if m_22 p 13 ≤ (r_22 - r_22 / 100 * 100) then bp (f_P_allAreDone N p m_22) fun r_47 => if r_47 = 0 then bd (f_P_passHour_L67 N p N 0 0 m_22) fun y_67 m_67 => lt (mst m_67 p 15 ((m_67 p 15) + 1)) fun m_109 => some (y_67.1, m_109) else lt (mst m_22 p 16 ((m_22 p 16) + 1)) fun m_60 => bd (f_P_passHour_L67 N p N 0 0 m_60) fun y_67 m_67 => lt (mst m_67 p 15 ((m_67 p 15) + 1)) fun m_109 => some (y_67.1, m_109) else bd (f_P_draw p m_22) fun r_37 m_37 => bp (f_P_blowFrom p (r_37 - r_37 / 6 * 6) m_37) fun m_43 => bp (f_P_allAreDone N p m_43) fun r_47 => if r_47 = 0 then bd (f_P_passHour_L67 N p N 0 0 m_43) fun y_67 m_67 => lt (mst m_67 p 15 ((m_67 p 15) + 1)) fun m_109 => some (y_67.1, m_109) else lt (mst m_43 p 16 ((m_43 p 16) + 1)) fun m_60 => bd (f_P_passHour_L67 N p N 0 0 m_60) fun y_67 m_67 => lt (mst m_67 p 15 ((m_67 p 15) + 1)) fun m_109 => some (y_67.1, m_109)
theorem L_P_passHour_2 {X : Cx} {E : En} (S : Std X E prog_3_method_9_code R0 3 5) (N : Nat) (p : Nat) (hp : isPic p) : ∀ (n : Nat) (b1 : Int32) (mem : Mm) (z : Int32) (m2 : Mm), f_P_passHour_L2 N p n b1 mem = some (z, m2) → J X E 3 21 [(0, .ref (eb E + p)), (1, .int z)] [] SH m2 → J X E 3 2 [(0, .ref (eb E + p)), (1, .int b1)] [] SH mem := by
  intro n
  induction n with
  | zero =>
    intro b1 mem z m2 h hk; cases h
  | succ n ih =>
    intro b1 mem z m2 h hk
    rw [f_P_passHour_L2] at h
    refine j_iload_n S D_P_passHour_2 1 rfl rfl ?_
    refine j_aload_n S D_P_passHour_3 0 rfl rfl ?_
    refine j_getI S D_P_passHour_4 fl_R0_20 (sh_pic hp) rfl ?_
    refine j_icmp_ge S D_P_passHour_7 (fun c_7 => ?_) (fun c_7 => ?_)
    · have h := ifT c_7 h
      cases h
      exact j_locals [0, 1] rfl hk
    · have h := ifF c_7 h
      refine j_aload_n S D_P_passHour_10 0 rfl rfl ?_
      refine j_iload_n S D_P_passHour_11 1 rfl rfl ?_
      obtain ⟨m_12, e_12, h⟩ := bpE h
      refine j_callVV (As := [.int b1]) S D_P_passHour_12 mv_R0_115 (c_P_work (cxL X) E N p hp b1 e_12) (by decide) (sh_pic hp) rfl rfl rfl rfl (Nat.le_of_ble_eq_true rfl) ?_
      refine j_iinc S D_P_passHour_15 1 rfl (congrArg (fun z => b1 + z) ci_1) (lv := [(1, .int (b1 + 1)), (0, .ref (eb E + p))]) rfl (Nat.le_of_ble_eq_true rfl) ?_
      refine j_goto S D_P_passHour_18 ?_
      refine j_locals [1, 0] rfl (ih (b1 + 1) m_12 _ _ h hk)
theorem L_P_passHour_67 {X : Cx} {E : En} (S : Std X E prog_3_method_9_code R0 3 5) (N : Nat) (p : Nat) (hp : isPic p) : ∀ (n : Nat) (b1 : Int32) (b2 : Int32) (mem : Mm) (z : Int32 × Int32) (m2 : Mm), f_P_passHour_L67 N p n b1 b2 mem = some (z, m2) → J X E 3 102 [(0, .ref (eb E + p)), (1, .int z.1), (2, .int z.2)] [] SH m2 → J X E 3 67 [(0, .ref (eb E + p)), (1, .int b1), (2, .int b2)] [] SH mem := by
  intro n
  induction n with
  | zero =>
    intro b1 b2 mem z m2 h hk; cases h
  | succ n ih =>
    intro b1 b2 mem z m2 h hk
    rw [f_P_passHour_L67] at h
    refine j_iload_n S D_P_passHour_67 2 rfl rfl ?_
    refine j_bipush S D_P_passHour_68 cb_6 ?_
    refine j_icmp_ge S D_P_passHour_70 (fun c_70 => ?_) (fun c_70 => ?_)
    · have h := ifT c_70 h
      cases h
      exact j_locals [0, 1, 2] rfl hk
    · have h := ifF c_70 h
      refine j_aload_n S D_P_passHour_73 0 rfl rfl ?_
      refine j_getR S D_P_passHour_74 fl_R0_35 (sh_pic hp) rfl ?_
      refine j_iload_n S D_P_passHour_77 2 rfl rfl ?_
      obtain ⟨g_78, h⟩ := gdE h
      refine j_iald S D_P_passHour_78 (sh_pic6 hp) g_78 ?_
      refine j_aload_n S D_P_passHour_79 0 rfl rfl ?_
      refine j_getR S D_P_passHour_80 fl_R0_32 (sh_pic hp) rfl ?_
      refine j_iload_n S D_P_passHour_83 2 rfl rfl ?_
      refine j_iald S D_P_passHour_84 (sh_pic5 hp) g_78 ?_
      refine j_icmp_lt S D_P_passHour_85 (fun c_85 => ?_) (fun c_85 => ?_)
      · have h := ifT c_85 h
        refine j_iinc S D_P_passHour_96 2 rfl (congrArg (fun z => b2 + z) ci_1) (lv := [(2, .int (b2 + 1)), (0, .ref (eb E + p)), (1, .int b1)]) rfl (Nat.le_of_ble_eq_true rfl) ?_
        refine j_goto S D_P_passHour_99 ?_
        refine j_locals [1, 2, 0] rfl (ih b1 (b2 + 1) mem _ _ h hk)
      · have h := ifF c_85 h
        refine j_aload_n S D_P_passHour_88 0 rfl rfl ?_
        refine j_iload_n S D_P_passHour_89 2 rfl rfl ?_
        obtain ⟨m_90, e_90, h⟩ := bpE h
        refine j_callVV (As := [.int b2]) S D_P_passHour_90 mv_R0_126 (c_P_wipe (cxL X) E N p hp b2 e_90) (by decide) (sh_pic hp) rfl rfl rfl rfl (Nat.le_of_ble_eq_true rfl) ?_
        refine j_iinc S D_P_passHour_93 1 rfl (congrArg (fun z => b1 + z) ci_1) (lv := [(1, .int (b1 + 1)), (0, .ref (eb E + p)), (2, .int b2)]) rfl (Nat.le_of_ble_eq_true rfl) ?_
        refine j_iinc S D_P_passHour_96 2 rfl (congrArg (fun z => b2 + z) ci_1) (lv := [(2, .int (b2 + 1)), (1, .int (b1 + 1)), (0, .ref (eb E + p))]) rfl (Nat.le_of_ble_eq_true rfl) ?_
        refine j_goto S D_P_passHour_99 ?_
        refine j_locals [2, 1, 0] rfl (ih (b1 + 1) (b2 + 1) m_90 _ _ h hk)
theorem c_P_passHour (l : Launch) (E : En) (N : Nat) (p : Nat) (hp : isPic p) {mem : Mm} {r : Int32} {m2 : Mm} (h : f_P_passHour N p mem = some (r, m2)) : CtI l E 5 y_P_passHour prog_3_method_9_code 3 (some .int) [.ref (eb E + p)] SH mem r m2 := by
  refine mk_CtI ⟨by decide, (Nat.le_of_ble_eq_true rfl)⟩ (fun X S hl hR => ?_)
  have S : Std X E prog_3_method_9_code R0 3 5 := S
  show J X E 3 0 [(0, .ref (eb E + p))] [] SH mem
  unfold f_P_passHour at h
  refine j_iconst S D_P_passHour_0 ci_0 ?_
  refine j_istore_n S D_P_passHour_1 (lv := [(1, .int 0), (0, .ref (eb E + p))]) rfl ⟨rfl, (Nat.le_of_ble_eq_true rfl)⟩ ?_
  refine j_locals [1, 0] rfl ?_
  obtain ⟨y_2, m_2, e_2, h⟩ := bdE h
  refine L_P_passHour_2 S N p hp N 0 mem _ _ e_2 ?_
  refine j_aload_n S D_P_passHour_21 0 rfl rfl ?_
  obtain ⟨r_22, m_22, e_22, h⟩ := bdE h
  refine j_callVI (As := []) S D_P_passHour_22 mv_R0_79 (c_P_draw (cxL X) E p hp e_22) (by decide) (sh_pic hp) rfl rfl rfl rfl (Nat.le_of_ble_eq_true rfl) ?_
  refine j_bipush S D_P_passHour_25 cb_100 ?_
  refine j_irem S D_P_passHour_27 nz_100 ?_
  refine j_aload_n S D_P_passHour_28 0 rfl rfl ?_
  refine j_getI S D_P_passHour_29 fl_R0_47 (sh_pic hp) rfl ?_
  refine j_icmp_ge S D_P_passHour_32 (fun c_32 => ?_) (fun c_32 => ?_)
  · have h := ifT c_32 h
    refine j_aload_n S D_P_passHour_46 0 rfl rfl ?_
    obtain ⟨r_47, e_47, h⟩ := bpE h
    refine j_callVI (As := []) S D_P_passHour_47 mv_R0_122 (c_P_allAreDone (cxL X) E N p hp e_47) (by decide) (sh_pic hp) rfl rfl rfl rfl (Nat.le_of_ble_eq_true rfl) ?_
    refine j_if_eq S D_P_passHour_50 (fun c_50 => ?_) (fun c_50 => ?_)
    · have h := ifT c_50 h
      refine j_iconst S D_P_passHour_63 ci_0 ?_
      refine j_istore_n S D_P_passHour_64 (lv := [(1, .int 0), (0, .ref (eb E + p))]) rfl ⟨rfl, (Nat.le_of_ble_eq_true rfl)⟩ ?_
      refine j_iconst S D_P_passHour_65 ci_0 ?_
      refine j_istore_n S D_P_passHour_66 (lv := [(2, .int 0), (1, .int 0), (0, .ref (eb E + p))]) rfl ⟨rfl, (Nat.le_of_ble_eq_true rfl)⟩ ?_
      refine j_locals [2, 1, 0] rfl ?_
      obtain ⟨y_67, m_67, e_67, h⟩ := bdE h
      refine L_P_passHour_67 S N p hp N 0 0 m_22 _ _ e_67 ?_
      refine j_aload_n S D_P_passHour_102 0 rfl rfl ?_
      refine j_dup S D_P_passHour_103 rfl ?_
      refine j_getI S D_P_passHour_104 fl_R0_53 (sh_pic hp) rfl ?_
      refine j_iconst S D_P_passHour_107 ci_1 ?_
      refine j_iadd S D_P_passHour_108 ?_
      obtain ⟨m_109, hm_109, h⟩ := ltE h
      refine j_putI S D_P_passHour_109 fp_R0_53 (sh_pic hp) rfl ?_
      refine j_mem hm_109 ?_
      refine j_iload_n S D_P_passHour_112 1 rfl rfl ?_
      exact rtM hR h _ _ D_P_passHour_113
    · have h := ifF c_50 h
      refine j_aload_n S D_P_passHour_53 0 rfl rfl ?_
      refine j_dup S D_P_passHour_54 rfl ?_
      refine j_getI S D_P_passHour_55 fl_R0_56 (sh_pic hp) rfl ?_
      refine j_iconst S D_P_passHour_58 ci_1 ?_
      refine j_iadd S D_P_passHour_59 ?_
      obtain ⟨m_60, hm_60, h⟩ := ltE h
      refine j_putI S D_P_passHour_60 fp_R0_56 (sh_pic hp) rfl ?_
      refine j_mem hm_60 ?_
      refine j_iconst S D_P_passHour_63 ci_0 ?_
      refine j_istore_n S D_P_passHour_64 (lv := [(1, .int 0), (0, .ref (eb E + p))]) rfl ⟨rfl, (Nat.le_of_ble_eq_true rfl)⟩ ?_
      refine j_iconst S D_P_passHour_65 ci_0 ?_
      refine j_istore_n S D_P_passHour_66 (lv := [(2, .int 0), (1, .int 0), (0, .ref (eb E + p))]) rfl ⟨rfl, (Nat.le_of_ble_eq_true rfl)⟩ ?_
      refine j_locals [2, 1, 0] rfl ?_
      obtain ⟨y_67, m_67, e_67, h⟩ := bdE h
      refine L_P_passHour_67 S N p hp N 0 0 m_60 _ _ e_67 ?_
      refine j_aload_n S D_P_passHour_102 0 rfl rfl ?_
      refine j_dup S D_P_passHour_103 rfl ?_
      refine j_getI S D_P_passHour_104 fl_R0_53 (sh_pic hp) rfl ?_
      refine j_iconst S D_P_passHour_107 ci_1 ?_
      refine j_iadd S D_P_passHour_108 ?_
      obtain ⟨m_109, hm_109, h⟩ := ltE h
      refine j_putI S D_P_passHour_109 fp_R0_53 (sh_pic hp) rfl ?_
      refine j_mem hm_109 ?_
      refine j_iload_n S D_P_passHour_112 1 rfl rfl ?_
      exact rtM hR h _ _ D_P_passHour_113
  · have h := ifF c_32 h
    refine j_aload_n S D_P_passHour_35 0 rfl rfl ?_
    refine j_aload_n S D_P_passHour_36 0 rfl rfl ?_
    obtain ⟨r_37, m_37, e_37, h⟩ := bdE h
    refine j_callVI (As := []) S D_P_passHour_37 mv_R0_79 (c_P_draw (cxL X) E p hp e_37) (by decide) (sh_pic hp) rfl rfl rfl rfl (Nat.le_of_ble_eq_true rfl) ?_
    refine j_bipush S D_P_passHour_40 cb_6 ?_
    refine j_irem S D_P_passHour_42 nz_6 ?_
    obtain ⟨m_43, e_43, h⟩ := bpE h
    refine j_callVV (As := [.int (r_37 - r_37 / 6 * 6)]) S D_P_passHour_43 mv_R0_119 (c_P_blowFrom (cxL X) E p hp (r_37 - r_37 / 6 * 6) e_43) (by decide) (sh_pic hp) rfl rfl rfl rfl (Nat.le_of_ble_eq_true rfl) ?_
    refine j_aload_n S D_P_passHour_46 0 rfl rfl ?_
    obtain ⟨r_47, e_47, h⟩ := bpE h
    refine j_callVI (As := []) S D_P_passHour_47 mv_R0_122 (c_P_allAreDone (cxL X) E N p hp e_47) (by decide) (sh_pic hp) rfl rfl rfl rfl (Nat.le_of_ble_eq_true rfl) ?_
    refine j_if_eq S D_P_passHour_50 (fun c_50 => ?_) (fun c_50 => ?_)
    · have h := ifT c_50 h
      refine j_iconst S D_P_passHour_63 ci_0 ?_
      refine j_istore_n S D_P_passHour_64 (lv := [(1, .int 0), (0, .ref (eb E + p))]) rfl ⟨rfl, (Nat.le_of_ble_eq_true rfl)⟩ ?_
      refine j_iconst S D_P_passHour_65 ci_0 ?_
      refine j_istore_n S D_P_passHour_66 (lv := [(2, .int 0), (1, .int 0), (0, .ref (eb E + p))]) rfl ⟨rfl, (Nat.le_of_ble_eq_true rfl)⟩ ?_
      refine j_locals [2, 1, 0] rfl ?_
      obtain ⟨y_67, m_67, e_67, h⟩ := bdE h
      refine L_P_passHour_67 S N p hp N 0 0 m_43 _ _ e_67 ?_
      refine j_aload_n S D_P_passHour_102 0 rfl rfl ?_
      refine j_dup S D_P_passHour_103 rfl ?_
      refine j_getI S D_P_passHour_104 fl_R0_53 (sh_pic hp) rfl ?_
      refine j_iconst S D_P_passHour_107 ci_1 ?_
      refine j_iadd S D_P_passHour_108 ?_
      obtain ⟨m_109, hm_109, h⟩ := ltE h
      refine j_putI S D_P_passHour_109 fp_R0_53 (sh_pic hp) rfl ?_
      refine j_mem hm_109 ?_
      refine j_iload_n S D_P_passHour_112 1 rfl rfl ?_
      exact rtM hR h _ _ D_P_passHour_113
    · have h := ifF c_50 h
      refine j_aload_n S D_P_passHour_53 0 rfl rfl ?_
      refine j_dup S D_P_passHour_54 rfl ?_
      refine j_getI S D_P_passHour_55 fl_R0_56 (sh_pic hp) rfl ?_
      refine j_iconst S D_P_passHour_58 ci_1 ?_
      refine j_iadd S D_P_passHour_59 ?_
      obtain ⟨m_60, hm_60, h⟩ := ltE h
      refine j_putI S D_P_passHour_60 fp_R0_56 (sh_pic hp) rfl ?_
      refine j_mem hm_60 ?_
      refine j_iconst S D_P_passHour_63 ci_0 ?_
      refine j_istore_n S D_P_passHour_64 (lv := [(1, .int 0), (0, .ref (eb E + p))]) rfl ⟨rfl, (Nat.le_of_ble_eq_true rfl)⟩ ?_
      refine j_iconst S D_P_passHour_65 ci_0 ?_
      refine j_istore_n S D_P_passHour_66 (lv := [(2, .int 0), (1, .int 0), (0, .ref (eb E + p))]) rfl ⟨rfl, (Nat.le_of_ble_eq_true rfl)⟩ ?_
      refine j_locals [2, 1, 0] rfl ?_
      obtain ⟨y_67, m_67, e_67, h⟩ := bdE h
      refine L_P_passHour_67 S N p hp N 0 0 m_60 _ _ e_67 ?_
      refine j_aload_n S D_P_passHour_102 0 rfl rfl ?_
      refine j_dup S D_P_passHour_103 rfl ?_
      refine j_getI S D_P_passHour_104 fl_R0_53 (sh_pic hp) rfl ?_
      refine j_iconst S D_P_passHour_107 ci_1 ?_
      refine j_iadd S D_P_passHour_108 ?_
      obtain ⟨m_109, hm_109, h⟩ := ltE h
      refine j_putI S D_P_passHour_109 fp_R0_53 (sh_pic hp) rfl ?_
      refine j_mem hm_109 ?_
      refine j_iload_n S D_P_passHour_112 1 rfl rfl ?_
      exact rtM hR h _ _ D_P_passHour_113

def y_P_passHours : MethodName := ⟨"SandPicture$Picture", "passHours", "(I)I"⟩
theorem D_P_passHours_0 : decode prog_3_method_8_code 0 = .ok (.iconst 0, 1) ∧ 0 + 1 = 1 := by decide +kernel
theorem D_P_passHours_1 : decode prog_3_method_8_code 1 = .ok (.istore_n 2, 1) ∧ 1 + 1 = 2 := by decide +kernel
theorem D_P_passHours_2 : decode prog_3_method_8_code 2 = .ok (.iconst 0, 1) ∧ 2 + 1 = 3 := by decide +kernel
theorem D_P_passHours_3 : decode prog_3_method_8_code 3 = .ok (.istore_n 3, 1) ∧ 3 + 1 = 4 := by decide +kernel
theorem D_P_passHours_4 : decode prog_3_method_8_code 4 = .ok (.iload_n 3, 1) ∧ 4 + 1 = 5 := by decide +kernel
theorem D_P_passHours_5 : decode prog_3_method_8_code 5 = .ok (.iload_n 1, 1) ∧ 5 + 1 = 6 := by decide +kernel
theorem D_P_passHours_6 : decode prog_3_method_8_code 6 = .ok (.if_icmp .ge 16, 3) ∧ ((6 : Nat) : Int) + 16 = ((22 : Nat) : Int) ∧ 6 + 3 = 9 := by decide +kernel
theorem D_P_passHours_9 : decode prog_3_method_8_code 9 = .ok (.iload_n 2, 1) ∧ 9 + 1 = 10 := by decide +kernel
theorem D_P_passHours_10 : decode prog_3_method_8_code 10 = .ok (.aload_n 0, 1) ∧ 10 + 1 = 11 := by decide +kernel
theorem D_P_passHours_11 : decode prog_3_method_8_code 11 = .ok (.invokevirtual 112, 3) ∧ 11 + 3 = 14 := by decide +kernel
theorem D_P_passHours_14 : decode prog_3_method_8_code 14 = .ok (.iadd, 1) ∧ 14 + 1 = 15 := by decide +kernel
theorem D_P_passHours_15 : decode prog_3_method_8_code 15 = .ok (.istore_n 2, 1) ∧ 15 + 1 = 16 := by decide +kernel
theorem D_P_passHours_16 : decode prog_3_method_8_code 16 = .ok (.iinc 3 1, 3) ∧ 16 + 3 = 19 := by decide +kernel
theorem D_P_passHours_19 : decode prog_3_method_8_code 19 = .ok (.goto (-15), 3) ∧ ((19 : Nat) : Int) + (-15) = ((4 : Nat) : Int) := by decide +kernel
theorem D_P_passHours_22 : decode prog_3_method_8_code 22 = .ok (.iload_n 2, 1) ∧ 22 + 1 = 23 := by decide +kernel
theorem D_P_passHours_23 : decode prog_3_method_8_code 23 = .ok (.ireturn, 1) := by decide +kernel
def f_P_passHours_L4 (N : Nat) (p : Nat) : Nat → Int32 → Int32 → Int32 → Mm → Option ((Int32 × Int32) × Mm)
  | 0, _, _, _, _ => none
  | n + 1, b1, b2, b3, mem => if b1 ≤ b3 then some ((b2, b3), mem) else bd (f_P_passHour N p mem) fun r_11 m_11 => lt (b2 + r_11) fun x_15 => f_P_passHours_L4 N p n b1 x_15 (b3 + 1) m_11
def f_P_passHours (N : Nat) (p : Nat) (a1 : Int32) (mem : Mm) : Option (Int32 × Mm) := bd (f_P_passHours_L4 N p N a1 0 0 mem) fun y_4 m_4 => some (y_4.1, m_4)
theorem L_P_passHours_4 {X : Cx} {E : En} (S : Std X E prog_3_method_8_code R0 4 6) (N : Nat) (p : Nat) (hp : isPic p) : ∀ (n : Nat) (b1 : Int32) (b2 : Int32) (b3 : Int32) (mem : Mm) (z : Int32 × Int32) (m2 : Mm), f_P_passHours_L4 N p n b1 b2 b3 mem = some (z, m2) → J X E 4 22 [(0, .ref (eb E + p)), (1, .int b1), (2, .int z.1), (3, .int z.2)] [] SH m2 → J X E 4 4 [(0, .ref (eb E + p)), (1, .int b1), (2, .int b2), (3, .int b3)] [] SH mem := by
  intro n
  induction n with
  | zero =>
    intro b1 b2 b3 mem z m2 h hk; cases h
  | succ n ih =>
    intro b1 b2 b3 mem z m2 h hk
    rw [f_P_passHours_L4] at h
    refine j_iload_n S D_P_passHours_4 3 rfl rfl ?_
    refine j_iload_n S D_P_passHours_5 1 rfl rfl ?_
    refine j_icmp_ge S D_P_passHours_6 (fun c_6 => ?_) (fun c_6 => ?_)
    · have h := ifT c_6 h
      cases h
      exact j_locals [0, 1, 2, 3] rfl hk
    · have h := ifF c_6 h
      refine j_iload_n S D_P_passHours_9 2 rfl rfl ?_
      refine j_aload_n S D_P_passHours_10 0 rfl rfl ?_
      obtain ⟨r_11, m_11, e_11, h⟩ := bdE h
      refine j_callVI (As := []) S D_P_passHours_11 mv_R0_112 (c_P_passHour (cxL X) E N p hp e_11) (by decide) (sh_pic hp) rfl rfl rfl rfl (Nat.le_of_ble_eq_true rfl) ?_
      refine j_iadd S D_P_passHours_14 ?_
      obtain ⟨x_15, hx_15, h⟩ := ltE h
      refine j_nm hx_15 ?_
      refine j_istore_n S D_P_passHours_15 (lv := [(2, .int x_15), (0, .ref (eb E + p)), (1, .int b1), (3, .int b3)]) rfl ⟨rfl, (Nat.le_of_ble_eq_true rfl)⟩ ?_
      refine j_iinc S D_P_passHours_16 3 rfl (congrArg (fun z => b3 + z) ci_1) (lv := [(3, .int (b3 + 1)), (2, .int x_15), (0, .ref (eb E + p)), (1, .int b1)]) rfl (Nat.le_of_ble_eq_true rfl) ?_
      refine j_goto S D_P_passHours_19 ?_
      refine j_locals [2, 3, 1, 0] rfl (ih b1 x_15 (b3 + 1) m_11 _ _ h hk)
theorem c_P_passHours (l : Launch) (E : En) (N : Nat) (p : Nat) (hp : isPic p) (a1 : Int32) {mem : Mm} {r : Int32} {m2 : Mm} (h : f_P_passHours N p a1 mem = some (r, m2)) : CtI l E 6 y_P_passHours prog_3_method_8_code 4 (some .int) [.ref (eb E + p), .int a1] SH mem r m2 := by
  refine mk_CtI ⟨by decide, (Nat.le_of_ble_eq_true rfl)⟩ (fun X S hl hR => ?_)
  have S : Std X E prog_3_method_8_code R0 4 6 := S
  show J X E 4 0 [(0, .ref (eb E + p)), (1, .int a1)] [] SH mem
  unfold f_P_passHours at h
  refine j_iconst S D_P_passHours_0 ci_0 ?_
  refine j_istore_n S D_P_passHours_1 (lv := [(2, .int 0), (0, .ref (eb E + p)), (1, .int a1)]) rfl ⟨rfl, (Nat.le_of_ble_eq_true rfl)⟩ ?_
  refine j_iconst S D_P_passHours_2 ci_0 ?_
  refine j_istore_n S D_P_passHours_3 (lv := [(3, .int 0), (2, .int 0), (0, .ref (eb E + p)), (1, .int a1)]) rfl ⟨rfl, (Nat.le_of_ble_eq_true rfl)⟩ ?_
  refine j_locals [2, 3, 1, 0] rfl ?_
  obtain ⟨y_4, m_4, e_4, h⟩ := bdE h
  refine L_P_passHours_4 S N p hp N a1 0 0 mem _ _ e_4 ?_
  refine j_iload_n S D_P_passHours_22 2 rfl rfl ?_
  exact rtM hR h _ _ D_P_passHours_23
end
section
def y_T_addBytes : MethodName := ⟨"SandPicture$Tape", "addBytes", "(I)V"⟩
theorem D_T_addBytes_0 : decode prog_6_method_2_code 0 = .ok (.bipush 24, 2) ∧ 0 + 2 = 2 := by decide +kernel
theorem D_T_addBytes_2 : decode prog_6_method_2_code 2 = .ok (.istore_n 2, 1) ∧ 2 + 1 = 3 := by decide +kernel
theorem D_T_addBytes_3 : decode prog_6_method_2_code 3 = .ok (.iload_n 2, 1) ∧ 3 + 1 = 4 := by decide +kernel
theorem D_T_addBytes_4 : decode prog_6_method_2_code 4 = .ok (.ifCond .lt 47, 3) ∧ ((4 : Nat) : Int) + 47 = ((51 : Nat) : Int) ∧ 4 + 3 = 7 := by decide +kernel
theorem D_T_addBytes_7 : decode prog_6_method_2_code 7 = .ok (.aload_n 0, 1) ∧ 7 + 1 = 8 := by decide +kernel
theorem D_T_addBytes_8 : decode prog_6_method_2_code 8 = .ok (.getfield 9, 3) ∧ 8 + 3 = 11 := by decide +kernel
theorem D_T_addBytes_11 : decode prog_6_method_2_code 11 = .ok (.aload_n 0, 1) ∧ 11 + 1 = 12 := by decide +kernel
theorem D_T_addBytes_12 : decode prog_6_method_2_code 12 = .ok (.getfield 15, 3) ∧ 12 + 3 = 15 := by decide +kernel
theorem D_T_addBytes_15 : decode prog_6_method_2_code 15 = .ok (.arraylength, 1) ∧ 15 + 1 = 16 := by decide +kernel
theorem D_T_addBytes_16 : decode prog_6_method_2_code 16 = .ok (.if_icmp .ge 29, 3) ∧ ((16 : Nat) : Int) + 29 = ((45 : Nat) : Int) ∧ 16 + 3 = 19 := by decide +kernel
theorem D_T_addBytes_45 : decode prog_6_method_2_code 45 = .ok (.iinc 2 (-8), 3) ∧ 45 + 3 = 48 := by decide +kernel
theorem D_T_addBytes_48 : decode prog_6_method_2_code 48 = .ok (.goto (-45), 3) ∧ ((48 : Nat) : Int) + (-45) = ((3 : Nat) : Int) := by decide +kernel
theorem D_T_addBytes_19 : decode prog_6_method_2_code 19 = .ok (.aload_n 0, 1) ∧ 19 + 1 = 20 := by decide +kernel
theorem D_T_addBytes_20 : decode prog_6_method_2_code 20 = .ok (.getfield 15, 3) ∧ 20 + 3 = 23 := by decide +kernel
theorem D_T_addBytes_23 : decode prog_6_method_2_code 23 = .ok (.aload_n 0, 1) ∧ 23 + 1 = 24 := by decide +kernel
theorem D_T_addBytes_24 : decode prog_6_method_2_code 24 = .ok (.getfield 9, 3) ∧ 24 + 3 = 27 := by decide +kernel
theorem D_T_addBytes_27 : decode prog_6_method_2_code 27 = .ok (.iload_n 1, 1) ∧ 27 + 1 = 28 := by decide +kernel
theorem D_T_addBytes_28 : decode prog_6_method_2_code 28 = .ok (.iload_n 2, 1) ∧ 28 + 1 = 29 := by decide +kernel
theorem D_T_addBytes_29 : decode prog_6_method_2_code 29 = .ok (.iushr, 1) ∧ 29 + 1 = 30 := by decide +kernel
theorem D_T_addBytes_30 : decode prog_6_method_2_code 30 = .ok (.sipush 255, 3) ∧ 30 + 3 = 33 := by decide +kernel
theorem D_T_addBytes_33 : decode prog_6_method_2_code 33 = .ok (.iand, 1) ∧ 33 + 1 = 34 := by decide +kernel
theorem D_T_addBytes_34 : decode prog_6_method_2_code 34 = .ok (.iastore, 1) ∧ 34 + 1 = 35 := by decide +kernel
theorem D_T_addBytes_35 : decode prog_6_method_2_code 35 = .ok (.aload_n 0, 1) ∧ 35 + 1 = 36 := by decide +kernel
theorem D_T_addBytes_36 : decode prog_6_method_2_code 36 = .ok (.dup, 1) ∧ 36 + 1 = 37 := by decide +kernel
theorem D_T_addBytes_37 : decode prog_6_method_2_code 37 = .ok (.getfield 9, 3) ∧ 37 + 3 = 40 := by decide +kernel
theorem D_T_addBytes_40 : decode prog_6_method_2_code 40 = .ok (.iconst 1, 1) ∧ 40 + 1 = 41 := by decide +kernel
theorem D_T_addBytes_41 : decode prog_6_method_2_code 41 = .ok (.iadd, 1) ∧ 41 + 1 = 42 := by decide +kernel
theorem D_T_addBytes_42 : decode prog_6_method_2_code 42 = .ok (.putfield 9, 3) ∧ 42 + 3 = 45 := by decide +kernel
theorem D_T_addBytes_51 : decode prog_6_method_2_code 51 = .ok (.return_, 1) := by decide +kernel
def f_T_addBytes_L3  : Nat → Int32 → Int32 → Mm → Option (Int32 × Mm)
  | 0, _, _, _ => none
  | n + 1, b1, b2, mem => if b2 < 0 then some (b2, mem) else if 96 ≤ mem 2 0 then f_T_addBytes_L3 n b1 (b2 + (-8)) mem else if inb (mem 2 0) 96 = true then lt (mst mem 3 (ix (mem 2 0)) (((b1.toUInt32 >>> (b2.toUInt32 &&& Int32.toUInt32 31)).toInt32) &&& 255)) fun m_34 => lt (mst m_34 2 0 ((m_34 2 0) + 1)) fun m_42 => f_T_addBytes_L3 n b1 (b2 + (-8)) m_42 else none
def f_T_addBytes (N : Nat) (a1 : Int32) (mem : Mm) : Option (Mm) := bd (f_T_addBytes_L3 N a1 24 mem) fun y_3 m_3 => some m_3
theorem L_T_addBytes_3 {X : Cx} {E : En} (S : Std X E prog_6_method_2_code R3 3 0)  : ∀ (n : Nat) (b1 : Int32) (b2 : Int32) (mem : Mm) (z : Int32) (m2 : Mm), f_T_addBytes_L3 n b1 b2 mem = some (z, m2) → J X E 3 51 [(0, .ref (eb E + 2)), (1, .int b1), (2, .int z)] [] SH m2 → J X E 3 3 [(0, .ref (eb E + 2)), (1, .int b1), (2, .int b2)] [] SH mem := by
  intro n
  induction n with
  | zero =>
    intro b1 b2 mem z m2 h hk; cases h
  | succ n ih =>
    intro b1 b2 mem z m2 h hk
    rw [f_T_addBytes_L3] at h
    refine j_iload_n S D_T_addBytes_3 2 rfl rfl ?_
    refine j_if_lt S D_T_addBytes_4 (fun c_4 => ?_) (fun c_4 => ?_)
    · have h := ifT c_4 h
      cases h
      exact j_locals [0, 1, 2] rfl hk
    · have h := ifF c_4 h
      refine j_aload_n S D_T_addBytes_7 0 rfl rfl ?_
      refine j_getI S D_T_addBytes_8 fl_R3_9 sh_Tape rfl ?_
      refine j_aload_n S D_T_addBytes_11 0 rfl rfl ?_
      refine j_getR S D_T_addBytes_12 fl_R3_15 sh_Tape rfl ?_
      refine j_alen S D_T_addBytes_15 sh_3 cn_96 ?_
      refine j_icmp_ge S D_T_addBytes_16 (fun c_16 => ?_) (fun c_16 => ?_)
      · have h := ifT c_16 h
        refine j_iinc S D_T_addBytes_45 2 rfl (congrArg (fun z => b2 + z) ci_m8) (lv := [(2, .int (b2 + (-8))), (0, .ref (eb E + 2)), (1, .int b1)]) rfl (Nat.le_of_ble_eq_true rfl) ?_
        refine j_goto S D_T_addBytes_48 ?_
        refine j_locals [1, 2, 0] rfl (ih b1 (b2 + (-8)) mem _ _ h hk)
      · have h := ifF c_16 h
        refine j_aload_n S D_T_addBytes_19 0 rfl rfl ?_
        refine j_getR S D_T_addBytes_20 fl_R3_15 sh_Tape rfl ?_
        refine j_aload_n S D_T_addBytes_23 0 rfl rfl ?_
        refine j_getI S D_T_addBytes_24 fl_R3_9 sh_Tape rfl ?_
        refine j_iload_n S D_T_addBytes_27 1 rfl rfl ?_
        refine j_iload_n S D_T_addBytes_28 2 rfl rfl ?_
        refine j_iushr S D_T_addBytes_29 ?_
        refine j_sipush S D_T_addBytes_30 cs_255 ?_
        refine j_iand S D_T_addBytes_33 ?_
        obtain ⟨g_34, h⟩ := gdE h
        obtain ⟨m_34, hm_34, h⟩ := ltE h
        refine j_iast S D_T_addBytes_34 sh_3 g_34 ?_
        refine j_mem hm_34 ?_
        refine j_aload_n S D_T_addBytes_35 0 rfl rfl ?_
        refine j_dup S D_T_addBytes_36 rfl ?_
        refine j_getI S D_T_addBytes_37 fl_R3_9 sh_Tape rfl ?_
        refine j_iconst S D_T_addBytes_40 ci_1 ?_
        refine j_iadd S D_T_addBytes_41 ?_
        obtain ⟨m_42, hm_42, h⟩ := ltE h
        refine j_putI S D_T_addBytes_42 fp_R3_9 sh_Tape rfl ?_
        refine j_mem hm_42 ?_
        refine j_iinc S D_T_addBytes_45 2 rfl (congrArg (fun z => b2 + z) ci_m8) (lv := [(2, .int (b2 + (-8))), (0, .ref (eb E + 2)), (1, .int b1)]) rfl (Nat.le_of_ble_eq_true rfl) ?_
        refine j_goto S D_T_addBytes_48 ?_
        refine j_locals [1, 2, 0] rfl (ih b1 (b2 + (-8)) m_42 _ _ h hk)
theorem c_T_addBytes (l : Launch) (E : En) (N : Nat) (a1 : Int32) {mem : Mm} {m2 : Mm} (h : f_T_addBytes N a1 mem = some m2) : CtV l E 0 y_T_addBytes prog_6_method_2_code 3 [.ref (eb E + 2), .int a1] SH mem m2 := by
  refine mk_CtV ⟨by decide, (Nat.le_of_ble_eq_true rfl)⟩ (fun X S hl hR => ?_)
  have S : Std X E prog_6_method_2_code R3 3 0 := S
  show J X E 3 0 [(0, .ref (eb E + 2)), (1, .int a1)] [] SH mem
  unfold f_T_addBytes at h
  refine j_bipush S D_T_addBytes_0 cb_24 ?_
  refine j_istore_n S D_T_addBytes_2 (lv := [(2, .int 24), (0, .ref (eb E + 2)), (1, .int a1)]) rfl ⟨rfl, (Nat.le_of_ble_eq_true rfl)⟩ ?_
  refine j_locals [1, 2, 0] rfl ?_
  obtain ⟨y_3, m_3, e_3, h⟩ := bdE h
  refine L_T_addBytes_3 S  N a1 24 mem _ _ e_3 ?_
  exact rtV hR h _ _ D_T_addBytes_51

def y_T_fail : MethodName := ⟨"SandPicture$Tape", "fail", "()V"⟩
theorem D_T_fail_0 : decode prog_6_method_4_code 0 = .ok (.aload_n 0, 1) ∧ 0 + 1 = 1 := by decide +kernel
theorem D_T_fail_1 : decode prog_6_method_4_code 1 = .ok (.getfield 29, 3) ∧ 1 + 3 = 4 := by decide +kernel
theorem D_T_fail_4 : decode prog_6_method_4_code 4 = .ok (.iconst (-1), 1) ∧ 4 + 1 = 5 := by decide +kernel
theorem D_T_fail_5 : decode prog_6_method_4_code 5 = .ok (.if_icmp .ne 11, 3) ∧ ((5 : Nat) : Int) + 11 = ((16 : Nat) : Int) ∧ 5 + 3 = 8 := by decide +kernel
theorem D_T_fail_16 : decode prog_6_method_4_code 16 = .ok (.return_, 1) := by decide +kernel
theorem D_T_fail_8 : decode prog_6_method_4_code 8 = .ok (.aload_n 0, 1) ∧ 8 + 1 = 9 := by decide +kernel
theorem D_T_fail_9 : decode prog_6_method_4_code 9 = .ok (.aload_n 0, 1) ∧ 9 + 1 = 10 := by decide +kernel
theorem D_T_fail_10 : decode prog_6_method_4_code 10 = .ok (.getfield 19, 3) ∧ 10 + 3 = 13 := by decide +kernel
theorem D_T_fail_13 : decode prog_6_method_4_code 13 = .ok (.putfield 29, 3) ∧ 13 + 3 = 16 := by decide +kernel
def f_T_fail  (mem : Mm) : Option (Mm) := if mem 2 5 = (-1) then lt (mst mem 2 5 (mem 2 2)) fun m_13 => some m_13 else some mem
theorem c_T_fail (l : Launch) (E : En)  {mem : Mm} {m2 : Mm} (h : f_T_fail mem = some m2) : CtV l E 0 y_T_fail prog_6_method_4_code 1 [.ref (eb E + 2)] SH mem m2 := by
  refine mk_CtV ⟨by decide, (Nat.le_of_ble_eq_true rfl)⟩ (fun X S hl hR => ?_)
  have S : Std X E prog_6_method_4_code R3 1 0 := S
  show J X E 1 0 [(0, .ref (eb E + 2))] [] SH mem
  unfold f_T_fail at h
  refine j_aload_n S D_T_fail_0 0 rfl rfl ?_
  refine j_getI S D_T_fail_1 fl_R3_29 sh_Tape rfl ?_
  refine j_iconst S D_T_fail_4 ci_m1 ?_
  refine j_icmp_ne S D_T_fail_5 (fun c_5 => ?_) (fun c_5 => ?_)
  · have h := ifF c_5 h
    exact rtV hR h _ _ D_T_fail_16
  · have h := ifT c_5 h
    refine j_aload_n S D_T_fail_8 0 rfl rfl ?_
    refine j_aload_n S D_T_fail_9 0 rfl rfl ?_
    refine j_getI S D_T_fail_10 fl_R3_19 sh_Tape rfl ?_
    obtain ⟨m_13, hm_13, h⟩ := ltE h
    refine j_putI S D_T_fail_13 fp_R3_29 sh_Tape rfl ?_
    refine j_mem hm_13 ?_
    exact rtV hR h _ _ D_T_fail_16

def y_T_here : MethodName := ⟨"SandPicture$Tape", "here", "()I"⟩
theorem D_T_here_0 : decode prog_6_method_5_code 0 = .ok (.aload_n 0, 1) ∧ 0 + 1 = 1 := by decide +kernel
theorem D_T_here_1 : decode prog_6_method_5_code 1 = .ok (.getfield 19, 3) ∧ 1 + 3 = 4 := by decide +kernel
theorem D_T_here_4 : decode prog_6_method_5_code 4 = .ok (.aload_n 0, 1) ∧ 4 + 1 = 5 := by decide +kernel
theorem D_T_here_5 : decode prog_6_method_5_code 5 = .ok (.getfield 9, 3) ∧ 5 + 3 = 8 := by decide +kernel
theorem D_T_here_8 : decode prog_6_method_5_code 8 = .ok (.if_icmp .ge 27, 3) ∧ ((8 : Nat) : Int) + 27 = ((35 : Nat) : Int) ∧ 8 + 3 = 11 := by decide +kernel
theorem D_T_here_35 : decode prog_6_method_5_code 35 = .ok (.iconst (-1), 1) ∧ 35 + 1 = 36 := by decide +kernel
theorem D_T_here_36 : decode prog_6_method_5_code 36 = .ok (.ireturn, 1) := by decide +kernel
theorem D_T_here_11 : decode prog_6_method_5_code 11 = .ok (.aload_n 0, 1) ∧ 11 + 1 = 12 := by decide +kernel
theorem D_T_here_12 : decode prog_6_method_5_code 12 = .ok (.getfield 19, 3) ∧ 12 + 3 = 15 := by decide +kernel
theorem D_T_here_15 : decode prog_6_method_5_code 15 = .ok (.aload_n 0, 1) ∧ 15 + 1 = 16 := by decide +kernel
theorem D_T_here_16 : decode prog_6_method_5_code 16 = .ok (.getfield 15, 3) ∧ 16 + 3 = 19 := by decide +kernel
theorem D_T_here_19 : decode prog_6_method_5_code 19 = .ok (.arraylength, 1) ∧ 19 + 1 = 20 := by decide +kernel
theorem D_T_here_20 : decode prog_6_method_5_code 20 = .ok (.if_icmp .ge 15, 3) ∧ ((20 : Nat) : Int) + 15 = ((35 : Nat) : Int) ∧ 20 + 3 = 23 := by decide +kernel
theorem D_T_here_23 : decode prog_6_method_5_code 23 = .ok (.aload_n 0, 1) ∧ 23 + 1 = 24 := by decide +kernel
theorem D_T_here_24 : decode prog_6_method_5_code 24 = .ok (.getfield 15, 3) ∧ 24 + 3 = 27 := by decide +kernel
theorem D_T_here_27 : decode prog_6_method_5_code 27 = .ok (.aload_n 0, 1) ∧ 27 + 1 = 28 := by decide +kernel
theorem D_T_here_28 : decode prog_6_method_5_code 28 = .ok (.getfield 19, 3) ∧ 28 + 3 = 31 := by decide +kernel
theorem D_T_here_31 : decode prog_6_method_5_code 31 = .ok (.iaload, 1) ∧ 31 + 1 = 32 := by decide +kernel
theorem D_T_here_32 : decode prog_6_method_5_code 32 = .ok (.goto 4, 3) ∧ ((32 : Nat) : Int) + 4 = ((36 : Nat) : Int) := by decide +kernel
def f_T_here  (mem : Mm) : Option (Int32) := if mem 2 0 ≤ mem 2 2 then some (-1) else if 96 ≤ mem 2 2 then some (-1) else if inb (mem 2 2) 96 = true then some (mem 3 (ix (mem 2 2))) else none
theorem c_T_here (l : Launch) (E : En)  {mem : Mm} {r : Int32} (h : f_T_here mem = some r) : CtI l E 0 y_T_here prog_6_method_5_code 1 (some .int) [.ref (eb E + 2)] SH mem r mem := by
  refine mk_CtI ⟨by decide, (Nat.le_of_ble_eq_true rfl)⟩ (fun X S hl hR => ?_)
  have S : Std X E prog_6_method_5_code R3 1 0 := S
  show J X E 1 0 [(0, .ref (eb E + 2))] [] SH mem
  unfold f_T_here at h
  refine j_aload_n S D_T_here_0 0 rfl rfl ?_
  refine j_getI S D_T_here_1 fl_R3_19 sh_Tape rfl ?_
  refine j_aload_n S D_T_here_4 0 rfl rfl ?_
  refine j_getI S D_T_here_5 fl_R3_9 sh_Tape rfl ?_
  refine j_icmp_ge S D_T_here_8 (fun c_8 => ?_) (fun c_8 => ?_)
  · have h := ifT c_8 h
    refine j_iconst S D_T_here_35 ci_m1 ?_
    exact rtI hR h _ _ D_T_here_36
  · have h := ifF c_8 h
    refine j_aload_n S D_T_here_11 0 rfl rfl ?_
    refine j_getI S D_T_here_12 fl_R3_19 sh_Tape rfl ?_
    refine j_aload_n S D_T_here_15 0 rfl rfl ?_
    refine j_getR S D_T_here_16 fl_R3_15 sh_Tape rfl ?_
    refine j_alen S D_T_here_19 sh_3 cn_96 ?_
    refine j_icmp_ge S D_T_here_20 (fun c_20 => ?_) (fun c_20 => ?_)
    · have h := ifT c_20 h
      refine j_iconst S D_T_here_35 ci_m1 ?_
      exact rtI hR h _ _ D_T_here_36
    · have h := ifF c_20 h
      refine j_aload_n S D_T_here_23 0 rfl rfl ?_
      refine j_getR S D_T_here_24 fl_R3_15 sh_Tape rfl ?_
      refine j_aload_n S D_T_here_27 0 rfl rfl ?_
      refine j_getI S D_T_here_28 fl_R3_19 sh_Tape rfl ?_
      obtain ⟨g_31, h⟩ := gdE h
      refine j_iald S D_T_here_31 sh_3 g_31 ?_
      refine j_goto S D_T_here_32 ?_
      exact rtI hR h _ _ D_T_here_36

def y_T_isLetter : MethodName := ⟨"SandPicture$Tape", "isLetter", "(I)Z"⟩
theorem D_T_isLetter_0 : decode prog_6_method_6_code 0 = .ok (.iload_n 0, 1) ∧ 0 + 1 = 1 := by decide +kernel
theorem D_T_isLetter_1 : decode prog_6_method_6_code 1 = .ok (.bipush 97, 2) ∧ 1 + 2 = 3 := by decide +kernel
theorem D_T_isLetter_16 : decode prog_6_method_6_code 16 = .ok (.iconst 0, 1) ∧ 16 + 1 = 17 := by decide +kernel
theorem D_T_isLetter_6 : decode prog_6_method_6_code 6 = .ok (.iload_n 0, 1) ∧ 6 + 1 = 7 := by decide +kernel
theorem D_T_isLetter_7 : decode prog_6_method_6_code 7 = .ok (.bipush 122, 2) ∧ 7 + 2 = 9 := by decide +kernel
theorem D_T_isLetter_12 : decode prog_6_method_6_code 12 = .ok (.iconst 1, 1) ∧ 12 + 1 = 13 := by decide +kernel
theorem D_T_isLetter_13 : decode prog_6_method_6_code 13 = .ok (.goto 4, 3) ∧ ((13 : Nat) : Int) + 4 = ((17 : Nat) : Int) := by decide +kernel
theorem D_T_isLetter_9 : decode prog_6_method_6_code 9 = .ok (.if_icmp .gt 7, 3) ∧ ((9 : Nat) : Int) + 7 = ((16 : Nat) : Int) ∧ 9 + 3 = 12 := by decide +kernel
theorem D_T_isLetter_3 : decode prog_6_method_6_code 3 = .ok (.if_icmp .lt 13, 3) ∧ ((3 : Nat) : Int) + 13 = ((16 : Nat) : Int) ∧ 3 + 3 = 6 := by decide +kernel
theorem D_T_isLetter_17 : decode prog_6_method_6_code 17 = .ok (.ireturn, 1) := by decide +kernel
def f_T_isLetter (a1 : Int32) : Option (Int32) := some (if a1 < 97 then (0 : Int32) else if 122 < a1 then (0 : Int32) else 1)
theorem c_T_isLetter (l : Launch) (E : En) (a1 : Int32) {mem : Mm} {r : Int32} (h : f_T_isLetter a1 = some r) : CtI l E 0 y_T_isLetter prog_6_method_6_code 1 (some .boolean) [.int a1] SH mem r mem := by
  refine mk_CtZ ⟨by decide, (Nat.le_of_ble_eq_true rfl)⟩ (fun X S hl hR => ?_)
  have S : Std X E prog_6_method_6_code R3 1 0 := S
  show J X E 1 0 [(0, .int a1)] [] SH mem
  unfold f_T_isLetter at h
  refine j_iload_n S D_T_isLetter_0 0 rfl rfl ?_
  refine j_bipush S D_T_isLetter_1 cb_97 ?_
  refine j_dia (P := J X E 1 17 [(0, .int a1)] [.int (if a1 < 97 then (0 : Int32) else if 122 < a1 then (0 : Int32) else 1)] SH mem) (fun hj => ?_) ?_
  · refine j_icmp_lt S D_T_isLetter_3 (fun c_3 => ?_) (fun c_3 => ?_)
    · refine j_iconst S D_T_isLetter_16 ci_0 ?_
      exact j_jnT hj c_3
    · refine j_iload_n S D_T_isLetter_6 0 rfl rfl ?_
      refine j_bipush S D_T_isLetter_7 cb_122 ?_
      refine j_dia (P := J X E 1 17 [(0, .int a1)] [.int (if 122 < a1 then (0 : Int32) else 1)] SH mem) (fun hj => ?_) ?_
      · refine j_icmp_gt S D_T_isLetter_9 (fun c_9 => ?_) (fun c_9 => ?_)
        · refine j_iconst S D_T_isLetter_16 ci_0 ?_
          exact j_jnT hj c_9
        · refine j_iconst S D_T_isLetter_12 ci_1 ?_
          refine j_goto S D_T_isLetter_13 ?_
          exact j_jnF hj c_9
      exact j_jnF hj c_3
  exact rtIZ hR h (isb_ite isb0 (isb_ite isb0 isb1)) _ _ D_T_isLetter_17

def y_T_isDigit : MethodName := ⟨"SandPicture$Tape", "isDigit", "(I)Z"⟩
theorem D_T_isDigit_0 : decode prog_6_method_7_code 0 = .ok (.iload_n 0, 1) ∧ 0 + 1 = 1 := by decide +kernel
theorem D_T_isDigit_1 : decode prog_6_method_7_code 1 = .ok (.bipush 48, 2) ∧ 1 + 2 = 3 := by decide +kernel
theorem D_T_isDigit_16 : decode prog_6_method_7_code 16 = .ok (.iconst 0, 1) ∧ 16 + 1 = 17 := by decide +kernel
theorem D_T_isDigit_6 : decode prog_6_method_7_code 6 = .ok (.iload_n 0, 1) ∧ 6 + 1 = 7 := by decide +kernel
theorem D_T_isDigit_7 : decode prog_6_method_7_code 7 = .ok (.bipush 57, 2) ∧ 7 + 2 = 9 := by decide +kernel
theorem D_T_isDigit_12 : decode prog_6_method_7_code 12 = .ok (.iconst 1, 1) ∧ 12 + 1 = 13 := by decide +kernel
theorem D_T_isDigit_13 : decode prog_6_method_7_code 13 = .ok (.goto 4, 3) ∧ ((13 : Nat) : Int) + 4 = ((17 : Nat) : Int) := by decide +kernel
theorem D_T_isDigit_9 : decode prog_6_method_7_code 9 = .ok (.if_icmp .gt 7, 3) ∧ ((9 : Nat) : Int) + 7 = ((16 : Nat) : Int) ∧ 9 + 3 = 12 := by decide +kernel
theorem D_T_isDigit_3 : decode prog_6_method_7_code 3 = .ok (.if_icmp .lt 13, 3) ∧ ((3 : Nat) : Int) + 13 = ((16 : Nat) : Int) ∧ 3 + 3 = 6 := by decide +kernel
theorem D_T_isDigit_17 : decode prog_6_method_7_code 17 = .ok (.ireturn, 1) := by decide +kernel
def f_T_isDigit (a1 : Int32) : Option (Int32) := some (if a1 < 48 then (0 : Int32) else if 57 < a1 then (0 : Int32) else 1)
theorem c_T_isDigit (l : Launch) (E : En) (a1 : Int32) {mem : Mm} {r : Int32} (h : f_T_isDigit a1 = some r) : CtI l E 0 y_T_isDigit prog_6_method_7_code 1 (some .boolean) [.int a1] SH mem r mem := by
  refine mk_CtZ ⟨by decide, (Nat.le_of_ble_eq_true rfl)⟩ (fun X S hl hR => ?_)
  have S : Std X E prog_6_method_7_code R3 1 0 := S
  show J X E 1 0 [(0, .int a1)] [] SH mem
  unfold f_T_isDigit at h
  refine j_iload_n S D_T_isDigit_0 0 rfl rfl ?_
  refine j_bipush S D_T_isDigit_1 cb_48 ?_
  refine j_dia (P := J X E 1 17 [(0, .int a1)] [.int (if a1 < 48 then (0 : Int32) else if 57 < a1 then (0 : Int32) else 1)] SH mem) (fun hj => ?_) ?_
  · refine j_icmp_lt S D_T_isDigit_3 (fun c_3 => ?_) (fun c_3 => ?_)
    · refine j_iconst S D_T_isDigit_16 ci_0 ?_
      exact j_jnT hj c_3
    · refine j_iload_n S D_T_isDigit_6 0 rfl rfl ?_
      refine j_bipush S D_T_isDigit_7 cb_57 ?_
      refine j_dia (P := J X E 1 17 [(0, .int a1)] [.int (if 57 < a1 then (0 : Int32) else 1)] SH mem) (fun hj => ?_) ?_
      · refine j_icmp_gt S D_T_isDigit_9 (fun c_9 => ?_) (fun c_9 => ?_)
        · refine j_iconst S D_T_isDigit_16 ci_0 ?_
          exact j_jnT hj c_9
        · refine j_iconst S D_T_isDigit_12 ci_1 ?_
          refine j_goto S D_T_isDigit_13 ?_
          exact j_jnF hj c_9
      exact j_jnF hj c_3
  exact rtIZ hR h (isb_ite isb0 (isb_ite isb0 isb1)) _ _ D_T_isDigit_17

def y_T_step : MethodName := ⟨"SandPicture$Tape", "step", "()V"⟩
theorem D_T_step_0 : decode prog_6_method_8_code 0 = .ok (.aload_n 0, 1) ∧ 0 + 1 = 1 := by decide +kernel
theorem D_T_step_1 : decode prog_6_method_8_code 1 = .ok (.getfield 22, 3) ∧ 1 + 3 = 4 := by decide +kernel
theorem D_T_step_4 : decode prog_6_method_8_code 4 = .ok (.aload_n 0, 1) ∧ 4 + 1 = 5 := by decide +kernel
theorem D_T_step_5 : decode prog_6_method_8_code 5 = .ok (.getfield 19, 3) ∧ 5 + 3 = 8 := by decide +kernel
theorem D_T_step_8 : decode prog_6_method_8_code 8 = .ok (.if_icmp .le 27, 3) ∧ ((8 : Nat) : Int) + 27 = ((35 : Nat) : Int) ∧ 8 + 3 = 11 := by decide +kernel
theorem D_T_step_35 : decode prog_6_method_8_code 35 = .ok (.iconst 0, 1) ∧ 35 + 1 = 36 := by decide +kernel
theorem D_T_step_36 : decode prog_6_method_8_code 36 = .ok (.istore_n 1, 1) ∧ 36 + 1 = 37 := by decide +kernel
theorem D_T_step_37 : decode prog_6_method_8_code 37 = .ok (.aload_n 0, 1) ∧ 37 + 1 = 38 := by decide +kernel
theorem D_T_step_38 : decode prog_6_method_8_code 38 = .ok (.getfield 22, 3) ∧ 38 + 3 = 41 := by decide +kernel
theorem D_T_step_41 : decode prog_6_method_8_code 41 = .ok (.istore_n 2, 1) ∧ 41 + 1 = 42 := by decide +kernel
theorem D_T_step_42 : decode prog_6_method_8_code 42 = .ok (.aload_n 0, 1) ∧ 42 + 1 = 43 := by decide +kernel
theorem D_T_step_43 : decode prog_6_method_8_code 43 = .ok (.aload_n 0, 1) ∧ 43 + 1 = 44 := by decide +kernel
theorem D_T_step_44 : decode prog_6_method_8_code 44 = .ok (.getfield 22, 3) ∧ 44 + 3 = 47 := by decide +kernel
theorem D_T_step_47 : decode prog_6_method_8_code 47 = .ok (.putfield 19, 3) ∧ 47 + 3 = 50 := by decide +kernel
theorem D_T_step_50 : decode prog_6_method_8_code 50 = .ok (.aload_n 0, 1) ∧ 50 + 1 = 51 := by decide +kernel
theorem D_T_step_51 : decode prog_6_method_8_code 51 = .ok (.getfield 19, 3) ∧ 51 + 3 = 54 := by decide +kernel
theorem D_T_step_54 : decode prog_6_method_8_code 54 = .ok (.aload_n 0, 1) ∧ 54 + 1 = 55 := by decide +kernel
theorem D_T_step_55 : decode prog_6_method_8_code 55 = .ok (.getfield 9, 3) ∧ 55 + 3 = 58 := by decide +kernel
theorem D_T_step_58 : decode prog_6_method_8_code 58 = .ok (.if_icmp .ge 30, 3) ∧ ((58 : Nat) : Int) + 30 = ((88 : Nat) : Int) ∧ 58 + 3 = 61 := by decide +kernel
theorem D_T_step_61 : decode prog_6_method_8_code 61 = .ok (.aload_n 0, 1) ∧ 61 + 1 = 62 := by decide +kernel
theorem D_T_step_62 : decode prog_6_method_8_code 62 = .ok (.getfield 15, 3) ∧ 62 + 3 = 65 := by decide +kernel
theorem D_T_step_65 : decode prog_6_method_8_code 65 = .ok (.aload_n 0, 1) ∧ 65 + 1 = 66 := by decide +kernel
theorem D_T_step_66 : decode prog_6_method_8_code 66 = .ok (.getfield 19, 3) ∧ 66 + 3 = 69 := by decide +kernel
theorem D_T_step_69 : decode prog_6_method_8_code 69 = .ok (.iaload, 1) ∧ 69 + 1 = 70 := by decide +kernel
theorem D_T_step_70 : decode prog_6_method_8_code 70 = .ok (.bipush 32, 2) ∧ 70 + 2 = 72 := by decide +kernel
theorem D_T_step_72 : decode prog_6_method_8_code 72 = .ok (.if_icmp .ne 16, 3) ∧ ((72 : Nat) : Int) + 16 = ((88 : Nat) : Int) ∧ 72 + 3 = 75 := by decide +kernel
theorem D_T_step_75 : decode prog_6_method_8_code 75 = .ok (.aload_n 0, 1) ∧ 75 + 1 = 76 := by decide +kernel
theorem D_T_step_76 : decode prog_6_method_8_code 76 = .ok (.dup, 1) ∧ 76 + 1 = 77 := by decide +kernel
theorem D_T_step_77 : decode prog_6_method_8_code 77 = .ok (.getfield 19, 3) ∧ 77 + 3 = 80 := by decide +kernel
theorem D_T_step_80 : decode prog_6_method_8_code 80 = .ok (.iconst 1, 1) ∧ 80 + 1 = 81 := by decide +kernel
theorem D_T_step_81 : decode prog_6_method_8_code 81 = .ok (.iadd, 1) ∧ 81 + 1 = 82 := by decide +kernel
theorem D_T_step_82 : decode prog_6_method_8_code 82 = .ok (.putfield 19, 3) ∧ 82 + 3 = 85 := by decide +kernel
theorem D_T_step_85 : decode prog_6_method_8_code 85 = .ok (.goto (-35), 3) ∧ ((85 : Nat) : Int) + (-35) = ((50 : Nat) : Int) := by decide +kernel
theorem D_T_step_88 : decode prog_6_method_8_code 88 = .ok (.aload_n 0, 1) ∧ 88 + 1 = 89 := by decide +kernel
theorem D_T_step_89 : decode prog_6_method_8_code 89 = .ok (.invokevirtual 48, 3) ∧ 89 + 3 = 92 := by decide +kernel
theorem D_T_step_92 : decode prog_6_method_8_code 92 = .ok (.invokestatic 55, 3) ∧ 92 + 3 = 95 := by decide +kernel
theorem D_T_step_95 : decode prog_6_method_8_code 95 = .ok (.istore_n 3, 1) ∧ 95 + 1 = 96 := by decide +kernel
theorem D_T_step_96 : decode prog_6_method_8_code 96 = .ok (.aload_n 0, 1) ∧ 96 + 1 = 97 := by decide +kernel
theorem D_T_step_97 : decode prog_6_method_8_code 97 = .ok (.invokevirtual 48, 3) ∧ 97 + 3 = 100 := by decide +kernel
theorem D_T_step_100 : decode prog_6_method_8_code 100 = .ok (.invokestatic 59, 3) ∧ 100 + 3 = 103 := by decide +kernel
theorem D_T_step_103 : decode prog_6_method_8_code 103 = .ok (.istore 4, 2) ∧ 103 + 2 = 105 := by decide +kernel
theorem D_T_step_105 : decode prog_6_method_8_code 105 = .ok (.aload_n 0, 1) ∧ 105 + 1 = 106 := by decide +kernel
theorem D_T_step_106 : decode prog_6_method_8_code 106 = .ok (.aload_n 0, 1) ∧ 106 + 1 = 107 := by decide +kernel
theorem D_T_step_107 : decode prog_6_method_8_code 107 = .ok (.getfield 9, 3) ∧ 107 + 3 = 110 := by decide +kernel
theorem D_T_step_110 : decode prog_6_method_8_code 110 = .ok (.aload_n 0, 1) ∧ 110 + 1 = 111 := by decide +kernel
theorem D_T_step_111 : decode prog_6_method_8_code 111 = .ok (.getfield 19, 3) ∧ 111 + 3 = 114 := by decide +kernel
theorem D_T_step_114 : decode prog_6_method_8_code 114 = .ok (.iconst 1, 1) ∧ 114 + 1 = 115 := by decide +kernel
theorem D_T_step_115 : decode prog_6_method_8_code 115 = .ok (.iadd, 1) ∧ 115 + 1 = 116 := by decide +kernel
theorem D_T_step_116 : decode prog_6_method_8_code 116 = .ok (.invokestatic 62, 3) ∧ 116 + 3 = 119 := by decide +kernel
theorem D_T_step_119 : decode prog_6_method_8_code 119 = .ok (.putfield 22, 3) ∧ 119 + 3 = 122 := by decide +kernel
theorem D_T_step_122 : decode prog_6_method_8_code 122 = .ok (.aload_n 0, 1) ∧ 122 + 1 = 123 := by decide +kernel
theorem D_T_step_123 : decode prog_6_method_8_code 123 = .ok (.getfield 22, 3) ∧ 123 + 3 = 126 := by decide +kernel
theorem D_T_step_126 : decode prog_6_method_8_code 126 = .ok (.aload_n 0, 1) ∧ 126 + 1 = 127 := by decide +kernel
theorem D_T_step_127 : decode prog_6_method_8_code 127 = .ok (.getfield 9, 3) ∧ 127 + 3 = 130 := by decide +kernel
theorem D_T_step_130 : decode prog_6_method_8_code 130 = .ok (.if_icmp .ge 55, 3) ∧ ((130 : Nat) : Int) + 55 = ((185 : Nat) : Int) ∧ 130 + 3 = 133 := by decide +kernel
theorem D_T_step_133 : decode prog_6_method_8_code 133 = .ok (.iload_n 3, 1) ∧ 133 + 1 = 134 := by decide +kernel
theorem D_T_step_134 : decode prog_6_method_8_code 134 = .ok (.ifCond .eq 18, 3) ∧ ((134 : Nat) : Int) + 18 = ((152 : Nat) : Int) ∧ 134 + 3 = 137 := by decide +kernel
theorem D_T_step_152 : decode prog_6_method_8_code 152 = .ok (.iload 4, 2) ∧ 152 + 2 = 154 := by decide +kernel
theorem D_T_step_154 : decode prog_6_method_8_code 154 = .ok (.ifCond .eq 31, 3) ∧ ((154 : Nat) : Int) + 31 = ((185 : Nat) : Int) ∧ 154 + 3 = 157 := by decide +kernel
theorem D_T_step_157 : decode prog_6_method_8_code 157 = .ok (.aload_n 0, 1) ∧ 157 + 1 = 158 := by decide +kernel
theorem D_T_step_158 : decode prog_6_method_8_code 158 = .ok (.getfield 15, 3) ∧ 158 + 3 = 161 := by decide +kernel
theorem D_T_step_161 : decode prog_6_method_8_code 161 = .ok (.aload_n 0, 1) ∧ 161 + 1 = 162 := by decide +kernel
theorem D_T_step_162 : decode prog_6_method_8_code 162 = .ok (.getfield 22, 3) ∧ 162 + 3 = 165 := by decide +kernel
theorem D_T_step_165 : decode prog_6_method_8_code 165 = .ok (.iaload, 1) ∧ 165 + 1 = 166 := by decide +kernel
theorem D_T_step_166 : decode prog_6_method_8_code 166 = .ok (.invokestatic 59, 3) ∧ 166 + 3 = 169 := by decide +kernel
theorem D_T_step_169 : decode prog_6_method_8_code 169 = .ok (.ifCond .eq 16, 3) ∧ ((169 : Nat) : Int) + 16 = ((185 : Nat) : Int) ∧ 169 + 3 = 172 := by decide +kernel
theorem D_T_step_172 : decode prog_6_method_8_code 172 = .ok (.aload_n 0, 1) ∧ 172 + 1 = 173 := by decide +kernel
theorem D_T_step_173 : decode prog_6_method_8_code 173 = .ok (.dup, 1) ∧ 173 + 1 = 174 := by decide +kernel
theorem D_T_step_174 : decode prog_6_method_8_code 174 = .ok (.getfield 22, 3) ∧ 174 + 3 = 177 := by decide +kernel
theorem D_T_step_177 : decode prog_6_method_8_code 177 = .ok (.iconst 1, 1) ∧ 177 + 1 = 178 := by decide +kernel
theorem D_T_step_178 : decode prog_6_method_8_code 178 = .ok (.iadd, 1) ∧ 178 + 1 = 179 := by decide +kernel
theorem D_T_step_179 : decode prog_6_method_8_code 179 = .ok (.putfield 22, 3) ∧ 179 + 3 = 182 := by decide +kernel
theorem D_T_step_182 : decode prog_6_method_8_code 182 = .ok (.goto (-60), 3) ∧ ((182 : Nat) : Int) + (-60) = ((122 : Nat) : Int) := by decide +kernel
theorem D_T_step_137 : decode prog_6_method_8_code 137 = .ok (.aload_n 0, 1) ∧ 137 + 1 = 138 := by decide +kernel
theorem D_T_step_138 : decode prog_6_method_8_code 138 = .ok (.getfield 15, 3) ∧ 138 + 3 = 141 := by decide +kernel
theorem D_T_step_141 : decode prog_6_method_8_code 141 = .ok (.aload_n 0, 1) ∧ 141 + 1 = 142 := by decide +kernel
theorem D_T_step_142 : decode prog_6_method_8_code 142 = .ok (.getfield 22, 3) ∧ 142 + 3 = 145 := by decide +kernel
theorem D_T_step_145 : decode prog_6_method_8_code 145 = .ok (.iaload, 1) ∧ 145 + 1 = 146 := by decide +kernel
theorem D_T_step_146 : decode prog_6_method_8_code 146 = .ok (.invokestatic 55, 3) ∧ 146 + 3 = 149 := by decide +kernel
theorem D_T_step_149 : decode prog_6_method_8_code 149 = .ok (.ifCond .ne 23, 3) ∧ ((149 : Nat) : Int) + 23 = ((172 : Nat) : Int) ∧ 149 + 3 = 152 := by decide +kernel
theorem D_T_step_185 : decode prog_6_method_8_code 185 = .ok (.aload_n 0, 1) ∧ 185 + 1 = 186 := by decide +kernel
theorem D_T_step_186 : decode prog_6_method_8_code 186 = .ok (.iload_n 1, 1) ∧ 186 + 1 = 187 := by decide +kernel
theorem D_T_step_187 : decode prog_6_method_8_code 187 = .ok (.ifCond .eq 24, 3) ∧ ((187 : Nat) : Int) + 24 = ((211 : Nat) : Int) ∧ 187 + 3 = 190 := by decide +kernel
theorem D_T_step_211 : decode prog_6_method_8_code 211 = .ok (.iconst 0, 1) ∧ 211 + 1 = 212 := by decide +kernel
theorem D_T_step_212 : decode prog_6_method_8_code 212 = .ok (.putfield 25, 3) ∧ 212 + 3 = 215 := by decide +kernel
theorem D_T_step_215 : decode prog_6_method_8_code 215 = .ok (.return_, 1) := by decide +kernel
theorem D_T_step_11 : decode prog_6_method_8_code 11 = .ok (.aload_n 0, 1) ∧ 11 + 1 = 12 := by decide +kernel
theorem D_T_step_12 : decode prog_6_method_8_code 12 = .ok (.invokevirtual 48, 3) ∧ 12 + 3 = 15 := by decide +kernel
theorem D_T_step_15 : decode prog_6_method_8_code 15 = .ok (.invokestatic 55, 3) ∧ 15 + 3 = 18 := by decide +kernel
theorem D_T_step_18 : decode prog_6_method_8_code 18 = .ok (.ifCond .ne 13, 3) ∧ ((18 : Nat) : Int) + 13 = ((31 : Nat) : Int) ∧ 18 + 3 = 21 := by decide +kernel
theorem D_T_step_31 : decode prog_6_method_8_code 31 = .ok (.iconst 1, 1) ∧ 31 + 1 = 32 := by decide +kernel
theorem D_T_step_32 : decode prog_6_method_8_code 32 = .ok (.goto 4, 3) ∧ ((32 : Nat) : Int) + 4 = ((36 : Nat) : Int) := by decide +kernel
theorem D_T_step_190 : decode prog_6_method_8_code 190 = .ok (.aload_n 0, 1) ∧ 190 + 1 = 191 := by decide +kernel
theorem D_T_step_191 : decode prog_6_method_8_code 191 = .ok (.getfield 19, 3) ∧ 191 + 3 = 194 := by decide +kernel
theorem D_T_step_194 : decode prog_6_method_8_code 194 = .ok (.iload_n 2, 1) ∧ 194 + 1 = 195 := by decide +kernel
theorem D_T_step_198 : decode prog_6_method_8_code 198 = .ok (.iload_n 3, 1) ∧ 198 + 1 = 199 := by decide +kernel
theorem D_T_step_207 : decode prog_6_method_8_code 207 = .ok (.iconst 1, 1) ∧ 207 + 1 = 208 := by decide +kernel
theorem D_T_step_208 : decode prog_6_method_8_code 208 = .ok (.goto 4, 3) ∧ ((208 : Nat) : Int) + 4 = ((212 : Nat) : Int) := by decide +kernel
theorem D_T_step_202 : decode prog_6_method_8_code 202 = .ok (.iload 4, 2) ∧ 202 + 2 = 204 := by decide +kernel
theorem D_T_step_204 : decode prog_6_method_8_code 204 = .ok (.ifCond .eq 7, 3) ∧ ((204 : Nat) : Int) + 7 = ((211 : Nat) : Int) ∧ 204 + 3 = 207 := by decide +kernel
theorem D_T_step_199 : decode prog_6_method_8_code 199 = .ok (.ifCond .ne 8, 3) ∧ ((199 : Nat) : Int) + 8 = ((207 : Nat) : Int) ∧ 199 + 3 = 202 := by decide +kernel
theorem D_T_step_195 : decode prog_6_method_8_code 195 = .ok (.if_icmp .ne 16, 3) ∧ ((195 : Nat) : Int) + 16 = ((211 : Nat) : Int) ∧ 195 + 3 = 198 := by decide +kernel
theorem D_T_step_21 : decode prog_6_method_8_code 21 = .ok (.aload_n 0, 1) ∧ 21 + 1 = 22 := by decide +kernel
theorem D_T_step_22 : decode prog_6_method_8_code 22 = .ok (.invokevirtual 48, 3) ∧ 22 + 3 = 25 := by decide +kernel
theorem D_T_step_25 : decode prog_6_method_8_code 25 = .ok (.invokestatic 59, 3) ∧ 25 + 3 = 28 := by decide +kernel
theorem D_T_step_28 : decode prog_6_method_8_code 28 = .ok (.ifCond .eq 7, 3) ∧ ((28 : Nat) : Int) + 7 = ((35 : Nat) : Int) ∧ 28 + 3 = 31 := by decide +kernel
def f_T_step_L50  : Nat → Int32 → Int32 → Mm → Option Mm
  | 0, _, _, _ => none
  | n + 1, b1, b2, mem => if mem 2 0 ≤ mem 2 2 then some mem else if inb (mem 2 2) 96 = true then if mem 3 (ix (mem 2 2)) = 32 then lt (mst mem 2 2 ((mem 2 2) + 1)) fun m_82 => f_T_step_L50 n b1 b2 m_82 else some mem else none
def f_T_step_L122  : Nat → Int32 → Int32 → Int32 → Int32 → Mm → Option Mm
  | 0, _, _, _, _, _ => none
  | n + 1, b1, b2, b3, b4, mem => if mem 2 0 ≤ mem 2 3 then some mem else if b3 = 0 then if b4 = 0 then some mem else if inb (mem 2 3) 96 = true then bp (f_T_isDigit (mem 3 (ix (mem 2 3)))) fun r_166 => if r_166 = 0 then some mem else lt (mst mem 2 3 ((mem 2 3) + 1)) fun m_179 => f_T_step_L122 n b1 b2 b3 b4 m_179 else none else if inb (mem 2 3) 96 = true then bp (f_T_isLetter (mem 3 (ix (mem 2 3)))) fun r_146 => if r_146 = 0 then if b4 = 0 then some mem else bp (f_T_isDigit (mem 3 (ix (mem 2 3)))) fun r_166 => if r_166 = 0 then some mem else lt (mst mem 2 3 ((mem 2 3) + 1)) fun m_179 => f_T_step_L122 n b1 b2 b3 b4 m_179 else lt (mst mem 2 3 ((mem 2 3) + 1)) fun m_179 => f_T_step_L122 n b1 b2 b3 b4 m_179 else none
def f_T_step (N : Nat)  (mem : Mm) : Option (Mm) := if mem 2 3 ≤ mem 2 2 then lt (mem 2 3) fun x_41 => lt (mst mem 2 2 (mem 2 3)) fun m_47 => bp (f_T_step_L50 N 0 x_41 m_47) fun m_50 => bp (f_T_here m_50) fun r_89 => bp (f_T_isLetter r_89) fun r_92 => bp (f_T_here m_50) fun r_97 => bp (f_T_isDigit r_97) fun r_100 => lt (mst m_50 2 3 (if ((m_50 2 2) + 1) < (m_50 2 0) then (m_50 2 2) + 1 else m_50 2 0)) fun m_119 => bp (f_T_step_L122 N 0 x_41 r_92 r_100 m_119) fun m_122 => lt (mst m_122 2 4 0) fun m_212 => some m_212 else bp (f_T_here mem) fun r_12 => bp (f_T_isLetter r_12) fun r_15 => if r_15 = 0 then bp (f_T_here mem) fun r_22 => bp (f_T_isDigit r_22) fun r_25 => lt (if r_25 = 0 then (0 : Int32) else 1) fun x_36 => lt (mem 2 3) fun x_41 => lt (mst mem 2 2 (mem 2 3)) fun m_47 => bp (f_T_step_L50 N x_36 x_41 m_47) fun m_50 => bp (f_T_here m_50) fun r_89 => bp (f_T_isLetter r_89) fun r_92 => bp (f_T_here m_50) fun r_97 => bp (f_T_isDigit r_97) fun r_100 => lt (mst m_50 2 3 (if ((m_50 2 2) + 1) < (m_50 2 0) then (m_50 2 2) + 1 else m_50 2 0)) fun m_119 => bp (f_T_step_L122 N x_36 x_41 r_92 r_100 m_119) fun m_122 => lt (mst m_122 2 4 (if x_36 = 0 then (0 : Int32) else if m_122 2 2 = x_41 then if r_92 = 0 then if r_100 = 0 then (0 : Int32) else 1 else 1 else 0)) fun m_212 => some m_212 else lt (mem 2 3) fun x_41 => lt (mst mem 2 2 (mem 2 3)) fun m_47 => bp (f_T_step_L50 N 1 x_41 m_47) fun m_50 => bp (f_T_here m_50) fun r_89 => bp (f_T_isLetter r_89) fun r_92 => bp (f_T_here m_50) fun r_97 => bp (f_T_isDigit r_97) fun r_100 => lt (mst m_50 2 3 (if ((m_50 2 2) + 1) < (m_50 2 0) then (m_50 2 2) + 1 else m_50 2 0)) fun m_119 => bp (f_T_step_L122 N 1 x_41 r_92 r_100 m_119) fun m_122 => lt (mst m_122 2 4 (if m_122 2 2 = x_41 then if r_92 = 0 then if r_100 = 0 then (0 : Int32) else 1 else 1 else 0)) fun m_212 => some m_212
theorem L_T_step_50 {X : Cx} {E : En} (S : Std X E prog_6_method_8_code R3 5 1)  : ∀ (n : Nat) (b1 : Int32) (b2 : Int32) (mem : Mm) (m2 : Mm), f_T_step_L50 n b1 b2 mem = some m2 → J X E 5 88 [(0, .ref (eb E + 2)), (1, .int b1), (2, .int b2)] [] SH m2 → J X E 5 50 [(0, .ref (eb E + 2)), (1, .int b1), (2, .int b2)] [] SH mem := by
  intro n
  induction n with
  | zero =>
    intro b1 b2 mem m2 h hk; cases h
  | succ n ih =>
    intro b1 b2 mem m2 h hk
    rw [f_T_step_L50] at h
    refine j_aload_n S D_T_step_50 0 rfl rfl ?_
    refine j_getI S D_T_step_51 fl_R3_19 sh_Tape rfl ?_
    refine j_aload_n S D_T_step_54 0 rfl rfl ?_
    refine j_getI S D_T_step_55 fl_R3_9 sh_Tape rfl ?_
    refine j_icmp_ge S D_T_step_58 (fun c_58 => ?_) (fun c_58 => ?_)
    · have h := ifT c_58 h
      cases h
      exact j_locals [0, 1, 2] rfl hk
    · have h := ifF c_58 h
      refine j_aload_n S D_T_step_61 0 rfl rfl ?_
      refine j_getR S D_T_step_62 fl_R3_15 sh_Tape rfl ?_
      refine j_aload_n S D_T_step_65 0 rfl rfl ?_
      refine j_getI S D_T_step_66 fl_R3_19 sh_Tape rfl ?_
      obtain ⟨g_69, h⟩ := gdE h
      refine j_iald S D_T_step_69 sh_3 g_69 ?_
      refine j_bipush S D_T_step_70 cb_32 ?_
      refine j_icmp_ne S D_T_step_72 (fun c_72 => ?_) (fun c_72 => ?_)
      · have h := ifF c_72 h
        cases h
        exact j_locals [0, 1, 2] rfl hk
      · have h := ifT c_72 h
        refine j_aload_n S D_T_step_75 0 rfl rfl ?_
        refine j_dup S D_T_step_76 rfl ?_
        refine j_getI S D_T_step_77 fl_R3_19 sh_Tape rfl ?_
        refine j_iconst S D_T_step_80 ci_1 ?_
        refine j_iadd S D_T_step_81 ?_
        obtain ⟨m_82, hm_82, h⟩ := ltE h
        refine j_putI S D_T_step_82 fp_R3_19 sh_Tape rfl ?_
        refine j_mem hm_82 ?_
        refine j_goto S D_T_step_85 ?_
        refine j_locals [0, 1, 2] rfl (ih b1 b2 m_82 _ h hk)
theorem L_T_step_122 {X : Cx} {E : En} (S : Std X E prog_6_method_8_code R3 5 1)  : ∀ (n : Nat) (b1 : Int32) (b2 : Int32) (b3 : Int32) (b4 : Int32) (mem : Mm) (m2 : Mm), f_T_step_L122 n b1 b2 b3 b4 mem = some m2 → J X E 5 185 [(0, .ref (eb E + 2)), (1, .int b1), (2, .int b2), (3, .int b3), (4, .int b4)] [] SH m2 → J X E 5 122 [(0, .ref (eb E + 2)), (1, .int b1), (2, .int b2), (3, .int b3), (4, .int b4)] [] SH mem := by
  intro n
  induction n with
  | zero =>
    intro b1 b2 b3 b4 mem m2 h hk; cases h
  | succ n ih =>
    intro b1 b2 b3 b4 mem m2 h hk
    rw [f_T_step_L122] at h
    refine j_aload_n S D_T_step_122 0 rfl rfl ?_
    refine j_getI S D_T_step_123 fl_R3_22 sh_Tape rfl ?_
    refine j_aload_n S D_T_step_126 0 rfl rfl ?_
    refine j_getI S D_T_step_127 fl_R3_9 sh_Tape rfl ?_
    refine j_icmp_ge S D_T_step_130 (fun c_130 => ?_) (fun c_130 => ?_)
    · have h := ifT c_130 h
      cases h
      exact j_locals [0, 1, 2, 3, 4] rfl hk
    · have h := ifF c_130 h
      refine j_iload_n S D_T_step_133 3 rfl rfl ?_
      refine j_if_eq S D_T_step_134 (fun c_134 => ?_) (fun c_134 => ?_)
      · have h := ifT c_134 h
        refine j_iload S D_T_step_152 4 rfl ?_
        refine j_if_eq S D_T_step_154 (fun c_154 => ?_) (fun c_154 => ?_)
        · have h := ifT c_154 h
          cases h
          exact j_locals [0, 1, 2, 3, 4] rfl hk
        · have h := ifF c_154 h
          refine j_aload_n S D_T_step_157 0 rfl rfl ?_
          refine j_getR S D_T_step_158 fl_R3_15 sh_Tape rfl ?_
          refine j_aload_n S D_T_step_161 0 rfl rfl ?_
          refine j_getI S D_T_step_162 fl_R3_22 sh_Tape rfl ?_
          obtain ⟨g_165, h⟩ := gdE h
          refine j_iald S D_T_step_165 sh_3 g_165 ?_
          obtain ⟨r_166, e_166, h⟩ := bpE h
          refine j_callSI (As := [.int (mem 3 (ix (mem 2 3)))]) S D_T_step_166 ms_R3_59 (c_T_isDigit (cxL X) E (mem 3 (ix (mem 2 3))) (mem := mem) e_166) (by decide) rfl rfl (Nat.le_of_ble_eq_true rfl) ?_
          refine j_if_eq S D_T_step_169 (fun c_169 => ?_) (fun c_169 => ?_)
          · have h := ifT c_169 h
            cases h
            exact j_locals [0, 1, 2, 3, 4] rfl hk
          · have h := ifF c_169 h
            refine j_aload_n S D_T_step_172 0 rfl rfl ?_
            refine j_dup S D_T_step_173 rfl ?_
            refine j_getI S D_T_step_174 fl_R3_22 sh_Tape rfl ?_
            refine j_iconst S D_T_step_177 ci_1 ?_
            refine j_iadd S D_T_step_178 ?_
            obtain ⟨m_179, hm_179, h⟩ := ltE h
            refine j_putI S D_T_step_179 fp_R3_22 sh_Tape rfl ?_
            refine j_mem hm_179 ?_
            refine j_goto S D_T_step_182 ?_
            refine j_locals [0, 1, 2, 3, 4] rfl (ih b1 b2 b3 b4 m_179 _ h hk)
      · have h := ifF c_134 h
        refine j_aload_n S D_T_step_137 0 rfl rfl ?_
        refine j_getR S D_T_step_138 fl_R3_15 sh_Tape rfl ?_
        refine j_aload_n S D_T_step_141 0 rfl rfl ?_
        refine j_getI S D_T_step_142 fl_R3_22 sh_Tape rfl ?_
        obtain ⟨g_145, h⟩ := gdE h
        refine j_iald S D_T_step_145 sh_3 g_145 ?_
        obtain ⟨r_146, e_146, h⟩ := bpE h
        refine j_callSI (As := [.int (mem 3 (ix (mem 2 3)))]) S D_T_step_146 ms_R3_55 (c_T_isLetter (cxL X) E (mem 3 (ix (mem 2 3))) (mem := mem) e_146) (by decide) rfl rfl (Nat.le_of_ble_eq_true rfl) ?_
        refine j_if_ne S D_T_step_149 (fun c_149 => ?_) (fun c_149 => ?_)
        · have h := ifF c_149 h
          refine j_aload_n S D_T_step_172 0 rfl rfl ?_
          refine j_dup S D_T_step_173 rfl ?_
          refine j_getI S D_T_step_174 fl_R3_22 sh_Tape rfl ?_
          refine j_iconst S D_T_step_177 ci_1 ?_
          refine j_iadd S D_T_step_178 ?_
          obtain ⟨m_179, hm_179, h⟩ := ltE h
          refine j_putI S D_T_step_179 fp_R3_22 sh_Tape rfl ?_
          refine j_mem hm_179 ?_
          refine j_goto S D_T_step_182 ?_
          refine j_locals [0, 1, 2, 3, 4] rfl (ih b1 b2 b3 b4 m_179 _ h hk)
        · have h := ifT c_149 h
          refine j_iload S D_T_step_152 4 rfl ?_
          refine j_if_eq S D_T_step_154 (fun c_154 => ?_) (fun c_154 => ?_)
          · have h := ifT c_154 h
            cases h
            exact j_locals [0, 1, 2, 3, 4] rfl hk
          · have h := ifF c_154 h
            refine j_aload_n S D_T_step_157 0 rfl rfl ?_
            refine j_getR S D_T_step_158 fl_R3_15 sh_Tape rfl ?_
            refine j_aload_n S D_T_step_161 0 rfl rfl ?_
            refine j_getI S D_T_step_162 fl_R3_22 sh_Tape rfl ?_
            refine j_iald S D_T_step_165 sh_3 g_145 ?_
            obtain ⟨r_166, e_166, h⟩ := bpE h
            refine j_callSI (As := [.int (mem 3 (ix (mem 2 3)))]) S D_T_step_166 ms_R3_59 (c_T_isDigit (cxL X) E (mem 3 (ix (mem 2 3))) (mem := mem) e_166) (by decide) rfl rfl (Nat.le_of_ble_eq_true rfl) ?_
            refine j_if_eq S D_T_step_169 (fun c_169 => ?_) (fun c_169 => ?_)
            · have h := ifT c_169 h
              cases h
              exact j_locals [0, 1, 2, 3, 4] rfl hk
            · have h := ifF c_169 h
              refine j_aload_n S D_T_step_172 0 rfl rfl ?_
              refine j_dup S D_T_step_173 rfl ?_
              refine j_getI S D_T_step_174 fl_R3_22 sh_Tape rfl ?_
              refine j_iconst S D_T_step_177 ci_1 ?_
              refine j_iadd S D_T_step_178 ?_
              obtain ⟨m_179, hm_179, h⟩ := ltE h
              refine j_putI S D_T_step_179 fp_R3_22 sh_Tape rfl ?_
              refine j_mem hm_179 ?_
              refine j_goto S D_T_step_182 ?_
              refine j_locals [0, 1, 2, 3, 4] rfl (ih b1 b2 b3 b4 m_179 _ h hk)
theorem c_T_step (l : Launch) (E : En) (N : Nat)  {mem : Mm} {m2 : Mm} (h : f_T_step N mem = some m2) : CtV l E 1 y_T_step prog_6_method_8_code 5 [.ref (eb E + 2)] SH mem m2 := by
  refine mk_CtV ⟨by decide, (Nat.le_of_ble_eq_true rfl)⟩ (fun X S hl hR => ?_)
  have S : Std X E prog_6_method_8_code R3 5 1 := S
  show J X E 5 0 [(0, .ref (eb E + 2))] [] SH mem
  unfold f_T_step at h
  refine j_aload_n S D_T_step_0 0 rfl rfl ?_
  refine j_getI S D_T_step_1 fl_R3_22 sh_Tape rfl ?_
  refine j_aload_n S D_T_step_4 0 rfl rfl ?_
  refine j_getI S D_T_step_5 fl_R3_19 sh_Tape rfl ?_
  refine j_icmp_le S D_T_step_8 (fun c_8 => ?_) (fun c_8 => ?_)
  · have h := ifT c_8 h
    refine j_iconst S D_T_step_35 ci_0 ?_
    refine j_istore_n S D_T_step_36 (lv := [(1, .int 0), (0, .ref (eb E + 2))]) rfl ⟨rfl, (Nat.le_of_ble_eq_true rfl)⟩ ?_
    refine j_aload_n S D_T_step_37 1 rfl rfl ?_
    refine j_getI S D_T_step_38 fl_R3_22 sh_Tape rfl ?_
    obtain ⟨x_41, hx_41, h⟩ := ltE h
    refine j_nm hx_41 ?_
    refine j_istore_n S D_T_step_41 (lv := [(2, .int x_41), (1, .int 0), (0, .ref (eb E + 2))]) rfl ⟨rfl, (Nat.le_of_ble_eq_true rfl)⟩ ?_
    refine j_aload_n S D_T_step_42 2 rfl rfl ?_
    refine j_aload_n S D_T_step_43 2 rfl rfl ?_
    refine j_getI S D_T_step_44 fl_R3_22 sh_Tape rfl ?_
    obtain ⟨m_47, hm_47, h⟩ := ltE h
    refine j_putI S D_T_step_47 fp_R3_19 sh_Tape rfl ?_
    refine j_mem hm_47 ?_
    refine j_locals [2, 1, 0] rfl ?_
    obtain ⟨m_50, e_50, h⟩ := bpE h
    refine L_T_step_50 S  N 0 x_41 m_47 _ e_50 ?_
    refine j_aload_n S D_T_step_88 0 rfl rfl ?_
    obtain ⟨r_89, e_89, h⟩ := bpE h
    refine j_callVI (As := []) S D_T_step_89 mv_R3_48 (c_T_here (cxL X) E e_89) (by decide) sh_Tape rfl rfl rfl rfl (Nat.le_of_ble_eq_true rfl) ?_
    obtain ⟨r_92, e_92, h⟩ := bpE h
    refine j_callSI (As := [.int r_89]) S D_T_step_92 ms_R3_55 (c_T_isLetter (cxL X) E r_89 (mem := m_50) e_92) (by decide) rfl rfl (Nat.le_of_ble_eq_true rfl) ?_
    refine j_istore_n S D_T_step_95 (lv := [(3, .int r_92), (0, .ref (eb E + 2)), (1, .int 0), (2, .int x_41)]) rfl ⟨rfl, (Nat.le_of_ble_eq_true rfl)⟩ ?_
    refine j_aload_n S D_T_step_96 1 rfl rfl ?_
    obtain ⟨r_97, e_97, h⟩ := bpE h
    refine j_callVI (As := []) S D_T_step_97 mv_R3_48 (c_T_here (cxL X) E e_97) (by decide) sh_Tape rfl rfl rfl rfl (Nat.le_of_ble_eq_true rfl) ?_
    obtain ⟨r_100, e_100, h⟩ := bpE h
    refine j_callSI (As := [.int r_97]) S D_T_step_100 ms_R3_59 (c_T_isDigit (cxL X) E r_97 (mem := m_50) e_100) (by decide) rfl rfl (Nat.le_of_ble_eq_true rfl) ?_
    refine j_istore S D_T_step_103 (lv := [(4, .int r_100), (3, .int r_92), (0, .ref (eb E + 2)), (1, .int 0), (2, .int x_41)]) rfl (Nat.le_of_ble_eq_true rfl) ?_
    refine j_aload_n S D_T_step_105 2 rfl rfl ?_
    refine j_aload_n S D_T_step_106 2 rfl rfl ?_
    refine j_getI S D_T_step_107 fl_R3_9 sh_Tape rfl ?_
    refine j_aload_n S D_T_step_110 2 rfl rfl ?_
    refine j_getI S D_T_step_111 fl_R3_19 sh_Tape rfl ?_
    refine j_iconst S D_T_step_114 ci_1 ?_
    refine j_iadd S D_T_step_115 ?_
    refine j_mmin S D_T_step_116 (by decide) mm_R3_62 (Nat.le_of_ble_eq_true rfl) ?_
    obtain ⟨m_119, hm_119, h⟩ := ltE h
    refine j_putI S D_T_step_119 fp_R3_22 sh_Tape rfl ?_
    refine j_mem hm_119 ?_
    refine j_locals [2, 3, 4, 1, 0] rfl ?_
    obtain ⟨m_122, e_122, h⟩ := bpE h
    refine L_T_step_122 S  N 0 x_41 r_92 r_100 m_119 _ e_122 ?_
    refine j_aload_n S D_T_step_185 0 rfl rfl ?_
    refine j_iload_n S D_T_step_186 1 rfl rfl ?_
    refine j_if_eq S D_T_step_187 (fun _ => ?_) (fun c_ => absurd c_ (by decide +kernel))
    refine j_iconst S D_T_step_211 ci_0 ?_
    obtain ⟨m_212, hm_212, h⟩ := ltE h
    refine j_put S D_T_step_212 fp_R3_25 sh_Tape rfl (isb_nf isb0) ?_
    refine j_mem hm_212 ?_
    exact rtV hR h _ _ D_T_step_215
  · have h := ifF c_8 h
    refine j_aload_n S D_T_step_11 0 rfl rfl ?_
    obtain ⟨r_12, e_12, h⟩ := bpE h
    refine j_callVI (As := []) S D_T_step_12 mv_R3_48 (c_T_here (cxL X) E e_12) (by decide) sh_Tape rfl rfl rfl rfl (Nat.le_of_ble_eq_true rfl) ?_
    obtain ⟨r_15, e_15, h⟩ := bpE h
    refine j_callSI (As := [.int r_12]) S D_T_step_15 ms_R3_55 (c_T_isLetter (cxL X) E r_12 (mem := mem) e_15) (by decide) rfl rfl (Nat.le_of_ble_eq_true rfl) ?_
    refine j_if_ne S D_T_step_18 (fun c_18 => ?_) (fun c_18 => ?_)
    · have h := ifF c_18 h
      refine j_iconst S D_T_step_31 ci_1 ?_
      refine j_goto S D_T_step_32 ?_
      refine j_istore_n S D_T_step_36 (lv := [(1, .int 1), (0, .ref (eb E + 2))]) rfl ⟨rfl, (Nat.le_of_ble_eq_true rfl)⟩ ?_
      refine j_aload_n S D_T_step_37 1 rfl rfl ?_
      refine j_getI S D_T_step_38 fl_R3_22 sh_Tape rfl ?_
      obtain ⟨x_41, hx_41, h⟩ := ltE h
      refine j_nm hx_41 ?_
      refine j_istore_n S D_T_step_41 (lv := [(2, .int x_41), (1, .int 1), (0, .ref (eb E + 2))]) rfl ⟨rfl, (Nat.le_of_ble_eq_true rfl)⟩ ?_
      refine j_aload_n S D_T_step_42 2 rfl rfl ?_
      refine j_aload_n S D_T_step_43 2 rfl rfl ?_
      refine j_getI S D_T_step_44 fl_R3_22 sh_Tape rfl ?_
      obtain ⟨m_47, hm_47, h⟩ := ltE h
      refine j_putI S D_T_step_47 fp_R3_19 sh_Tape rfl ?_
      refine j_mem hm_47 ?_
      refine j_locals [2, 1, 0] rfl ?_
      obtain ⟨m_50, e_50, h⟩ := bpE h
      refine L_T_step_50 S  N 1 x_41 m_47 _ e_50 ?_
      refine j_aload_n S D_T_step_88 0 rfl rfl ?_
      obtain ⟨r_89, e_89, h⟩ := bpE h
      refine j_callVI (As := []) S D_T_step_89 mv_R3_48 (c_T_here (cxL X) E e_89) (by decide) sh_Tape rfl rfl rfl rfl (Nat.le_of_ble_eq_true rfl) ?_
      obtain ⟨r_92, e_92, h⟩ := bpE h
      refine j_callSI (As := [.int r_89]) S D_T_step_92 ms_R3_55 (c_T_isLetter (cxL X) E r_89 (mem := m_50) e_92) (by decide) rfl rfl (Nat.le_of_ble_eq_true rfl) ?_
      refine j_istore_n S D_T_step_95 (lv := [(3, .int r_92), (0, .ref (eb E + 2)), (1, .int 1), (2, .int x_41)]) rfl ⟨rfl, (Nat.le_of_ble_eq_true rfl)⟩ ?_
      refine j_aload_n S D_T_step_96 1 rfl rfl ?_
      obtain ⟨r_97, e_97, h⟩ := bpE h
      refine j_callVI (As := []) S D_T_step_97 mv_R3_48 (c_T_here (cxL X) E e_97) (by decide) sh_Tape rfl rfl rfl rfl (Nat.le_of_ble_eq_true rfl) ?_
      obtain ⟨r_100, e_100, h⟩ := bpE h
      refine j_callSI (As := [.int r_97]) S D_T_step_100 ms_R3_59 (c_T_isDigit (cxL X) E r_97 (mem := m_50) e_100) (by decide) rfl rfl (Nat.le_of_ble_eq_true rfl) ?_
      refine j_istore S D_T_step_103 (lv := [(4, .int r_100), (3, .int r_92), (0, .ref (eb E + 2)), (1, .int 1), (2, .int x_41)]) rfl (Nat.le_of_ble_eq_true rfl) ?_
      refine j_aload_n S D_T_step_105 2 rfl rfl ?_
      refine j_aload_n S D_T_step_106 2 rfl rfl ?_
      refine j_getI S D_T_step_107 fl_R3_9 sh_Tape rfl ?_
      refine j_aload_n S D_T_step_110 2 rfl rfl ?_
      refine j_getI S D_T_step_111 fl_R3_19 sh_Tape rfl ?_
      refine j_iconst S D_T_step_114 ci_1 ?_
      refine j_iadd S D_T_step_115 ?_
      refine j_mmin S D_T_step_116 (by decide) mm_R3_62 (Nat.le_of_ble_eq_true rfl) ?_
      obtain ⟨m_119, hm_119, h⟩ := ltE h
      refine j_putI S D_T_step_119 fp_R3_22 sh_Tape rfl ?_
      refine j_mem hm_119 ?_
      refine j_locals [2, 3, 4, 1, 0] rfl ?_
      obtain ⟨m_122, e_122, h⟩ := bpE h
      refine L_T_step_122 S  N 1 x_41 r_92 r_100 m_119 _ e_122 ?_
      refine j_aload_n S D_T_step_185 0 rfl rfl ?_
      refine j_iload_n S D_T_step_186 1 rfl rfl ?_
      refine j_if_eq S D_T_step_187 (fun c_ => absurd c_ (by decide +kernel)) (fun _ => ?_)
      refine j_aload_n S D_T_step_190 0 rfl rfl ?_
      refine j_getI S D_T_step_191 fl_R3_19 sh_Tape rfl ?_
      refine j_iload_n S D_T_step_194 2 rfl rfl ?_
      refine j_dia (P := J X E 5 212 [(0, .ref (eb E + 2)), (1, .int 1), (2, .int x_41), (3, .int r_92), (4, .int r_100)] [.int (if m_122 2 2 = x_41 then if r_92 = 0 then if r_100 = 0 then (0 : Int32) else 1 else 1 else 0), .ref (eb E + 2)] SH m_122) (fun hj => ?_) ?_
      · refine j_icmp_ne S D_T_step_195 (fun c_195 => ?_) (fun c_195 => ?_)
        · refine j_iconst S D_T_step_211 ci_0 ?_
          exact j_jnF hj c_195
        · refine j_iload_n S D_T_step_198 3 rfl rfl ?_
          refine j_dia (P := J X E 5 212 [(0, .ref (eb E + 2)), (1, .int 1), (2, .int x_41), (3, .int r_92), (4, .int r_100)] [.int (if r_92 = 0 then if r_100 = 0 then (0 : Int32) else 1 else 1), .ref (eb E + 2)] SH m_122) (fun hj => ?_) ?_
          · refine j_if_ne S D_T_step_199 (fun c_199 => ?_) (fun c_199 => ?_)
            · refine j_iconst S D_T_step_207 ci_1 ?_
              refine j_goto S D_T_step_208 ?_
              exact j_jnF hj c_199
            · refine j_iload S D_T_step_202 4 rfl ?_
              refine j_dia (P := J X E 5 212 [(0, .ref (eb E + 2)), (1, .int 1), (2, .int x_41), (3, .int r_92), (4, .int r_100)] [.int (if r_100 = 0 then (0 : Int32) else 1), .ref (eb E + 2)] SH m_122) (fun hj => ?_) ?_
              · refine j_if_eq S D_T_step_204 (fun c_204 => ?_) (fun c_204 => ?_)
                · refine j_iconst S D_T_step_211 ci_0 ?_
                  exact j_jnT hj c_204
                · refine j_iconst S D_T_step_207 ci_1 ?_
                  refine j_goto S D_T_step_208 ?_
                  exact j_jnF hj c_204
              exact j_jnT hj c_199
          exact j_jnT hj c_195
      obtain ⟨m_212, hm_212, h⟩ := ltE h
      refine j_put S D_T_step_212 fp_R3_25 sh_Tape rfl (isb_nf (isb_ite (isb_ite (isb_ite isb0 isb1) isb1) isb0)) ?_
      refine j_mem hm_212 ?_
      exact rtV hR h _ _ D_T_step_215
    · have h := ifT c_18 h
      refine j_aload_n S D_T_step_21 0 rfl rfl ?_
      obtain ⟨r_22, e_22, h⟩ := bpE h
      refine j_callVI (As := []) S D_T_step_22 mv_R3_48 (c_T_here (cxL X) E e_22) (by decide) sh_Tape rfl rfl rfl rfl (Nat.le_of_ble_eq_true rfl) ?_
      obtain ⟨r_25, e_25, h⟩ := bpE h
      refine j_callSI (As := [.int r_22]) S D_T_step_25 ms_R3_59 (c_T_isDigit (cxL X) E r_22 (mem := mem) e_25) (by decide) rfl rfl (Nat.le_of_ble_eq_true rfl) ?_
      refine j_dia (P := J X E 5 36 [(0, .ref (eb E + 2))] [.int (if r_25 = 0 then (0 : Int32) else 1)] SH mem) (fun hj => ?_) ?_
      · refine j_if_eq S D_T_step_28 (fun c_28 => ?_) (fun c_28 => ?_)
        · refine j_iconst S D_T_step_35 ci_0 ?_
          exact j_jnT hj c_28
        · refine j_iconst S D_T_step_31 ci_1 ?_
          refine j_goto S D_T_step_32 ?_
          exact j_jnF hj c_28
      obtain ⟨x_36, hx_36, h⟩ := ltE h
      refine j_nm hx_36 ?_
      refine j_istore_n S D_T_step_36 (lv := [(1, .int x_36), (0, .ref (eb E + 2))]) rfl ⟨rfl, (Nat.le_of_ble_eq_true rfl)⟩ ?_
      refine j_aload_n S D_T_step_37 1 rfl rfl ?_
      refine j_getI S D_T_step_38 fl_R3_22 sh_Tape rfl ?_
      obtain ⟨x_41, hx_41, h⟩ := ltE h
      refine j_nm hx_41 ?_
      refine j_istore_n S D_T_step_41 (lv := [(2, .int x_41), (1, .int x_36), (0, .ref (eb E + 2))]) rfl ⟨rfl, (Nat.le_of_ble_eq_true rfl)⟩ ?_
      refine j_aload_n S D_T_step_42 2 rfl rfl ?_
      refine j_aload_n S D_T_step_43 2 rfl rfl ?_
      refine j_getI S D_T_step_44 fl_R3_22 sh_Tape rfl ?_
      obtain ⟨m_47, hm_47, h⟩ := ltE h
      refine j_putI S D_T_step_47 fp_R3_19 sh_Tape rfl ?_
      refine j_mem hm_47 ?_
      refine j_locals [2, 1, 0] rfl ?_
      obtain ⟨m_50, e_50, h⟩ := bpE h
      refine L_T_step_50 S  N x_36 x_41 m_47 _ e_50 ?_
      refine j_aload_n S D_T_step_88 0 rfl rfl ?_
      obtain ⟨r_89, e_89, h⟩ := bpE h
      refine j_callVI (As := []) S D_T_step_89 mv_R3_48 (c_T_here (cxL X) E e_89) (by decide) sh_Tape rfl rfl rfl rfl (Nat.le_of_ble_eq_true rfl) ?_
      obtain ⟨r_92, e_92, h⟩ := bpE h
      refine j_callSI (As := [.int r_89]) S D_T_step_92 ms_R3_55 (c_T_isLetter (cxL X) E r_89 (mem := m_50) e_92) (by decide) rfl rfl (Nat.le_of_ble_eq_true rfl) ?_
      refine j_istore_n S D_T_step_95 (lv := [(3, .int r_92), (0, .ref (eb E + 2)), (1, .int x_36), (2, .int x_41)]) rfl ⟨rfl, (Nat.le_of_ble_eq_true rfl)⟩ ?_
      refine j_aload_n S D_T_step_96 1 rfl rfl ?_
      obtain ⟨r_97, e_97, h⟩ := bpE h
      refine j_callVI (As := []) S D_T_step_97 mv_R3_48 (c_T_here (cxL X) E e_97) (by decide) sh_Tape rfl rfl rfl rfl (Nat.le_of_ble_eq_true rfl) ?_
      obtain ⟨r_100, e_100, h⟩ := bpE h
      refine j_callSI (As := [.int r_97]) S D_T_step_100 ms_R3_59 (c_T_isDigit (cxL X) E r_97 (mem := m_50) e_100) (by decide) rfl rfl (Nat.le_of_ble_eq_true rfl) ?_
      refine j_istore S D_T_step_103 (lv := [(4, .int r_100), (3, .int r_92), (0, .ref (eb E + 2)), (1, .int x_36), (2, .int x_41)]) rfl (Nat.le_of_ble_eq_true rfl) ?_
      refine j_aload_n S D_T_step_105 2 rfl rfl ?_
      refine j_aload_n S D_T_step_106 2 rfl rfl ?_
      refine j_getI S D_T_step_107 fl_R3_9 sh_Tape rfl ?_
      refine j_aload_n S D_T_step_110 2 rfl rfl ?_
      refine j_getI S D_T_step_111 fl_R3_19 sh_Tape rfl ?_
      refine j_iconst S D_T_step_114 ci_1 ?_
      refine j_iadd S D_T_step_115 ?_
      refine j_mmin S D_T_step_116 (by decide) mm_R3_62 (Nat.le_of_ble_eq_true rfl) ?_
      obtain ⟨m_119, hm_119, h⟩ := ltE h
      refine j_putI S D_T_step_119 fp_R3_22 sh_Tape rfl ?_
      refine j_mem hm_119 ?_
      refine j_locals [2, 3, 4, 1, 0] rfl ?_
      obtain ⟨m_122, e_122, h⟩ := bpE h
      refine L_T_step_122 S  N x_36 x_41 r_92 r_100 m_119 _ e_122 ?_
      refine j_aload_n S D_T_step_185 0 rfl rfl ?_
      refine j_iload_n S D_T_step_186 1 rfl rfl ?_
      refine j_dia (P := J X E 5 212 [(0, .ref (eb E + 2)), (1, .int x_36), (2, .int x_41), (3, .int r_92), (4, .int r_100)] [.int (if x_36 = 0 then (0 : Int32) else if m_122 2 2 = x_41 then if r_92 = 0 then if r_100 = 0 then (0 : Int32) else 1 else 1 else 0), .ref (eb E + 2)] SH m_122) (fun hj => ?_) ?_
      · refine j_if_eq S D_T_step_187 (fun c_187 => ?_) (fun c_187 => ?_)
        · refine j_iconst S D_T_step_211 ci_0 ?_
          exact j_jnT hj c_187
        · refine j_aload_n S D_T_step_190 0 rfl rfl ?_
          refine j_getI S D_T_step_191 fl_R3_19 sh_Tape rfl ?_
          refine j_iload_n S D_T_step_194 2 rfl rfl ?_
          refine j_dia (P := J X E 5 212 [(0, .ref (eb E + 2)), (1, .int x_36), (2, .int x_41), (3, .int r_92), (4, .int r_100)] [.int (if m_122 2 2 = x_41 then if r_92 = 0 then if r_100 = 0 then (0 : Int32) else 1 else 1 else 0), .ref (eb E + 2)] SH m_122) (fun hj => ?_) ?_
          · refine j_icmp_ne S D_T_step_195 (fun c_195 => ?_) (fun c_195 => ?_)
            · refine j_iconst S D_T_step_211 ci_0 ?_
              exact j_jnF hj c_195
            · refine j_iload_n S D_T_step_198 3 rfl rfl ?_
              refine j_dia (P := J X E 5 212 [(0, .ref (eb E + 2)), (1, .int x_36), (2, .int x_41), (3, .int r_92), (4, .int r_100)] [.int (if r_92 = 0 then if r_100 = 0 then (0 : Int32) else 1 else 1), .ref (eb E + 2)] SH m_122) (fun hj => ?_) ?_
              · refine j_if_ne S D_T_step_199 (fun c_199 => ?_) (fun c_199 => ?_)
                · refine j_iconst S D_T_step_207 ci_1 ?_
                  refine j_goto S D_T_step_208 ?_
                  exact j_jnF hj c_199
                · refine j_iload S D_T_step_202 4 rfl ?_
                  refine j_dia (P := J X E 5 212 [(0, .ref (eb E + 2)), (1, .int x_36), (2, .int x_41), (3, .int r_92), (4, .int r_100)] [.int (if r_100 = 0 then (0 : Int32) else 1), .ref (eb E + 2)] SH m_122) (fun hj => ?_) ?_
                  · refine j_if_eq S D_T_step_204 (fun c_204 => ?_) (fun c_204 => ?_)
                    · refine j_iconst S D_T_step_211 ci_0 ?_
                      exact j_jnT hj c_204
                    · refine j_iconst S D_T_step_207 ci_1 ?_
                      refine j_goto S D_T_step_208 ?_
                      exact j_jnF hj c_204
                  exact j_jnT hj c_199
              exact j_jnT hj c_195
          exact j_jnF hj c_187
      obtain ⟨m_212, hm_212, h⟩ := ltE h
      refine j_put S D_T_step_212 fp_R3_25 sh_Tape rfl (isb_nf (isb_ite isb0 (isb_ite (isb_ite (isb_ite isb0 isb1) isb1) isb0))) ?_
      refine j_mem hm_212 ?_
      exact rtV hR h _ _ D_T_step_215

def y_T_joins : MethodName := ⟨"SandPicture$Tape", "joins", "(II)Z"⟩
theorem D_T_joins_0 : decode prog_6_method_14_code 0 = .ok (.iload_n 0, 1) ∧ 0 + 1 = 1 := by decide +kernel
theorem D_T_joins_1 : decode prog_6_method_14_code 1 = .ok (.tableswitch 97 0 3 #[31, 43, 55, 79], 31) := by decide +kernel
theorem D_T_joins_32 : decode prog_6_method_14_code 32 = .ok (.iload_n 1, 1) ∧ 32 + 1 = 33 := by decide +kernel
theorem D_T_joins_33 : decode prog_6_method_14_code 33 = .ok (.bipush 124, 2) ∧ 33 + 2 = 35 := by decide +kernel
theorem D_T_joins_42 : decode prog_6_method_14_code 42 = .ok (.iconst 0, 1) ∧ 42 + 1 = 43 := by decide +kernel
theorem D_T_joins_38 : decode prog_6_method_14_code 38 = .ok (.iconst 1, 1) ∧ 38 + 1 = 39 := by decide +kernel
theorem D_T_joins_39 : decode prog_6_method_14_code 39 = .ok (.goto 4, 3) ∧ ((39 : Nat) : Int) + 4 = ((43 : Nat) : Int) := by decide +kernel
theorem D_T_joins_35 : decode prog_6_method_14_code 35 = .ok (.if_icmp .ne 7, 3) ∧ ((35 : Nat) : Int) + 7 = ((42 : Nat) : Int) ∧ 35 + 3 = 38 := by decide +kernel
theorem D_T_joins_43 : decode prog_6_method_14_code 43 = .ok (.ireturn, 1) := by decide +kernel
theorem D_T_joins_44 : decode prog_6_method_14_code 44 = .ok (.iload_n 1, 1) ∧ 44 + 1 = 45 := by decide +kernel
theorem D_T_joins_45 : decode prog_6_method_14_code 45 = .ok (.bipush 38, 2) ∧ 45 + 2 = 47 := by decide +kernel
theorem D_T_joins_54 : decode prog_6_method_14_code 54 = .ok (.iconst 0, 1) ∧ 54 + 1 = 55 := by decide +kernel
theorem D_T_joins_50 : decode prog_6_method_14_code 50 = .ok (.iconst 1, 1) ∧ 50 + 1 = 51 := by decide +kernel
theorem D_T_joins_51 : decode prog_6_method_14_code 51 = .ok (.goto 4, 3) ∧ ((51 : Nat) : Int) + 4 = ((55 : Nat) : Int) := by decide +kernel
theorem D_T_joins_47 : decode prog_6_method_14_code 47 = .ok (.if_icmp .ne 7, 3) ∧ ((47 : Nat) : Int) + 7 = ((54 : Nat) : Int) ∧ 47 + 3 = 50 := by decide +kernel
theorem D_T_joins_55 : decode prog_6_method_14_code 55 = .ok (.ireturn, 1) := by decide +kernel
theorem D_T_joins_56 : decode prog_6_method_14_code 56 = .ok (.iload_n 1, 1) ∧ 56 + 1 = 57 := by decide +kernel
theorem D_T_joins_57 : decode prog_6_method_14_code 57 = .ok (.bipush 60, 2) ∧ 57 + 2 = 59 := by decide +kernel
theorem D_T_joins_74 : decode prog_6_method_14_code 74 = .ok (.iconst 1, 1) ∧ 74 + 1 = 75 := by decide +kernel
theorem D_T_joins_75 : decode prog_6_method_14_code 75 = .ok (.goto 4, 3) ∧ ((75 : Nat) : Int) + 4 = ((79 : Nat) : Int) := by decide +kernel
theorem D_T_joins_62 : decode prog_6_method_14_code 62 = .ok (.iload_n 1, 1) ∧ 62 + 1 = 63 := by decide +kernel
theorem D_T_joins_63 : decode prog_6_method_14_code 63 = .ok (.bipush 61, 2) ∧ 63 + 2 = 65 := by decide +kernel
theorem D_T_joins_68 : decode prog_6_method_14_code 68 = .ok (.iload_n 1, 1) ∧ 68 + 1 = 69 := by decide +kernel
theorem D_T_joins_69 : decode prog_6_method_14_code 69 = .ok (.bipush 62, 2) ∧ 69 + 2 = 71 := by decide +kernel
theorem D_T_joins_78 : decode prog_6_method_14_code 78 = .ok (.iconst 0, 1) ∧ 78 + 1 = 79 := by decide +kernel
theorem D_T_joins_71 : decode prog_6_method_14_code 71 = .ok (.if_icmp .ne 7, 3) ∧ ((71 : Nat) : Int) + 7 = ((78 : Nat) : Int) ∧ 71 + 3 = 74 := by decide +kernel
theorem D_T_joins_65 : decode prog_6_method_14_code 65 = .ok (.if_icmp .eq 9, 3) ∧ ((65 : Nat) : Int) + 9 = ((74 : Nat) : Int) ∧ 65 + 3 = 68 := by decide +kernel
theorem D_T_joins_59 : decode prog_6_method_14_code 59 = .ok (.if_icmp .eq 15, 3) ∧ ((59 : Nat) : Int) + 15 = ((74 : Nat) : Int) ∧ 59 + 3 = 62 := by decide +kernel
theorem D_T_joins_79 : decode prog_6_method_14_code 79 = .ok (.ireturn, 1) := by decide +kernel
theorem D_T_joins_80 : decode prog_6_method_14_code 80 = .ok (.iload_n 1, 1) ∧ 80 + 1 = 81 := by decide +kernel
theorem D_T_joins_81 : decode prog_6_method_14_code 81 = .ok (.bipush 43, 2) ∧ 81 + 2 = 83 := by decide +kernel
theorem D_T_joins_92 : decode prog_6_method_14_code 92 = .ok (.iconst 1, 1) ∧ 92 + 1 = 93 := by decide +kernel
theorem D_T_joins_93 : decode prog_6_method_14_code 93 = .ok (.goto 4, 3) ∧ ((93 : Nat) : Int) + 4 = ((97 : Nat) : Int) := by decide +kernel
theorem D_T_joins_86 : decode prog_6_method_14_code 86 = .ok (.iload_n 1, 1) ∧ 86 + 1 = 87 := by decide +kernel
theorem D_T_joins_87 : decode prog_6_method_14_code 87 = .ok (.bipush 45, 2) ∧ 87 + 2 = 89 := by decide +kernel
theorem D_T_joins_96 : decode prog_6_method_14_code 96 = .ok (.iconst 0, 1) ∧ 96 + 1 = 97 := by decide +kernel
theorem D_T_joins_89 : decode prog_6_method_14_code 89 = .ok (.if_icmp .ne 7, 3) ∧ ((89 : Nat) : Int) + 7 = ((96 : Nat) : Int) ∧ 89 + 3 = 92 := by decide +kernel
theorem D_T_joins_83 : decode prog_6_method_14_code 83 = .ok (.if_icmp .eq 9, 3) ∧ ((83 : Nat) : Int) + 9 = ((92 : Nat) : Int) ∧ 83 + 3 = 86 := by decide +kernel
theorem D_T_joins_97 : decode prog_6_method_14_code 97 = .ok (.ireturn, 1) := by decide +kernel
theorem D_T_joins_98 : decode prog_6_method_14_code 98 = .ok (.iload_n 1, 1) ∧ 98 + 1 = 99 := by decide +kernel
theorem D_T_joins_99 : decode prog_6_method_14_code 99 = .ok (.bipush 42, 2) ∧ 99 + 2 = 101 := by decide +kernel
theorem D_T_joins_110 : decode prog_6_method_14_code 110 = .ok (.iconst 1, 1) ∧ 110 + 1 = 111 := by decide +kernel
theorem D_T_joins_111 : decode prog_6_method_14_code 111 = .ok (.goto 4, 3) ∧ ((111 : Nat) : Int) + 4 = ((115 : Nat) : Int) := by decide +kernel
theorem D_T_joins_104 : decode prog_6_method_14_code 104 = .ok (.iload_n 1, 1) ∧ 104 + 1 = 105 := by decide +kernel
theorem D_T_joins_105 : decode prog_6_method_14_code 105 = .ok (.bipush 47, 2) ∧ 105 + 2 = 107 := by decide +kernel
theorem D_T_joins_114 : decode prog_6_method_14_code 114 = .ok (.iconst 0, 1) ∧ 114 + 1 = 115 := by decide +kernel
theorem D_T_joins_107 : decode prog_6_method_14_code 107 = .ok (.if_icmp .ne 7, 3) ∧ ((107 : Nat) : Int) + 7 = ((114 : Nat) : Int) ∧ 107 + 3 = 110 := by decide +kernel
theorem D_T_joins_101 : decode prog_6_method_14_code 101 = .ok (.if_icmp .eq 9, 3) ∧ ((101 : Nat) : Int) + 9 = ((110 : Nat) : Int) ∧ 101 + 3 = 104 := by decide +kernel
theorem D_T_joins_115 : decode prog_6_method_14_code 115 = .ok (.ireturn, 1) := by decide +kernel
theorem D_T_joins_1o : decode prog_6_method_14_code 1 = .ok (.tableswitch 97 0 3 #[31, 43, 55, 79], 31) ∧ ((1 : Nat) : Int) + 97 = ((98 : Nat) : Int) := by decide +kernel
def f_T_joins (a1 : Int32) (a2 : Int32) : Option (Int32) := if a1 = 0 then some (if a2 = 124 then (1 : Int32) else 0) else if a1 = 1 then some (if a2 = 38 then (1 : Int32) else 0) else if a1 = 2 then some (if a2 = 60 then (1 : Int32) else if a2 = 61 then (1 : Int32) else if a2 = 62 then (1 : Int32) else 0) else if a1 = 3 then some (if a2 = 43 then (1 : Int32) else if a2 = 45 then (1 : Int32) else 0) else some (if a2 = 42 then (1 : Int32) else if a2 = 47 then (1 : Int32) else 0)
theorem c_T_joins (l : Launch) (E : En) (a1 : Int32) (a2 : Int32) {mem : Mm} {r : Int32} (h : f_T_joins a1 a2 = some r) : CtI l E 0 y_T_joins prog_6_method_14_code 2 (some .boolean) [.int a1, .int a2] SH mem r mem := by
  refine mk_CtZ ⟨by decide, (Nat.le_of_ble_eq_true rfl)⟩ (fun X S hl hR => ?_)
  have S : Std X E prog_6_method_14_code R3 2 0 := S
  show J X E 2 0 [(0, .int a1), (1, .int a2)] [] SH mem
  unfold f_T_joins at h
  refine j_iload_n S D_T_joins_0 0 rfl rfl ?_
  by_cases c_1_0 : a1 = 0
  · have h := ifT c_1_0 h
    refine j_tabIn (tg := 32) (off := 31) S D_T_joins_1 0 c_1_0 (by decide +kernel) ?_
    refine j_iload_n S D_T_joins_32 1 rfl rfl ?_
    refine j_bipush S D_T_joins_33 cb_124 ?_
    refine j_dia (P := J X E 2 43 [(0, .int a1), (1, .int a2)] [.int (if a2 = 124 then (1 : Int32) else 0)] SH mem) (fun hj => ?_) ?_
    · refine j_icmp_ne S D_T_joins_35 (fun c_35 => ?_) (fun c_35 => ?_)
      · refine j_iconst S D_T_joins_42 ci_0 ?_
        exact j_jnF hj c_35
      · refine j_iconst S D_T_joins_38 ci_1 ?_
        refine j_goto S D_T_joins_39 ?_
        exact j_jnT hj c_35
    exact rtIZ hR h (isb_ite isb1 isb0) _ _ D_T_joins_43
  · have h := ifF c_1_0 h
    by_cases c_1_1 : a1 = 1
    · have h := ifT c_1_1 h
      refine j_tabIn (tg := 44) (off := 43) S D_T_joins_1 1 c_1_1 (by decide +kernel) ?_
      refine j_iload_n S D_T_joins_44 1 rfl rfl ?_
      refine j_bipush S D_T_joins_45 cb_38 ?_
      refine j_dia (P := J X E 2 55 [(0, .int a1), (1, .int a2)] [.int (if a2 = 38 then (1 : Int32) else 0)] SH mem) (fun hj => ?_) ?_
      · refine j_icmp_ne S D_T_joins_47 (fun c_47 => ?_) (fun c_47 => ?_)
        · refine j_iconst S D_T_joins_54 ci_0 ?_
          exact j_jnF hj c_47
        · refine j_iconst S D_T_joins_50 ci_1 ?_
          refine j_goto S D_T_joins_51 ?_
          exact j_jnT hj c_47
      exact rtIZ hR h (isb_ite isb1 isb0) _ _ D_T_joins_55
    · have h := ifF c_1_1 h
      by_cases c_1_2 : a1 = 2
      · have h := ifT c_1_2 h
        refine j_tabIn (tg := 56) (off := 55) S D_T_joins_1 2 c_1_2 (by decide +kernel) ?_
        refine j_iload_n S D_T_joins_56 1 rfl rfl ?_
        refine j_bipush S D_T_joins_57 cb_60 ?_
        refine j_dia (P := J X E 2 79 [(0, .int a1), (1, .int a2)] [.int (if a2 = 60 then (1 : Int32) else if a2 = 61 then (1 : Int32) else if a2 = 62 then (1 : Int32) else 0)] SH mem) (fun hj => ?_) ?_
        · refine j_icmp_eq S D_T_joins_59 (fun c_59 => ?_) (fun c_59 => ?_)
          · refine j_iconst S D_T_joins_74 ci_1 ?_
            refine j_goto S D_T_joins_75 ?_
            exact j_jnT hj c_59
          · refine j_iload_n S D_T_joins_62 1 rfl rfl ?_
            refine j_bipush S D_T_joins_63 cb_61 ?_
            refine j_dia (P := J X E 2 79 [(0, .int a1), (1, .int a2)] [.int (if a2 = 61 then (1 : Int32) else if a2 = 62 then (1 : Int32) else 0)] SH mem) (fun hj => ?_) ?_
            · refine j_icmp_eq S D_T_joins_65 (fun c_65 => ?_) (fun c_65 => ?_)
              · refine j_iconst S D_T_joins_74 ci_1 ?_
                refine j_goto S D_T_joins_75 ?_
                exact j_jnT hj c_65
              · refine j_iload_n S D_T_joins_68 1 rfl rfl ?_
                refine j_bipush S D_T_joins_69 cb_62 ?_
                refine j_dia (P := J X E 2 79 [(0, .int a1), (1, .int a2)] [.int (if a2 = 62 then (1 : Int32) else 0)] SH mem) (fun hj => ?_) ?_
                · refine j_icmp_ne S D_T_joins_71 (fun c_71 => ?_) (fun c_71 => ?_)
                  · refine j_iconst S D_T_joins_78 ci_0 ?_
                    exact j_jnF hj c_71
                  · refine j_iconst S D_T_joins_74 ci_1 ?_
                    refine j_goto S D_T_joins_75 ?_
                    exact j_jnT hj c_71
                exact j_jnF hj c_65
            exact j_jnF hj c_59
        exact rtIZ hR h (isb_ite isb1 (isb_ite isb1 (isb_ite isb1 isb0))) _ _ D_T_joins_79
      · have h := ifF c_1_2 h
        by_cases c_1_3 : a1 = 3
        · have h := ifT c_1_3 h
          refine j_tabIn (tg := 80) (off := 79) S D_T_joins_1 3 c_1_3 (by decide +kernel) ?_
          refine j_iload_n S D_T_joins_80 1 rfl rfl ?_
          refine j_bipush S D_T_joins_81 cb_43 ?_
          refine j_dia (P := J X E 2 97 [(0, .int a1), (1, .int a2)] [.int (if a2 = 43 then (1 : Int32) else if a2 = 45 then (1 : Int32) else 0)] SH mem) (fun hj => ?_) ?_
          · refine j_icmp_eq S D_T_joins_83 (fun c_83 => ?_) (fun c_83 => ?_)
            · refine j_iconst S D_T_joins_92 ci_1 ?_
              refine j_goto S D_T_joins_93 ?_
              exact j_jnT hj c_83
            · refine j_iload_n S D_T_joins_86 1 rfl rfl ?_
              refine j_bipush S D_T_joins_87 cb_45 ?_
              refine j_dia (P := J X E 2 97 [(0, .int a1), (1, .int a2)] [.int (if a2 = 45 then (1 : Int32) else 0)] SH mem) (fun hj => ?_) ?_
              · refine j_icmp_ne S D_T_joins_89 (fun c_89 => ?_) (fun c_89 => ?_)
                · refine j_iconst S D_T_joins_96 ci_0 ?_
                  exact j_jnF hj c_89
                · refine j_iconst S D_T_joins_92 ci_1 ?_
                  refine j_goto S D_T_joins_93 ?_
                  exact j_jnT hj c_89
              exact j_jnF hj c_83
          exact rtIZ hR h (isb_ite isb1 (isb_ite isb1 isb0)) _ _ D_T_joins_97
        · have h := ifF c_1_3 h
          refine j_tabOut S D_T_joins_1o (tout_0_3 c_1_0 c_1_1 c_1_2 c_1_3) ?_
          refine j_iload_n S D_T_joins_98 1 rfl rfl ?_
          refine j_bipush S D_T_joins_99 cb_42 ?_
          refine j_dia (P := J X E 2 115 [(0, .int a1), (1, .int a2)] [.int (if a2 = 42 then (1 : Int32) else if a2 = 47 then (1 : Int32) else 0)] SH mem) (fun hj => ?_) ?_
          · refine j_icmp_eq S D_T_joins_101 (fun c_101 => ?_) (fun c_101 => ?_)
            · refine j_iconst S D_T_joins_110 ci_1 ?_
              refine j_goto S D_T_joins_111 ?_
              exact j_jnT hj c_101
            · refine j_iload_n S D_T_joins_104 1 rfl rfl ?_
              refine j_bipush S D_T_joins_105 cb_47 ?_
              refine j_dia (P := J X E 2 115 [(0, .int a1), (1, .int a2)] [.int (if a2 = 47 then (1 : Int32) else 0)] SH mem) (fun hj => ?_) ?_
              · refine j_icmp_ne S D_T_joins_107 (fun c_107 => ?_) (fun c_107 => ?_)
                · refine j_iconst S D_T_joins_114 ci_0 ?_
                  exact j_jnF hj c_107
                · refine j_iconst S D_T_joins_110 ci_1 ?_
                  refine j_goto S D_T_joins_111 ?_
                  exact j_jnT hj c_107
              exact j_jnF hj c_101
          exact rtIZ hR h (isb_ite isb1 (isb_ite isb1 isb0)) _ _ D_T_joins_115

def y_T_readClosing : MethodName := ⟨"SandPicture$Tape", "readClosing", "()V"⟩
theorem D_T_readClosing_0 : decode prog_6_method_16_code 0 = .ok (.aload_n 0, 1) ∧ 0 + 1 = 1 := by decide +kernel
theorem D_T_readClosing_1 : decode prog_6_method_16_code 1 = .ok (.getfield 29, 3) ∧ 1 + 3 = 4 := by decide +kernel
theorem D_T_readClosing_4 : decode prog_6_method_16_code 4 = .ok (.iconst (-1), 1) ∧ 4 + 1 = 5 := by decide +kernel
theorem D_T_readClosing_5 : decode prog_6_method_16_code 5 = .ok (.if_icmp .eq 4, 3) ∧ ((5 : Nat) : Int) + 4 = ((9 : Nat) : Int) ∧ 5 + 3 = 8 := by decide +kernel
theorem D_T_readClosing_9 : decode prog_6_method_16_code 9 = .ok (.aload_n 0, 1) ∧ 9 + 1 = 10 := by decide +kernel
theorem D_T_readClosing_10 : decode prog_6_method_16_code 10 = .ok (.invokevirtual 48, 3) ∧ 10 + 3 = 13 := by decide +kernel
theorem D_T_readClosing_13 : decode prog_6_method_16_code 13 = .ok (.bipush 41, 2) ∧ 13 + 2 = 15 := by decide +kernel
theorem D_T_readClosing_15 : decode prog_6_method_16_code 15 = .ok (.if_icmp .ne 10, 3) ∧ ((15 : Nat) : Int) + 10 = ((25 : Nat) : Int) ∧ 15 + 3 = 18 := by decide +kernel
theorem D_T_readClosing_25 : decode prog_6_method_16_code 25 = .ok (.aload_n 0, 1) ∧ 25 + 1 = 26 := by decide +kernel
theorem D_T_readClosing_26 : decode prog_6_method_16_code 26 = .ok (.invokevirtual 52, 3) ∧ 26 + 3 = 29 := by decide +kernel
theorem D_T_readClosing_29 : decode prog_6_method_16_code 29 = .ok (.return_, 1) := by decide +kernel
theorem D_T_readClosing_18 : decode prog_6_method_16_code 18 = .ok (.aload_n 0, 1) ∧ 18 + 1 = 19 := by decide +kernel
theorem D_T_readClosing_19 : decode prog_6_method_16_code 19 = .ok (.invokevirtual 37, 3) ∧ 19 + 3 = 22 := by decide +kernel
theorem D_T_readClosing_22 : decode prog_6_method_16_code 22 = .ok (.goto 7, 3) ∧ ((22 : Nat) : Int) + 7 = ((29 : Nat) : Int) := by decide +kernel
theorem D_T_readClosing_8 : decode prog_6_method_16_code 8 = .ok (.return_, 1) := by decide +kernel
def f_T_readClosing (N : Nat)  (mem : Mm) : Option (Mm) := if mem 2 5 = (-1) then bp (f_T_here mem) fun r_10 => if r_10 = 41 then bp (f_T_step N mem) fun m_19 => some m_19 else bp (f_T_fail mem) fun m_26 => some m_26 else some mem
theorem c_T_readClosing (l : Launch) (E : En) (N : Nat)  {mem : Mm} {m2 : Mm} (h : f_T_readClosing N mem = some m2) : CtV l E 2 y_T_readClosing prog_6_method_16_code 1 [.ref (eb E + 2)] SH mem m2 := by
  refine mk_CtV ⟨by decide, (Nat.le_of_ble_eq_true rfl)⟩ (fun X S hl hR => ?_)
  have S : Std X E prog_6_method_16_code R3 1 2 := S
  show J X E 1 0 [(0, .ref (eb E + 2))] [] SH mem
  unfold f_T_readClosing at h
  refine j_aload_n S D_T_readClosing_0 0 rfl rfl ?_
  refine j_getI S D_T_readClosing_1 fl_R3_29 sh_Tape rfl ?_
  refine j_iconst S D_T_readClosing_4 ci_m1 ?_
  refine j_icmp_eq S D_T_readClosing_5 (fun c_5 => ?_) (fun c_5 => ?_)
  · have h := ifT c_5 h
    refine j_aload_n S D_T_readClosing_9 0 rfl rfl ?_
    obtain ⟨r_10, e_10, h⟩ := bpE h
    refine j_callVI (As := []) S D_T_readClosing_10 mv_R3_48 (c_T_here (cxL X) E e_10) (by decide) sh_Tape rfl rfl rfl rfl (Nat.le_of_ble_eq_true rfl) ?_
    refine j_bipush S D_T_readClosing_13 cb_41 ?_
    refine j_icmp_ne S D_T_readClosing_15 (fun c_15 => ?_) (fun c_15 => ?_)
    · have h := ifF c_15 h
      refine j_aload_n S D_T_readClosing_25 0 rfl rfl ?_
      obtain ⟨m_26, e_26, h⟩ := bpE h
      refine j_callVV (As := []) S D_T_readClosing_26 mv_R3_52 (c_T_fail (cxL X) E e_26) (by decide) sh_Tape rfl rfl rfl rfl (Nat.le_of_ble_eq_true rfl) ?_
      exact rtV hR h _ _ D_T_readClosing_29
    · have h := ifT c_15 h
      refine j_aload_n S D_T_readClosing_18 0 rfl rfl ?_
      obtain ⟨m_19, e_19, h⟩ := bpE h
      refine j_callVV (As := []) S D_T_readClosing_19 mv_R3_37 (c_T_step (cxL X) E N e_19) (by decide) sh_Tape rfl rfl rfl rfl (Nat.le_of_ble_eq_true rfl) ?_
      refine j_goto S D_T_readClosing_22 ?_
      exact rtV hR h _ _ D_T_readClosing_29
  · have h := ifF c_5 h
    exact rtV hR h _ _ D_T_readClosing_8

def y_T_readNumber : MethodName := ⟨"SandPicture$Tape", "readNumber", "(LSandPicture$Text;)V"⟩
theorem D_T_readNumber_0 : decode prog_6_method_18_code 0 = .ok (.aload_n 0, 1) ∧ 0 + 1 = 1 := by decide +kernel
theorem D_T_readNumber_1 : decode prog_6_method_18_code 1 = .ok (.getfield 25, 3) ∧ 1 + 3 = 4 := by decide +kernel
theorem D_T_readNumber_4 : decode prog_6_method_18_code 4 = .ok (.ifCond .ne 16, 3) ∧ ((4 : Nat) : Int) + 16 = ((20 : Nat) : Int) ∧ 4 + 3 = 7 := by decide +kernel
theorem D_T_readNumber_20 : decode prog_6_method_18_code 20 = .ok (.aload_n 0, 1) ∧ 20 + 1 = 21 := by decide +kernel
theorem D_T_readNumber_21 : decode prog_6_method_18_code 21 = .ok (.invokevirtual 52, 3) ∧ 21 + 3 = 24 := by decide +kernel
theorem D_T_readNumber_24 : decode prog_6_method_18_code 24 = .ok (.return_, 1) := by decide +kernel
theorem D_T_readNumber_7 : decode prog_6_method_18_code 7 = .ok (.aload_n 0, 1) ∧ 7 + 1 = 8 := by decide +kernel
theorem D_T_readNumber_8 : decode prog_6_method_18_code 8 = .ok (.getfield 22, 3) ∧ 8 + 3 = 11 := by decide +kernel
theorem D_T_readNumber_11 : decode prog_6_method_18_code 11 = .ok (.aload_n 0, 1) ∧ 11 + 1 = 12 := by decide +kernel
theorem D_T_readNumber_12 : decode prog_6_method_18_code 12 = .ok (.getfield 19, 3) ∧ 12 + 3 = 15 := by decide +kernel
theorem D_T_readNumber_15 : decode prog_6_method_18_code 15 = .ok (.isub, 1) ∧ 15 + 1 = 16 := by decide +kernel
theorem D_T_readNumber_16 : decode prog_6_method_18_code 16 = .ok (.iconst 4, 1) ∧ 16 + 1 = 17 := by decide +kernel
theorem D_T_readNumber_17 : decode prog_6_method_18_code 17 = .ok (.if_icmp .le 8, 3) ∧ ((17 : Nat) : Int) + 8 = ((25 : Nat) : Int) ∧ 17 + 3 = 20 := by decide +kernel
theorem D_T_readNumber_25 : decode prog_6_method_18_code 25 = .ok (.iconst 0, 1) ∧ 25 + 1 = 26 := by decide +kernel
theorem D_T_readNumber_26 : decode prog_6_method_18_code 26 = .ok (.istore_n 2, 1) ∧ 26 + 1 = 27 := by decide +kernel
theorem D_T_readNumber_27 : decode prog_6_method_18_code 27 = .ok (.aload_n 0, 1) ∧ 27 + 1 = 28 := by decide +kernel
theorem D_T_readNumber_28 : decode prog_6_method_18_code 28 = .ok (.getfield 19, 3) ∧ 28 + 3 = 31 := by decide +kernel
theorem D_T_readNumber_31 : decode prog_6_method_18_code 31 = .ok (.istore_n 3, 1) ∧ 31 + 1 = 32 := by decide +kernel
theorem D_T_readNumber_32 : decode prog_6_method_18_code 32 = .ok (.iload_n 3, 1) ∧ 32 + 1 = 33 := by decide +kernel
theorem D_T_readNumber_33 : decode prog_6_method_18_code 33 = .ok (.aload_n 0, 1) ∧ 33 + 1 = 34 := by decide +kernel
theorem D_T_readNumber_34 : decode prog_6_method_18_code 34 = .ok (.getfield 22, 3) ∧ 34 + 3 = 37 := by decide +kernel
theorem D_T_readNumber_37 : decode prog_6_method_18_code 37 = .ok (.if_icmp .ge 24, 3) ∧ ((37 : Nat) : Int) + 24 = ((61 : Nat) : Int) ∧ 37 + 3 = 40 := by decide +kernel
theorem D_T_readNumber_40 : decode prog_6_method_18_code 40 = .ok (.iload_n 2, 1) ∧ 40 + 1 = 41 := by decide +kernel
theorem D_T_readNumber_41 : decode prog_6_method_18_code 41 = .ok (.bipush 10, 2) ∧ 41 + 2 = 43 := by decide +kernel
theorem D_T_readNumber_43 : decode prog_6_method_18_code 43 = .ok (.imul, 1) ∧ 43 + 1 = 44 := by decide +kernel
theorem D_T_readNumber_44 : decode prog_6_method_18_code 44 = .ok (.aload_n 0, 1) ∧ 44 + 1 = 45 := by decide +kernel
theorem D_T_readNumber_45 : decode prog_6_method_18_code 45 = .ok (.getfield 15, 3) ∧ 45 + 3 = 48 := by decide +kernel
theorem D_T_readNumber_48 : decode prog_6_method_18_code 48 = .ok (.iload_n 3, 1) ∧ 48 + 1 = 49 := by decide +kernel
theorem D_T_readNumber_49 : decode prog_6_method_18_code 49 = .ok (.iaload, 1) ∧ 49 + 1 = 50 := by decide +kernel
theorem D_T_readNumber_50 : decode prog_6_method_18_code 50 = .ok (.iadd, 1) ∧ 50 + 1 = 51 := by decide +kernel
theorem D_T_readNumber_51 : decode prog_6_method_18_code 51 = .ok (.bipush 48, 2) ∧ 51 + 2 = 53 := by decide +kernel
theorem D_T_readNumber_53 : decode prog_6_method_18_code 53 = .ok (.isub, 1) ∧ 53 + 1 = 54 := by decide +kernel
theorem D_T_readNumber_54 : decode prog_6_method_18_code 54 = .ok (.istore_n 2, 1) ∧ 54 + 1 = 55 := by decide +kernel
theorem D_T_readNumber_55 : decode prog_6_method_18_code 55 = .ok (.iinc 3 1, 3) ∧ 55 + 3 = 58 := by decide +kernel
theorem D_T_readNumber_58 : decode prog_6_method_18_code 58 = .ok (.goto (-26), 3) ∧ ((58 : Nat) : Int) + (-26) = ((32 : Nat) : Int) := by decide +kernel
theorem D_T_readNumber_61 : decode prog_6_method_18_code 61 = .ok (.aload_n 1, 1) ∧ 61 + 1 = 62 := by decide +kernel
theorem D_T_readNumber_62 : decode prog_6_method_18_code 62 = .ok (.iload_n 2, 1) ∧ 62 + 1 = 63 := by decide +kernel
theorem D_T_readNumber_63 : decode prog_6_method_18_code 63 = .ok (.invokevirtual 131, 3) ∧ 63 + 3 = 66 := by decide +kernel
theorem D_T_readNumber_66 : decode prog_6_method_18_code 66 = .ok (.aload_n 0, 1) ∧ 66 + 1 = 67 := by decide +kernel
theorem D_T_readNumber_67 : decode prog_6_method_18_code 67 = .ok (.invokevirtual 37, 3) ∧ 67 + 3 = 70 := by decide +kernel
theorem D_T_readNumber_70 : decode prog_6_method_18_code 70 = .ok (.return_, 1) := by decide +kernel
def f_T_readNumber_L32 (o1 : Nat) : Nat → Int32 → Int32 → Mm → Option (Int32 × Int32)
  | 0, _, _, _ => none
  | n + 1, b2, b3, mem => if mem 2 3 ≤ b3 then some (b2, b3) else if inb b3 96 = true then lt (((b2 * 10) + (mem 3 (ix b3))) - 48) fun x_54 => f_T_readNumber_L32 o1 n x_54 (b3 + 1) mem else none
def f_T_readNumber (N : Nat) (o1 : Nat) (mem : Mm) : Option (Mm) := if mem 2 4 = 0 then if (mem 2 3) - (mem 2 2) ≤ 4 then lt (mem 2 2) fun x_31 => bp (f_T_readNumber_L32 o1 N 0 x_31 mem) fun y_32 => bp (f_X_addNumber o1 y_32.1 mem) fun m_63 => bp (f_T_step N m_63) fun m_67 => some m_67 else bp (f_T_fail mem) fun m_21 => some m_21 else bp (f_T_fail mem) fun m_21 => some m_21
theorem L_T_readNumber_32 {X : Cx} {E : En} (S : Std X E prog_6_method_18_code R3 4 2) (o1 : Nat) (ho1 : isTxt o1) {mem : Mm} : ∀ (n : Nat) (b2 : Int32) (b3 : Int32) (z : Int32 × Int32), f_T_readNumber_L32 o1 n b2 b3 mem = some z → J X E 4 61 [(0, .ref (eb E + 2)), (1, .ref (eb E + o1)), (2, .int z.1), (3, .int z.2)] [] SH mem → J X E 4 32 [(0, .ref (eb E + 2)), (1, .ref (eb E + o1)), (2, .int b2), (3, .int b3)] [] SH mem := by
  intro n
  induction n with
  | zero =>
    intro b2 b3 z h hk; cases h
  | succ n ih =>
    intro b2 b3 z h hk
    rw [f_T_readNumber_L32] at h
    refine j_iload_n S D_T_readNumber_32 3 rfl rfl ?_
    refine j_aload_n S D_T_readNumber_33 0 rfl rfl ?_
    refine j_getI S D_T_readNumber_34 fl_R3_22 sh_Tape rfl ?_
    refine j_icmp_ge S D_T_readNumber_37 (fun c_37 => ?_) (fun c_37 => ?_)
    · have h := ifT c_37 h
      cases h
      exact j_locals [0, 1, 2, 3] rfl hk
    · have h := ifF c_37 h
      refine j_iload_n S D_T_readNumber_40 2 rfl rfl ?_
      refine j_bipush S D_T_readNumber_41 cb_10 ?_
      refine j_imul S D_T_readNumber_43 ?_
      refine j_aload_n S D_T_readNumber_44 0 rfl rfl ?_
      refine j_getR S D_T_readNumber_45 fl_R3_15 sh_Tape rfl ?_
      refine j_iload_n S D_T_readNumber_48 3 rfl rfl ?_
      obtain ⟨g_49, h⟩ := gdE h
      refine j_iald S D_T_readNumber_49 sh_3 g_49 ?_
      refine j_iadd S D_T_readNumber_50 ?_
      refine j_bipush S D_T_readNumber_51 cb_48 ?_
      refine j_isub S D_T_readNumber_53 ?_
      obtain ⟨x_54, hx_54, h⟩ := ltE h
      refine j_nm hx_54 ?_
      refine j_istore_n S D_T_readNumber_54 (lv := [(2, .int x_54), (0, .ref (eb E + 2)), (1, .ref (eb E + o1)), (3, .int b3)]) rfl ⟨rfl, (Nat.le_of_ble_eq_true rfl)⟩ ?_
      refine j_iinc S D_T_readNumber_55 3 rfl (congrArg (fun z => b3 + z) ci_1) (lv := [(3, .int (b3 + 1)), (2, .int x_54), (0, .ref (eb E + 2)), (1, .ref (eb E + o1))]) rfl (Nat.le_of_ble_eq_true rfl) ?_
      refine j_goto S D_T_readNumber_58 ?_
      refine j_locals [2, 3, 1, 0] rfl (ih x_54 (b3 + 1) _ h hk)
theorem c_T_readNumber (l : Launch) (E : En) (N : Nat) (o1 : Nat) (ho1 : isTxt o1) {mem : Mm} {m2 : Mm} (h : f_T_readNumber N o1 mem = some m2) : CtV l E 2 y_T_readNumber prog_6_method_18_code 4 [.ref (eb E + 2), .ref (eb E + o1)] SH mem m2 := by
  refine mk_CtV ⟨by decide, (Nat.le_of_ble_eq_true rfl)⟩ (fun X S hl hR => ?_)
  have S : Std X E prog_6_method_18_code R3 4 2 := S
  show J X E 4 0 [(0, .ref (eb E + 2)), (1, .ref (eb E + o1))] [] SH mem
  unfold f_T_readNumber at h
  refine j_aload_n S D_T_readNumber_0 0 rfl rfl ?_
  refine j_getI S D_T_readNumber_1 fl_R3_25 sh_Tape rfl ?_
  refine j_if_ne S D_T_readNumber_4 (fun c_4 => ?_) (fun c_4 => ?_)
  · have h := ifF c_4 h
    refine j_aload_n S D_T_readNumber_20 0 rfl rfl ?_
    obtain ⟨m_21, e_21, h⟩ := bpE h
    refine j_callVV (As := []) S D_T_readNumber_21 mv_R3_52 (c_T_fail (cxL X) E e_21) (by decide) sh_Tape rfl rfl rfl rfl (Nat.le_of_ble_eq_true rfl) ?_
    exact rtV hR h _ _ D_T_readNumber_24
  · have h := ifT c_4 h
    refine j_aload_n S D_T_readNumber_7 0 rfl rfl ?_
    refine j_getI S D_T_readNumber_8 fl_R3_22 sh_Tape rfl ?_
    refine j_aload_n S D_T_readNumber_11 0 rfl rfl ?_
    refine j_getI S D_T_readNumber_12 fl_R3_19 sh_Tape rfl ?_
    refine j_isub S D_T_readNumber_15 ?_
    refine j_iconst S D_T_readNumber_16 ci_4 ?_
    refine j_icmp_le S D_T_readNumber_17 (fun c_17 => ?_) (fun c_17 => ?_)
    · have h := ifT c_17 h
      refine j_iconst S D_T_readNumber_25 ci_0 ?_
      refine j_istore_n S D_T_readNumber_26 (lv := [(2, .int 0), (0, .ref (eb E + 2)), (1, .ref (eb E + o1))]) rfl ⟨rfl, (Nat.le_of_ble_eq_true rfl)⟩ ?_
      refine j_aload_n S D_T_readNumber_27 1 rfl rfl ?_
      refine j_getI S D_T_readNumber_28 fl_R3_19 sh_Tape rfl ?_
      obtain ⟨x_31, hx_31, h⟩ := ltE h
      refine j_nm hx_31 ?_
      refine j_istore_n S D_T_readNumber_31 (lv := [(3, .int x_31), (2, .int 0), (0, .ref (eb E + 2)), (1, .ref (eb E + o1))]) rfl ⟨rfl, (Nat.le_of_ble_eq_true rfl)⟩ ?_
      refine j_locals [2, 3, 1, 0] rfl ?_
      obtain ⟨y_32, e_32, h⟩ := bpE h
      refine L_T_readNumber_32 S o1 ho1 N 0 x_31 _ e_32 ?_
      refine j_aload_n S D_T_readNumber_61 1 rfl rfl ?_
      refine j_iload_n S D_T_readNumber_62 2 rfl rfl ?_
      obtain ⟨m_63, e_63, h⟩ := bpE h
      refine j_callVV (As := [.int y_32.1]) S D_T_readNumber_63 mv_R3_131 (c_X_addNumber (cxL X) E o1 ho1 y_32.1 e_63) (by decide) (sh_txt ho1) rfl rfl rfl rfl (Nat.le_of_ble_eq_true rfl) ?_
      refine j_aload_n S D_T_readNumber_66 0 rfl rfl ?_
      obtain ⟨m_67, e_67, h⟩ := bpE h
      refine j_callVV (As := []) S D_T_readNumber_67 mv_R3_37 (c_T_step (cxL X) E N e_67) (by decide) sh_Tape rfl rfl rfl rfl (Nat.le_of_ble_eq_true rfl) ?_
      exact rtV hR h _ _ D_T_readNumber_70
    · have h := ifF c_17 h
      refine j_aload_n S D_T_readNumber_20 0 rfl rfl ?_
      obtain ⟨m_21, e_21, h⟩ := bpE h
      refine j_callVV (As := []) S D_T_readNumber_21 mv_R3_52 (c_T_fail (cxL X) E e_21) (by decide) sh_Tape rfl rfl rfl rfl (Nat.le_of_ble_eq_true rfl) ?_
      exact rtV hR h _ _ D_T_readNumber_24
end
section
/-! rows of the six String constants, and of methods that answer a small int or a String -/
def RJS : String := "java/lang/String"
def RJL : String := "java/lang/StringLatin1"
def RJP : String := "jdk/internal/util/Preconditions"
abbrev ev (E : En) (i : Nat) : Nat := E.2.2.2.2 i
def sN (i : Nat) : Nat := kS.getD i 0
def sB (i j : Nat) : Int32 := (kB.getD i []).getD j 0
def isc (v : Int32) : Bool := decide ((v.toUInt32 % 65536).toInt32 = v)
theorem isc_n {v : Int32} (h : isc v = true) : narrow .char (.int v) = .int v := by
  unfold isc at h
  have e := of_decide_eq_true h
  have k := pk_nc v
  rw [e] at k
  exact k
section JS
variable {X : Cx} {E : En} {cc : ByteArray} {own : String} {nL d pc np : Nat} {ls : List (Nat × Value)} {st st0 : List Value} {sh : List Sh} {mem m2 : Mm} {x r t : Int32}
theorem j_gets1 (S : Std X E cc own nL d) {idx : Nat} (hd : decode cc pc = .ok (.getstatic idx, 3) ∧ pc + 3 = np) (hw : Cond.fieldLink own idx "java/lang/String" "COMPACT_STRINGS" "Z" ∈ TB) (kk : J X E nL np ls (.int 1 :: st) sh mem) : J X E nL pc ls st sh mem := by
  obtain ⟨hd, rfl⟩ := hd
  exact fun H locs arr hP hS hl => va_gets S.1 S.2.1 S.2.2.2.2.2.2.1.2.2.1 hS S.2.2.2.1 (S.2.2.2.2.1 _ hw) (fun _ h => h) hd (kk H locs arr hP hS hl)
theorem j_getsQ (S : Std X E cc own nL d) {idx : Nat} (hd : decode cc pc = .ok (.getstatic idx, 3) ∧ pc + 3 = np) (hw : Cond.fieldLink own idx "jdk/internal/util/Preconditions" "SIOOBE_FORMATTER" "Ljava/util/function/BiFunction;" ∈ TB) (kk : ∀ w : Value, w.category = 1 → J X E nL np ls (w :: st) sh mem) : J X E nL pc ls st sh mem := by
  obtain ⟨hd, rfl⟩ := hd
  refine fun H locs arr hP hS hl => ?_
  rcases S.2.2.2.2.2.2.1.2.2.2 with hZ | ⟨a, hZ⟩
  · exact va_gets S.1 S.2.1 hZ hS S.2.2.2.1 (S.2.2.2.2.1 _ hw) (fun _ h => h) hd (kk _ rfl H locs arr hP hS hl)
  · exact va_gets S.1 S.2.1 hZ hS S.2.2.2.1 (S.2.2.2.2.1 _ hw) (fun _ h => h) hd (kk _ rfl H locs arr hP hS hl)
theorem j_strV (S : Std X E cc own nL d) {idx i : Nat} (hd : decode cc pc = .ok (.getfield idx, 3) ∧ pc + 3 = np) (hw : Cond.fieldLink own idx "java/lang/String" "value" "[B" ∈ TB) (hi : i < 6) (kk : J X E nL np ls (.ref (ev E i) :: st) sh mem) : J X E nL pc ls (.ref (ek E i) :: st) sh mem := by
  obtain ⟨hd, rfl⟩ := hd
  exact fun H locs arr hP hS hl => vk_getf S.1 S.2.1 (S.2.2.2.2.2.2.1.1.1 i hi).2.2.1 hS S.2.2.2.1 (S.2.2.2.2.1 _ hw) (fun _ h => h) hd (kk H locs arr hP hS hl)
theorem j_strC (S : Std X E cc own nL d) {idx i : Nat} (hd : decode cc pc = .ok (.getfield idx, 3) ∧ pc + 3 = np) (hw : Cond.fieldLink own idx "java/lang/String" "coder" "B" ∈ TB) (hi : i < 6) (kk : J X E nL np ls (.int 0 :: st) sh mem) : J X E nL pc ls (.ref (ek E i) :: st) sh mem := by
  obtain ⟨hd, rfl⟩ := hd
  exact fun H locs arr hP hS hl => vk_getf S.1 S.2.1 (S.2.2.2.2.2.2.1.1.1 i hi).2.1 hS S.2.2.2.1 (S.2.2.2.2.1 _ hw) (fun _ h => h) hd (kk H locs arr hP hS hl)
theorem j_slen (S : Std X E cc own nL d) {i : Nat} (hd : decode cc pc = .ok (.arraylength, 1) ∧ pc + 1 = np) (hi : i < 6) (kk : J X E nL np ls (.int (Int32.ofNat (sN i)) :: st) sh mem) : J X E nL pc ls (.ref (ev E i) :: st) sh mem := by
  obtain ⟨hd, rfl⟩ := hd
  exact fun H locs arr hP hS hl => va_tlen S.1 S.2.1 (S.2.2.2.2.2.2.1.1.1 i hi).2.2.2 hS rfl hd (kk H locs arr hP hS hl)
theorem j_sbald (S : Std X E cc own nL d) {i : Nat} (hd : decode cc pc = .ok (.baload, 1) ∧ pc + 1 = np) (hi : i < 6) (hx : inb x (sN i) = true) (kk : J X E nL np ls (.int (sB i (ix x)) :: st) sh mem) : J X E nL pc ls (.int x :: .ref (ev E i) :: st) sh mem := by
  obtain ⟨hd, rfl⟩ := hd
  exact fun H locs arr hP hS hl => va_tb S.1 S.2.1 (S.2.2.2.2.2.2.1.1.1 i hi).2.2.2 hS (inb_vp hx) rfl hd (kk H locs arr hP hS hl)
theorem j_i2b (S : Std X E cc own nL d) (hd : decode cc pc = .ok (.i2b, 1) ∧ pc + 1 = np) (k : J X E nL np ls (.int x.toInt8.toInt32 :: st) sh mem) : J X E nL pc ls (.int x :: st) sh mem := by
  obtain ⟨hd, rfl⟩ := hd; exact fun H locs arr hP hS hl => lv_i2b S.1 S.2.1 hd rfl (k H locs arr hP hS hl)
theorem j_ldcS (S : Std X E cc R3 nL d) {idx i : Nat} {tx : String} (hd : decode cc pc = .ok (.ldc idx, 2) ∧ pc + 2 = np) (hz : vk_R R3 idx tx (ek E i) (cxS X)) (k : J X E nL np ls (.ref (ek E i) :: st) sh mem) : J X E nL pc ls st sh mem := by
  obtain ⟨hd, rfl⟩ := hd; exact fun H locs arr hP hS hl => va_ldcS S.1 S.2.1 S.2.2.2.1 hz hd (k H locs arr hP hS hl)
variable {idx k n d2 nL2 i : Nat} {y : MethodName} {c2 : ByteArray} {ret : Option FieldType} {As : List Value}
theorem j_callTI (S : Std X E cc own nL d) (hd : decode cc pc = .ok (.invokevirtual idx, 3) ∧ pc + 3 = np) (hm : MV own idx y c2 nL2 ret n) (hM : CtI (cxL X) E d2 y c2 nL2 ret (.ref (ek E i) :: As) sh mem r m2) (hdd : d2 < d) (hi : i < 6) (hq : y.cls = "java/lang/String") (hst : st0 = As.reverse ++ .ref (ek E i) :: st) (hn : As.length = n) (hcat : (st.map fun v => v.category).sum ≤ 8) (kk : J X E nL np ls (.int r :: st) sh m2) : J X E nL pc ls st0 sh mem := by
  obtain ⟨hd, rfl⟩ := hd
  have hR := S.2.2.2.2.2.2.2
  exact fun H locs arr hP hS hl => va_calli (va_runV (As := As) (rest := st) ⟨S.1, S.2.1, S.2.2.1, S.2.2.2.1, S.2.2.2.2.1⟩ hM (cbV S hm hdd) ⟨blindC, by rw [hq]; exact vk_recv S.2.2.2.2.2.2.1.1 hi hS, fun U hU hW => ⟨rfl, by rw [hU]; exact hP, va_K.moved hW.alike S.2.2.2.2.2.1, Ks.warm S.2.2.2.2.2.2.1 hW (by rw [hU]; exact hS.2.1)⟩⟩ rfl hn hl.1 hst (lv_room hcat) hd ⟨hR.2.2.1, hR.2.2.2⟩) hS (fun _ _ h => h) (fun _ h => h) (fun r1 u t H1 locs1 ht hvm hw hB hz hk1 hS1 => by
    cases hw
    exact kk H1 locs1 arr (ht ▸ hB) hS1 hl)
/-- a method that answers the String constant i -/
def CtR (l : Launch) (E : En) (d : Nat) (y : MethodName) (cc : ByteArray) (nL : Nat) (ret : Option FieldType) (av : List Value) (sh : List Sh) (mem : Mm) (i : Nat) : Prop :=
  Met l y (Cond.code y cc nL ret :: TB) (rmd d) (va_Pc av (PreC E sh mem)) (va_Qr (fun (_ : Unit) => True) (fun _ a t => a = ek E i ∧ PosC E sh mem t) (Ab E)) 0 0 (Ab E)
theorem j_callSR (S : Std X E cc own nL d) (hd : decode cc pc = .ok (.invokestatic idx, 3) ∧ pc + 3 = np) (hm : MS own idx y c2 nL2 ret n) (hM : CtR (cxL X) E d2 y c2 nL2 ret As sh mem i) (hdd : d2 < d) (hst : st0 = As.reverse ++ st) (hn : As.length = n) (hcat : (st.map fun v => v.category).sum ≤ 8) (kk : J X E nL np ls (.ref (ek E i) :: st) sh mem) : J X E nL pc ls st0 sh mem := by
  obtain ⟨hd, rfl⟩ := hd
  have hR := S.2.2.2.2.2.2.2
  exact fun H locs arr hP hS hl => va_callr (va_runS (As := As) (rest := st) ⟨S.1, S.2.1, S.2.2.1, S.2.2.2.1, S.2.2.2.2.1⟩ hM (cbS S hm hdd) (preS S hP hS) rfl hn hl.1 hst (lv_room hcat) hd ⟨hR.2.2.1, hR.2.2.2⟩) hS (fun _ _ h => h) (fun _ h => h) (fun u ra t H1 locs1 ht hvm hw hB hz hk1 hS1 => by
    obtain ⟨rfl, hB⟩ := hB
    exact kk H1 locs1 arr (ht ▸ hB) hS1 hl)
def RetR (X : Cx) (E : En) (cc : ByteArray) (nL : Nat) (sh : List Sh) (i : Nat) (mem : Mm) : Prop := ∀ (pc : Nat) (ls : List (Nat × Value)), decode cc pc = .ok (.areturn, 1) → J X E nL pc ls [.ref (ek E i)] sh mem
variable {l : Launch} {av : List Value} {ty : FieldType}
theorem mk_CtR (hy : plainName y.cls = true ∧ (lg_sl av).length ≤ nL) (h : ∀ X : Cx, Std X E cc y.cls nL d → cxL X = l → RetR X E cc nL sh i mem → J X E nL 0 (lv_args 0 av) [] sh mem) : CtR l E d y cc nL (some (.object "java/lang/String")) av sh mem i := by
  refine Met.ofW (cc := cc) (maxL := nL) (ret := some (.object "java/lang/String")) hy.1 rfl ?_
  intro p e s m args below meth c s₁ B hml hv
  obtain ⟨rfl, hP, hK, hKs⟩ := hv
  have hx := B.exec
  have hb := B.bytes
  have hr := B.returns
  have hts := atoms_spec (ws := Cond.code y cc nL (some (.object "java/lang/String")) :: TB) B.pre
  have hown : s.vm.findClass y.cls = some m.cls := findClass_of_methodNamed B.named
  have hlocks := B.notSynchronized
  rw [lg_entry_eq]
  refine h (p, l, e, rmd d, s, m, av.toArray, below, meth, c, (0, 0), MQ below (va_Qr (fun (_ : Unit) => True) (fun _ a t => a = ek E i ∧ PosC E sh mem t) (Ab E)) av.toArray s 0 0 (Ab E)) ⟨hx, hb, hml, hown, fun w hw => hts w (List.mem_cons_of_mem _ hw), hK, hKs, Nat.le_refl _, Nat.le_refl _, Nat.le_refl _, Nat.le_refl _⟩ rfl ?_ s.heap [] _ hP va_S.rf (lv_entry av hy.2)
  intro pc ls hd H locs arr hP hS hl
  exact W.aret (v := .ref (ek E i)) hx hb hr (Or.inl ⟨_, rfl⟩) (Or.inr ⟨_, rfl⟩) (fun t ht hW => ⟨⟨(), _, rfl, trivial, rfl, by show va_P _ _ _ t.heap; rw [ht]; exact hP⟩, hS.F ht⟩) hS.2.2 hd
theorem mk_CtY (hy : plainName y.cls = true ∧ (lg_sl av).length ≤ nL) (h : ∀ X : Cx, Std X E cc y.cls nL d → cxL X = l → (narrow ty (.int r) = .int r → RetI X E cc nL sh r m2) → J X E nL 0 (lv_args 0 av) [] sh mem) : CtI l E d y cc nL (some ty) av sh mem r m2 := by
  refine Met.ofW (cc := cc) (maxL := nL) (ret := some ty) hy.1 rfl ?_
  intro p e s m args below meth c s₁ B hml hv
  obtain ⟨rfl, hP, hK, hKs⟩ := hv
  have hx := B.exec
  have hb := B.bytes
  have hr := B.returns
  have hts := atoms_spec (ws := Cond.code y cc nL (some ty) :: TB) B.pre
  have hown : s.vm.findClass y.cls = some m.cls := findClass_of_methodNamed B.named
  have hlocks := B.notSynchronized
  rw [lg_entry_eq]
  refine h (p, l, e, rmd d, s, m, av.toArray, below, meth, c, (0, 0), MQ below (va_Qi (fun (v : Int32) (_ : Unit) => v = r) (fun _ t => PosC E sh m2 t) (Ab E)) av.toArray s 0 0 (Ab E)) ⟨hx, hb, hml, hown, fun w hw => hts w (List.mem_cons_of_mem _ hw), hK, hKs, Nat.le_refl _, Nat.le_refl _, Nat.le_refl _, Nat.le_refl _⟩ rfl ?_ s.heap [] _ hP va_S.rf (lv_entry av hy.2)
  intro hz pc ls hd H locs arr hP hS hl
  exact W.zret (v := r) (ty := ty) hx hb hr hz (fun t ht hW => ⟨⟨r, (), rfl, rfl, by show va_P _ _ _ t.heap; rw [ht]; exact hP⟩, hS.F ht⟩) hS.2.2 hd
theorem rtIY (hR : narrow ty (.int r) = .int r → RetI X E cc nL sh r mem) (h : some t = some r) (hb : narrow ty (.int t) = .int t) : RetI X E cc nL sh t mem := by cases h; exact hR hb
theorem rtR {i j : Nat} (hR : RetR X E cc nL sh i mem) (h : some j = some i) : RetR X E cc nL sh j mem := by cases h; exact hR
theorem lenW {a b : Int32} {w : Value} (hw : w.category = 1) : (lg_sl [.int a, .int b, w]).length ≤ 3 := by simp [lg_sl, hw, show (Value.int a).category = 1 from rfl, show (Value.int b).category = 1 from rfl]
end JS
end
section

theorem mv_R3_91 : MV R3 91 ⟨"java/lang/String", "length", "()I"⟩ prog_12_method_54_code 1 (some .int) 0 := ⟨⟨tb_t 524 (by decide +kernel), tb_t 525 (by decide +kernel), tb_t 526 (by decide +kernel), tb_t 11 (by decide +kernel), tb_t 527 (by decide +kernel)⟩, ⟨by decide, by decide, by decide +kernel⟩, by decide⟩
theorem mv_R3_96 : MV R3 96 ⟨"java/lang/String", "charAt", "(I)C"⟩ prog_12_method_56_code 2 (some .char) 1 := ⟨⟨tb_t 534 (by decide +kernel), tb_t 535 (by decide +kernel), tb_t 536 (by decide +kernel), tb_t 11 (by decide +kernel), tb_t 537 (by decide +kernel)⟩, ⟨by decide, by decide, by decide +kernel⟩, by decide⟩
theorem mv_R3_124 : MV R3 124 ⟨"java/lang/String", "indexOf", "(I)I"⟩ prog_12_method_79_code 2 (some .int) 1 := ⟨⟨tb_t 594 (by decide +kernel), tb_t 595 (by decide +kernel), tb_t 596 (by decide +kernel), tb_t 11 (by decide +kernel), tb_t 597 (by decide +kernel)⟩, ⟨by decide, by decide, by decide +kernel⟩, by decide⟩
theorem mv_RJS_335 : MV RJS 335 ⟨"java/lang/String", "coder", "()B"⟩ prog_12_method_152_code 1 (some .byte) 0 := ⟨⟨tb_t 528 (by decide +kernel), tb_t 529 (by decide +kernel), tb_t 530 (by decide +kernel), tb_t 11 (by decide +kernel), tb_t 531 (by decide +kernel)⟩, ⟨by decide, by decide, by decide +kernel⟩, by decide⟩
theorem mv_RJS_492 : MV RJS 492 ⟨"java/lang/String", "isLatin1", "()Z"⟩ prog_12_method_154_code 1 (some .boolean) 0 := ⟨⟨tb_t 538 (by decide +kernel), tb_t 539 (by decide +kernel), tb_t 540 (by decide +kernel), tb_t 11 (by decide +kernel), tb_t 541 (by decide +kernel)⟩, ⟨by decide, by decide, by decide +kernel⟩, by decide⟩
theorem ms_RJS_495 : MS RJS 495 ⟨"java/lang/StringLatin1", "charAt", "([BI)C"⟩ prog_13_method_2_code 2 (some .char) 2 := ⟨⟨tb_t 542 (by decide +kernel), tb_t 543 (by decide +kernel), tb_t 12 (by decide +kernel), tb_t 544 (by decide +kernel)⟩, ⟨by decide, by decide, by decide +kernel⟩, by decide⟩
theorem mv_RJS_505 : MV RJS 505 ⟨"java/lang/String", "length", "()I"⟩ prog_12_method_54_code 1 (some .int) 0 := ⟨⟨tb_t 602 (by decide +kernel), tb_t 525 (by decide +kernel), tb_t 526 (by decide +kernel), tb_t 11 (by decide +kernel), tb_t 527 (by decide +kernel)⟩, ⟨by decide, by decide, by decide +kernel⟩, by decide⟩
theorem mv_RJS_633 : MV RJS 633 ⟨"java/lang/String", "indexOf", "(II)I"⟩ prog_12_method_80_code 3 (some .int) 2 := ⟨⟨tb_t 598 (by decide +kernel), tb_t 599 (by decide +kernel), tb_t 600 (by decide +kernel), tb_t 11 (by decide +kernel), tb_t 601 (by decide +kernel)⟩, ⟨by decide, by decide, by decide +kernel⟩, by decide⟩
theorem ms_RJS_637 : MS RJS 637 ⟨"java/lang/StringLatin1", "indexOf", "([BIII)I"⟩ prog_13_method_22_code 4 (some .int) 4 := ⟨⟨tb_t 603 (by decide +kernel), tb_t 604 (by decide +kernel), tb_t 12 (by decide +kernel), tb_t 605 (by decide +kernel)⟩, ⟨by decide, by decide, by decide +kernel⟩, by decide⟩
theorem ms_RJS_1059 : MS RJS 1059 ⟨"jdk/internal/util/Preconditions", "checkIndex", "(IILjava/util/function/BiFunction;)I"⟩ prog_16_method_11_code 3 (some .int) 3 := ⟨⟨tb_t 550 (by decide +kernel), tb_t 551 (by decide +kernel), tb_t 13 (by decide +kernel), tb_t 552 (by decide +kernel)⟩, ⟨by decide, by decide, by decide +kernel⟩, by decide⟩
theorem ms_RJS_1062 : MS RJS 1062 ⟨"jdk/internal/util/Preconditions", "checkFromToIndex", "(IIILjava/util/function/BiFunction;)I"⟩ prog_16_method_12_code 4 (some .int) 4 := ⟨⟨tb_t 629 (by decide +kernel), tb_t 630 (by decide +kernel), tb_t 13 (by decide +kernel), tb_t 631 (by decide +kernel)⟩, ⟨by decide, by decide, by decide +kernel⟩, by decide⟩
theorem ms_RJL_9 : MS RJL 9 ⟨"java/lang/String", "checkIndex", "(II)V"⟩ prog_12_method_155_code 2 none 2 := ⟨⟨tb_t 545 (by decide +kernel), tb_t 546 (by decide +kernel), tb_t 11 (by decide +kernel), tb_t 547 (by decide +kernel)⟩, ⟨by decide, by decide, by decide +kernel⟩, by decide⟩
theorem mm_RJL_38 : Cond.methodLink RJL 38 Lib.Math.min.name ∈ TB ∧ Cond.static Lib.Math.min.name ∈ TB ∧ Cond.initialized "java/lang/Math" ∈ TB ∧ Cond.code Lib.Math.min.name Lib.Math.min.code 2 (some .int) ∈ TB := ⟨tb_t 610 (by decide +kernel), tb_t 291 (by decide +kernel), tb_t 9 (by decide +kernel), tb_t 292 (by decide +kernel)⟩
theorem ms_RJL_88 : MS RJL 88 ⟨"java/lang/StringLatin1", "canEncode", "(I)Z"⟩ prog_13_method_4_code 1 (some .boolean) 1 := ⟨⟨tb_t 606 (by decide +kernel), tb_t 607 (by decide +kernel), tb_t 12 (by decide +kernel), tb_t 608 (by decide +kernel)⟩, ⟨by decide, by decide, by decide +kernel⟩, by decide⟩
theorem mm_RJL_92 : Cond.methodLink RJL 92 Lib.Math.max.name ∈ TB ∧ Cond.static Lib.Math.max.name ∈ TB ∧ Cond.initialized "java/lang/Math" ∈ TB ∧ Cond.code Lib.Math.max.name Lib.Math.max.code 2 (some .int) ∈ TB := ⟨tb_t 609 (by decide +kernel), tb_t 294 (by decide +kernel), tb_t 9 (by decide +kernel), tb_t 295 (by decide +kernel)⟩
theorem ms_RJL_95 : MS RJL 95 ⟨"java/lang/StringLatin1", "indexOfChar", "([BIII)I"⟩ prog_13_method_23_code 6 (some .int) 4 := ⟨⟨tb_t 611 (by decide +kernel), tb_t 612 (by decide +kernel), tb_t 12 (by decide +kernel), tb_t 613 (by decide +kernel)⟩, ⟨by decide, by decide, by decide +kernel⟩, by decide⟩
theorem gs_RJS_38 : Cond.fieldLink RJS 38 "java/lang/String" "COMPACT_STRINGS" "Z" ∈ TB := tb_t 532 (by decide +kernel)
theorem gs_RJS_1053 : Cond.fieldLink RJS 1053 "jdk/internal/util/Preconditions" "SIOOBE_FORMATTER" "Ljava/util/function/BiFunction;" ∈ TB := tb_t 548 (by decide +kernel)
theorem gs_RJS_9 : Cond.fieldLink RJS 9 "java/lang/String" "value" "[B" ∈ TB := tb_t 1224 (by decide +kernel)
theorem gs_RJS_15 : Cond.fieldLink RJS 15 "java/lang/String" "coder" "B" ∈ TB := tb_t 1225 (by decide +kernel)
def y_JS_coder : MethodName := ⟨"java/lang/String", "coder", "()B"⟩
theorem D_JS_coder_0 : decode prog_12_method_152_code 0 = .ok (.getstatic 38, 3) ∧ 0 + 3 = 3 := by decide +kernel
theorem D_JS_coder_3 : decode prog_12_method_152_code 3 = .ok (.ifCond .eq 10, 3) ∧ ((3 : Nat) : Int) + 10 = ((13 : Nat) : Int) ∧ 3 + 3 = 6 := by decide +kernel
theorem D_JS_coder_6 : decode prog_12_method_152_code 6 = .ok (.aload_n 0, 1) ∧ 6 + 1 = 7 := by decide +kernel
theorem D_JS_coder_7 : decode prog_12_method_152_code 7 = .ok (.getfield 15, 3) ∧ 7 + 3 = 10 := by decide +kernel
theorem D_JS_coder_10 : decode prog_12_method_152_code 10 = .ok (.goto 4, 3) ∧ ((10 : Nat) : Int) + 4 = ((14 : Nat) : Int) := by decide +kernel
theorem D_JS_coder_14 : decode prog_12_method_152_code 14 = .ok (.ireturn, 1) := by decide +kernel
def f_JS_coder (p : Nat) (mem : Mm) : Option (Int32) := some 0
theorem c_JS_coder (l : Launch) (E : En) (p : Nat) (hp : p < 6) {mem : Mm} {r : Int32} (h : f_JS_coder p mem = some r) : CtI l E 0 y_JS_coder prog_12_method_152_code 1 (some .byte) [.ref (ek E p)] SH mem r mem := by
  refine mk_CtY ⟨by decide, (Nat.le_of_ble_eq_true rfl)⟩ (fun X S hl hR => ?_)
  have S : Std X E prog_12_method_152_code RJS 1 0 := S
  show J X E 1 0 [(0, .ref (ek E p))] [] SH mem
  unfold f_JS_coder at h
  refine j_gets1 S D_JS_coder_0 gs_RJS_38 ?_
  refine j_if_eq S D_JS_coder_3 (fun c_ => absurd c_ (by decide +kernel)) (fun _ => ?_)
  refine j_aload_n S D_JS_coder_6 0 rfl rfl ?_
  refine j_strC S D_JS_coder_7 gs_RJS_15 hp ?_
  refine j_goto S D_JS_coder_10 ?_
  exact rtIY hR h rfl _ _ D_JS_coder_14

def y_JS_isLatin1 : MethodName := ⟨"java/lang/String", "isLatin1", "()Z"⟩
theorem D_JS_isLatin1_0 : decode prog_12_method_154_code 0 = .ok (.getstatic 38, 3) ∧ 0 + 3 = 3 := by decide +kernel
theorem D_JS_isLatin1_3 : decode prog_12_method_154_code 3 = .ok (.ifCond .eq 14, 3) ∧ ((3 : Nat) : Int) + 14 = ((17 : Nat) : Int) ∧ 3 + 3 = 6 := by decide +kernel
theorem D_JS_isLatin1_6 : decode prog_12_method_154_code 6 = .ok (.aload_n 0, 1) ∧ 6 + 1 = 7 := by decide +kernel
theorem D_JS_isLatin1_7 : decode prog_12_method_154_code 7 = .ok (.getfield 15, 3) ∧ 7 + 3 = 10 := by decide +kernel
theorem D_JS_isLatin1_10 : decode prog_12_method_154_code 10 = .ok (.ifCond .ne 7, 3) ∧ ((10 : Nat) : Int) + 7 = ((17 : Nat) : Int) ∧ 10 + 3 = 13 := by decide +kernel
theorem D_JS_isLatin1_13 : decode prog_12_method_154_code 13 = .ok (.iconst 1, 1) ∧ 13 + 1 = 14 := by decide +kernel
theorem D_JS_isLatin1_14 : decode prog_12_method_154_code 14 = .ok (.goto 4, 3) ∧ ((14 : Nat) : Int) + 4 = ((18 : Nat) : Int) := by decide +kernel
theorem D_JS_isLatin1_18 : decode prog_12_method_154_code 18 = .ok (.ireturn, 1) := by decide +kernel
def f_JS_isLatin1 (p : Nat) (mem : Mm) : Option (Int32) := some 1
theorem c_JS_isLatin1 (l : Launch) (E : En) (p : Nat) (hp : p < 6) {mem : Mm} {r : Int32} (h : f_JS_isLatin1 p mem = some r) : CtI l E 0 y_JS_isLatin1 prog_12_method_154_code 1 (some .boolean) [.ref (ek E p)] SH mem r mem := by
  refine mk_CtZ ⟨by decide, (Nat.le_of_ble_eq_true rfl)⟩ (fun X S hl hR => ?_)
  have S : Std X E prog_12_method_154_code RJS 1 0 := S
  show J X E 1 0 [(0, .ref (ek E p))] [] SH mem
  unfold f_JS_isLatin1 at h
  refine j_gets1 S D_JS_isLatin1_0 gs_RJS_38 ?_
  refine j_if_eq S D_JS_isLatin1_3 (fun c_ => absurd c_ (by decide +kernel)) (fun _ => ?_)
  refine j_aload_n S D_JS_isLatin1_6 0 rfl rfl ?_
  refine j_strC S D_JS_isLatin1_7 gs_RJS_15 hp ?_
  refine j_if_ne S D_JS_isLatin1_10 (fun c_ => absurd c_ (by decide +kernel)) (fun _ => ?_)
  refine j_iconst S D_JS_isLatin1_13 ci_1 ?_
  refine j_goto S D_JS_isLatin1_14 ?_
  exact rtIZ hR h isb1 _ _ D_JS_isLatin1_18

def y_JS_length : MethodName := ⟨"java/lang/String", "length", "()I"⟩
theorem D_JS_length_0 : decode prog_12_method_54_code 0 = .ok (.aload_n 0, 1) ∧ 0 + 1 = 1 := by decide +kernel
theorem D_JS_length_1 : decode prog_12_method_54_code 1 = .ok (.getfield 9, 3) ∧ 1 + 3 = 4 := by decide +kernel
theorem D_JS_length_4 : decode prog_12_method_54_code 4 = .ok (.arraylength, 1) ∧ 4 + 1 = 5 := by decide +kernel
theorem D_JS_length_5 : decode prog_12_method_54_code 5 = .ok (.aload_n 0, 1) ∧ 5 + 1 = 6 := by decide +kernel
theorem D_JS_length_6 : decode prog_12_method_54_code 6 = .ok (.invokevirtual 335, 3) ∧ 6 + 3 = 9 := by decide +kernel
theorem D_JS_length_9 : decode prog_12_method_54_code 9 = .ok (.ishr, 1) ∧ 9 + 1 = 10 := by decide +kernel
theorem D_JS_length_10 : decode prog_12_method_54_code 10 = .ok (.ireturn, 1) := by decide +kernel
def f_JS_length (p : Nat) (mem : Mm) : Option (Int32) := bp (f_JS_coder p mem) fun r_6 => some ((Int32.ofNat (sN p)) >>> (r_6 &&& 31))
theorem c_JS_length (l : Launch) (E : En) (p : Nat) (hp : p < 6) {mem : Mm} {r : Int32} (h : f_JS_length p mem = some r) : CtI l E 1 y_JS_length prog_12_method_54_code 1 (some .int) [.ref (ek E p)] SH mem r mem := by
  refine mk_CtI ⟨by decide, (Nat.le_of_ble_eq_true rfl)⟩ (fun X S hl hR => ?_)
  have S : Std X E prog_12_method_54_code RJS 1 1 := S
  show J X E 1 0 [(0, .ref (ek E p))] [] SH mem
  unfold f_JS_length at h
  refine j_aload_n S D_JS_length_0 0 rfl rfl ?_
  refine j_strV S D_JS_length_1 gs_RJS_9 hp ?_
  refine j_slen S D_JS_length_4 hp ?_
  refine j_aload_n S D_JS_length_5 0 rfl rfl ?_
  obtain ⟨r_6, e_6, h⟩ := bpE h
  refine j_callTI (As := []) S D_JS_length_6 mv_RJS_335 (c_JS_coder (cxL X) E p hp e_6) (by decide) hp rfl rfl rfl (Nat.le_of_ble_eq_true rfl) ?_
  refine j_ishr S D_JS_length_9 ?_
  exact rtI hR h _ _ D_JS_length_10

def y_JP_checkIndex : MethodName := ⟨"jdk/internal/util/Preconditions", "checkIndex", "(IILjava/util/function/BiFunction;)I"⟩
theorem D_JP_checkIndex_0 : decode prog_16_method_11_code 0 = .ok (.iload_n 0, 1) ∧ 0 + 1 = 1 := by decide +kernel
theorem D_JP_checkIndex_1 : decode prog_16_method_11_code 1 = .ok (.ifCond .lt 8, 3) ∧ ((1 : Nat) : Int) + 8 = ((9 : Nat) : Int) ∧ 1 + 3 = 4 := by decide +kernel
theorem D_JP_checkIndex_4 : decode prog_16_method_11_code 4 = .ok (.iload_n 0, 1) ∧ 4 + 1 = 5 := by decide +kernel
theorem D_JP_checkIndex_5 : decode prog_16_method_11_code 5 = .ok (.iload_n 1, 1) ∧ 5 + 1 = 6 := by decide +kernel
theorem D_JP_checkIndex_6 : decode prog_16_method_11_code 6 = .ok (.if_icmp .lt 10, 3) ∧ ((6 : Nat) : Int) + 10 = ((16 : Nat) : Int) ∧ 6 + 3 = 9 := by decide +kernel
theorem D_JP_checkIndex_16 : decode prog_16_method_11_code 16 = .ok (.iload_n 0, 1) ∧ 16 + 1 = 17 := by decide +kernel
theorem D_JP_checkIndex_17 : decode prog_16_method_11_code 17 = .ok (.ireturn, 1) := by decide +kernel
def f_JP_checkIndex (a1 : Int32) (a2 : Int32) : Option (Int32) := if a1 < 0 then none else if a1 < a2 then some a1 else none
theorem c_JP_checkIndex (l : Launch) (E : En) (a1 : Int32) (a2 : Int32) (o1 : Value) (ho1 : o1.category = 1) {mem : Mm} {r : Int32} (h : f_JP_checkIndex a1 a2 = some r) : CtI l E 0 y_JP_checkIndex prog_16_method_11_code 3 (some .int) [.int a1, .int a2, o1] SH mem r mem := by
  refine mk_CtI ⟨by decide, lenW ho1⟩ (fun X S hl hR => ?_)
  have S : Std X E prog_16_method_11_code RJP 3 0 := S
  show J X E 3 0 [(0, .int a1), (1, .int a2), (2, o1)] [] SH mem
  unfold f_JP_checkIndex at h
  refine j_iload_n S D_JP_checkIndex_0 0 rfl rfl ?_
  refine j_if_lt S D_JP_checkIndex_1 (fun c_1 => ?_) (fun c_1 => ?_)
  · have h := ifT c_1 h
    cases h
  · have h := ifF c_1 h
    refine j_iload_n S D_JP_checkIndex_4 0 rfl rfl ?_
    refine j_iload_n S D_JP_checkIndex_5 1 rfl rfl ?_
    refine j_icmp_lt S D_JP_checkIndex_6 (fun c_6 => ?_) (fun c_6 => ?_)
    · have h := ifT c_6 h
      refine j_iload_n S D_JP_checkIndex_16 0 rfl rfl ?_
      exact rtI hR h _ _ D_JP_checkIndex_17
    · have h := ifF c_6 h
      cases h

def y_JS_checkIndex : MethodName := ⟨"java/lang/String", "checkIndex", "(II)V"⟩
theorem D_JS_checkIndex_0 : decode prog_12_method_155_code 0 = .ok (.iload_n 0, 1) ∧ 0 + 1 = 1 := by decide +kernel
theorem D_JS_checkIndex_1 : decode prog_12_method_155_code 1 = .ok (.iload_n 1, 1) ∧ 1 + 1 = 2 := by decide +kernel
theorem D_JS_checkIndex_2 : decode prog_12_method_155_code 2 = .ok (.getstatic 1053, 3) ∧ 2 + 3 = 5 := by decide +kernel
theorem D_JS_checkIndex_5 : decode prog_12_method_155_code 5 = .ok (.invokestatic 1059, 3) ∧ 5 + 3 = 8 := by decide +kernel
theorem D_JS_checkIndex_8 : decode prog_12_method_155_code 8 = .ok (.pop, 1) ∧ 8 + 1 = 9 := by decide +kernel
theorem D_JS_checkIndex_9 : decode prog_12_method_155_code 9 = .ok (.return_, 1) := by decide +kernel
def f_JS_checkIndex (a1 : Int32) (a2 : Int32) : Option (Unit) := bp (f_JP_checkIndex a1 a2) fun r_5 => some ()
theorem c_JS_checkIndex (l : Launch) (E : En) (a1 : Int32) (a2 : Int32) {mem : Mm}  (h : f_JS_checkIndex a1 a2 = some ()) : CtV l E 1 y_JS_checkIndex prog_12_method_155_code 2 [.int a1, .int a2] SH mem mem := by
  refine mk_CtV ⟨by decide, (Nat.le_of_ble_eq_true rfl)⟩ (fun X S hl hR => ?_)
  have S : Std X E prog_12_method_155_code RJS 2 1 := S
  show J X E 2 0 [(0, .int a1), (1, .int a2)] [] SH mem
  unfold f_JS_checkIndex at h
  refine j_iload_n S D_JS_checkIndex_0 0 rfl rfl ?_
  refine j_iload_n S D_JS_checkIndex_1 1 rfl rfl ?_
  refine j_getsQ S D_JS_checkIndex_2 gs_RJS_1053 (fun w_2 hw_2 => ?_)
  obtain ⟨r_5, e_5, h⟩ := bpE h
  refine j_callSI (As := [.int a1, .int a2, w_2]) S D_JS_checkIndex_5 ms_RJS_1059 (c_JP_checkIndex (cxL X) E a1 a2 w_2 hw_2 (mem := mem) e_5) (by decide) rfl rfl (Nat.le_of_ble_eq_true rfl) ?_
  refine j_pop S D_JS_checkIndex_8 rfl ?_
  exact hR _ _ D_JS_checkIndex_9

def y_JL_charAt : MethodName := ⟨"java/lang/StringLatin1", "charAt", "([BI)C"⟩
theorem D_JL_charAt_0 : decode prog_13_method_2_code 0 = .ok (.iload_n 1, 1) ∧ 0 + 1 = 1 := by decide +kernel
theorem D_JL_charAt_1 : decode prog_13_method_2_code 1 = .ok (.aload_n 0, 1) ∧ 1 + 1 = 2 := by decide +kernel
theorem D_JL_charAt_2 : decode prog_13_method_2_code 2 = .ok (.arraylength, 1) ∧ 2 + 1 = 3 := by decide +kernel
theorem D_JL_charAt_3 : decode prog_13_method_2_code 3 = .ok (.invokestatic 9, 3) ∧ 3 + 3 = 6 := by decide +kernel
theorem D_JL_charAt_6 : decode prog_13_method_2_code 6 = .ok (.aload_n 0, 1) ∧ 6 + 1 = 7 := by decide +kernel
theorem D_JL_charAt_7 : decode prog_13_method_2_code 7 = .ok (.iload_n 1, 1) ∧ 7 + 1 = 8 := by decide +kernel
theorem D_JL_charAt_8 : decode prog_13_method_2_code 8 = .ok (.baload, 1) ∧ 8 + 1 = 9 := by decide +kernel
theorem D_JL_charAt_9 : decode prog_13_method_2_code 9 = .ok (.sipush 255, 3) ∧ 9 + 3 = 12 := by decide +kernel
theorem D_JL_charAt_12 : decode prog_13_method_2_code 12 = .ok (.iand, 1) ∧ 12 + 1 = 13 := by decide +kernel
theorem D_JL_charAt_13 : decode prog_13_method_2_code 13 = .ok (.i2c, 1) ∧ 13 + 1 = 14 := by decide +kernel
theorem D_JL_charAt_14 : decode prog_13_method_2_code 14 = .ok (.ireturn, 1) := by decide +kernel
def f_JL_charAt (o1 : Nat) (a2 : Int32) : Option (Int32) := bp (f_JS_checkIndex a2 (Int32.ofNat (sN o1))) fun r_3 => if inb a2 (sN o1) = true then some ((((sB o1 (ix a2)) &&& 255).toUInt32 % 65536).toInt32) else none
theorem c_JL_charAt (l : Launch) (E : En) (o1 : Nat) (ho1 : o1 < 6) (a2 : Int32) {mem : Mm} {r : Int32} (h : f_JL_charAt o1 a2 = some r) : CtI l E 2 y_JL_charAt prog_13_method_2_code 2 (some .char) [.ref (ev E o1), .int a2] SH mem r mem := by
  refine mk_CtY ⟨by decide, (Nat.le_of_ble_eq_true rfl)⟩ (fun X S hl hR => ?_)
  have S : Std X E prog_13_method_2_code RJL 2 2 := S
  show J X E 2 0 [(0, .ref (ev E o1)), (1, .int a2)] [] SH mem
  unfold f_JL_charAt at h
  refine j_iload_n S D_JL_charAt_0 1 rfl rfl ?_
  refine j_aload_n S D_JL_charAt_1 0 rfl rfl ?_
  refine j_slen S D_JL_charAt_2 ho1 ?_
  obtain ⟨r_3, e_3, h⟩ := bpE h
  refine j_callSV (As := [.int a2, .int (Int32.ofNat (sN o1))]) S D_JL_charAt_3 ms_RJL_9 (c_JS_checkIndex (cxL X) E a2 (Int32.ofNat (sN o1)) (mem := mem) e_3) (by decide) rfl rfl (Nat.le_of_ble_eq_true rfl) ?_
  refine j_aload_n S D_JL_charAt_6 0 rfl rfl ?_
  refine j_iload_n S D_JL_charAt_7 1 rfl rfl ?_
  obtain ⟨g_8, h⟩ := gdE h
  refine j_sbald S D_JL_charAt_8 ho1 g_8 ?_
  refine j_sipush S D_JL_charAt_9 cs_255 ?_
  refine j_iand S D_JL_charAt_12 ?_
  refine j_i2c S D_JL_charAt_13 ?_
  exact rtIY hR h (pk_nc _) _ _ D_JL_charAt_14

def y_JS_charAt : MethodName := ⟨"java/lang/String", "charAt", "(I)C"⟩
theorem D_JS_charAt_0 : decode prog_12_method_56_code 0 = .ok (.aload_n 0, 1) ∧ 0 + 1 = 1 := by decide +kernel
theorem D_JS_charAt_1 : decode prog_12_method_56_code 1 = .ok (.invokevirtual 492, 3) ∧ 1 + 3 = 4 := by decide +kernel
theorem D_JS_charAt_4 : decode prog_12_method_56_code 4 = .ok (.ifCond .eq 12, 3) ∧ ((4 : Nat) : Int) + 12 = ((16 : Nat) : Int) ∧ 4 + 3 = 7 := by decide +kernel
theorem D_JS_charAt_7 : decode prog_12_method_56_code 7 = .ok (.aload_n 0, 1) ∧ 7 + 1 = 8 := by decide +kernel
theorem D_JS_charAt_8 : decode prog_12_method_56_code 8 = .ok (.getfield 9, 3) ∧ 8 + 3 = 11 := by decide +kernel
theorem D_JS_charAt_11 : decode prog_12_method_56_code 11 = .ok (.iload_n 1, 1) ∧ 11 + 1 = 12 := by decide +kernel
theorem D_JS_charAt_12 : decode prog_12_method_56_code 12 = .ok (.invokestatic 495, 3) ∧ 12 + 3 = 15 := by decide +kernel
theorem D_JS_charAt_15 : decode prog_12_method_56_code 15 = .ok (.ireturn, 1) := by decide +kernel
def f_JS_charAt (p : Nat) (a1 : Int32) (mem : Mm) : Option (Int32) := bp (f_JS_isLatin1 p mem) fun r_1 => if r_1 = 0 then none else bp (f_JL_charAt p a1) fun r_12 => if isc r_12 = true then some r_12 else none
theorem c_JS_charAt (l : Launch) (E : En) (p : Nat) (hp : p < 6) (a1 : Int32) {mem : Mm} {r : Int32} (h : f_JS_charAt p a1 mem = some r) : CtI l E 3 y_JS_charAt prog_12_method_56_code 2 (some .char) [.ref (ek E p), .int a1] SH mem r mem := by
  refine mk_CtY ⟨by decide, (Nat.le_of_ble_eq_true rfl)⟩ (fun X S hl hR => ?_)
  have S : Std X E prog_12_method_56_code RJS 2 3 := S
  show J X E 2 0 [(0, .ref (ek E p)), (1, .int a1)] [] SH mem
  unfold f_JS_charAt at h
  refine j_aload_n S D_JS_charAt_0 0 rfl rfl ?_
  obtain ⟨r_1, e_1, h⟩ := bpE h
  refine j_callTI (As := []) S D_JS_charAt_1 mv_RJS_492 (c_JS_isLatin1 (cxL X) E p hp e_1) (by decide) hp rfl rfl rfl (Nat.le_of_ble_eq_true rfl) ?_
  refine j_if_eq S D_JS_charAt_4 (fun c_4 => ?_) (fun c_4 => ?_)
  · have h := ifT c_4 h
    cases h
  · have h := ifF c_4 h
    refine j_aload_n S D_JS_charAt_7 0 rfl rfl ?_
    refine j_strV S D_JS_charAt_8 gs_RJS_9 hp ?_
    refine j_iload_n S D_JS_charAt_11 1 rfl rfl ?_
    obtain ⟨r_12, e_12, h⟩ := bpE h
    refine j_callSI (As := [.ref (ev E p), .int a1]) S D_JS_charAt_12 ms_RJS_495 (c_JL_charAt (cxL X) E p hp a1 (mem := mem) e_12) (by decide) rfl rfl (Nat.le_of_ble_eq_true rfl) ?_
    obtain ⟨z_15, h⟩ := gdE h
    exact rtIY hR h (isc_n z_15) _ _ D_JS_charAt_15

def y_JL_canEncode : MethodName := ⟨"java/lang/StringLatin1", "canEncode", "(I)Z"⟩
theorem D_JL_canEncode_0 : decode prog_13_method_4_code 0 = .ok (.iload_n 0, 1) ∧ 0 + 1 = 1 := by decide +kernel
theorem D_JL_canEncode_15 : decode prog_13_method_4_code 15 = .ok (.iconst 0, 1) ∧ 15 + 1 = 16 := by decide +kernel
theorem D_JL_canEncode_4 : decode prog_13_method_4_code 4 = .ok (.iload_n 0, 1) ∧ 4 + 1 = 5 := by decide +kernel
theorem D_JL_canEncode_5 : decode prog_13_method_4_code 5 = .ok (.sipush 255, 3) ∧ 5 + 3 = 8 := by decide +kernel
theorem D_JL_canEncode_11 : decode prog_13_method_4_code 11 = .ok (.iconst 1, 1) ∧ 11 + 1 = 12 := by decide +kernel
theorem D_JL_canEncode_12 : decode prog_13_method_4_code 12 = .ok (.goto 4, 3) ∧ ((12 : Nat) : Int) + 4 = ((16 : Nat) : Int) := by decide +kernel
theorem D_JL_canEncode_8 : decode prog_13_method_4_code 8 = .ok (.if_icmp .gt 7, 3) ∧ ((8 : Nat) : Int) + 7 = ((15 : Nat) : Int) ∧ 8 + 3 = 11 := by decide +kernel
theorem D_JL_canEncode_1 : decode prog_13_method_4_code 1 = .ok (.ifCond .lt 14, 3) ∧ ((1 : Nat) : Int) + 14 = ((15 : Nat) : Int) ∧ 1 + 3 = 4 := by decide +kernel
theorem D_JL_canEncode_16 : decode prog_13_method_4_code 16 = .ok (.ireturn, 1) := by decide +kernel
def f_JL_canEncode (a1 : Int32) : Option (Int32) := some (if a1 < 0 then (0 : Int32) else if 255 < a1 then (0 : Int32) else 1)
theorem c_JL_canEncode (l : Launch) (E : En) (a1 : Int32) {mem : Mm} {r : Int32} (h : f_JL_canEncode a1 = some r) : CtI l E 0 y_JL_canEncode prog_13_method_4_code 1 (some .boolean) [.int a1] SH mem r mem := by
  refine mk_CtZ ⟨by decide, (Nat.le_of_ble_eq_true rfl)⟩ (fun X S hl hR => ?_)
  have S : Std X E prog_13_method_4_code RJL 1 0 := S
  show J X E 1 0 [(0, .int a1)] [] SH mem
  unfold f_JL_canEncode at h
  refine j_iload_n S D_JL_canEncode_0 0 rfl rfl ?_
  refine j_dia (P := J X E 1 16 [(0, .int a1)] [.int (if a1 < 0 then (0 : Int32) else if 255 < a1 then (0 : Int32) else 1)] SH mem) (fun hj => ?_) ?_
  · refine j_if_lt S D_JL_canEncode_1 (fun c_1 => ?_) (fun c_1 => ?_)
    · refine j_iconst S D_JL_canEncode_15 ci_0 ?_
      exact j_jnT hj c_1
    · refine j_iload_n S D_JL_canEncode_4 0 rfl rfl ?_
      refine j_sipush S D_JL_canEncode_5 cs_255 ?_
      refine j_dia (P := J X E 1 16 [(0, .int a1)] [.int (if 255 < a1 then (0 : Int32) else 1)] SH mem) (fun hj => ?_) ?_
      · refine j_icmp_gt S D_JL_canEncode_8 (fun c_8 => ?_) (fun c_8 => ?_)
        · refine j_iconst S D_JL_canEncode_15 ci_0 ?_
          exact j_jnT hj c_8
        · refine j_iconst S D_JL_canEncode_11 ci_1 ?_
          refine j_goto S D_JL_canEncode_12 ?_
          exact j_jnF hj c_8
      exact j_jnF hj c_1
  exact rtIZ hR h (isb_ite isb0 (isb_ite isb0 isb1)) _ _ D_JL_canEncode_16

def y_JL_indexOfChar : MethodName := ⟨"java/lang/StringLatin1", "indexOfChar", "([BIII)I"⟩
theorem D_JL_indexOfChar_0 : decode prog_13_method_23_code 0 = .ok (.iload_n 1, 1) ∧ 0 + 1 = 1 := by decide +kernel
theorem D_JL_indexOfChar_1 : decode prog_13_method_23_code 1 = .ok (.i2b, 1) ∧ 1 + 1 = 2 := by decide +kernel
theorem D_JL_indexOfChar_2 : decode prog_13_method_23_code 2 = .ok (.istore 4, 2) ∧ 2 + 2 = 4 := by decide +kernel
theorem D_JL_indexOfChar_4 : decode prog_13_method_23_code 4 = .ok (.iload_n 2, 1) ∧ 4 + 1 = 5 := by decide +kernel
theorem D_JL_indexOfChar_5 : decode prog_13_method_23_code 5 = .ok (.istore 5, 2) ∧ 5 + 2 = 7 := by decide +kernel
theorem D_JL_indexOfChar_7 : decode prog_13_method_23_code 7 = .ok (.iload 5, 2) ∧ 7 + 2 = 9 := by decide +kernel
theorem D_JL_indexOfChar_9 : decode prog_13_method_23_code 9 = .ok (.iload_n 3, 1) ∧ 9 + 1 = 10 := by decide +kernel
theorem D_JL_indexOfChar_10 : decode prog_13_method_23_code 10 = .ok (.if_icmp .ge 21, 3) ∧ ((10 : Nat) : Int) + 21 = ((31 : Nat) : Int) ∧ 10 + 3 = 13 := by decide +kernel
theorem D_JL_indexOfChar_31 : decode prog_13_method_23_code 31 = .ok (.iconst (-1), 1) ∧ 31 + 1 = 32 := by decide +kernel
theorem D_JL_indexOfChar_32 : decode prog_13_method_23_code 32 = .ok (.ireturn, 1) := by decide +kernel
theorem D_JL_indexOfChar_13 : decode prog_13_method_23_code 13 = .ok (.aload_n 0, 1) ∧ 13 + 1 = 14 := by decide +kernel
theorem D_JL_indexOfChar_14 : decode prog_13_method_23_code 14 = .ok (.iload 5, 2) ∧ 14 + 2 = 16 := by decide +kernel
theorem D_JL_indexOfChar_16 : decode prog_13_method_23_code 16 = .ok (.baload, 1) ∧ 16 + 1 = 17 := by decide +kernel
theorem D_JL_indexOfChar_17 : decode prog_13_method_23_code 17 = .ok (.iload 4, 2) ∧ 17 + 2 = 19 := by decide +kernel
theorem D_JL_indexOfChar_19 : decode prog_13_method_23_code 19 = .ok (.if_icmp .ne 6, 3) ∧ ((19 : Nat) : Int) + 6 = ((25 : Nat) : Int) ∧ 19 + 3 = 22 := by decide +kernel
theorem D_JL_indexOfChar_25 : decode prog_13_method_23_code 25 = .ok (.iinc 5 1, 3) ∧ 25 + 3 = 28 := by decide +kernel
theorem D_JL_indexOfChar_28 : decode prog_13_method_23_code 28 = .ok (.goto (-21), 3) ∧ ((28 : Nat) : Int) + (-21) = ((7 : Nat) : Int) := by decide +kernel
theorem D_JL_indexOfChar_22 : decode prog_13_method_23_code 22 = .ok (.iload 5, 2) ∧ 22 + 2 = 24 := by decide +kernel
theorem D_JL_indexOfChar_24 : decode prog_13_method_23_code 24 = .ok (.ireturn, 1) := by decide +kernel
def f_JL_indexOfChar_L7 (o1 : Nat) : Nat → Int32 → Int32 → Int32 → Int32 → Int32 → Mm → Option Int32
  | 0, _, _, _, _, _, _ => none
  | n + 1, b1, b2, b3, b4, b5, mem => if b3 ≤ b5 then some (-1) else if inb b5 (sN o1) = true then if sB o1 (ix b5) = b4 then some b5 else f_JL_indexOfChar_L7 o1 n b1 b2 b3 b4 (b5 + 1) mem else none
def f_JL_indexOfChar (N : Nat) (o1 : Nat) (a2 : Int32) (a3 : Int32) (a4 : Int32) (mem : Mm) : Option (Int32) := f_JL_indexOfChar_L7 o1 N a2 a3 a4 a2.toInt8.toInt32 a3 mem
theorem L_JL_indexOfChar_7 {X : Cx} {E : En} (S : Std X E prog_13_method_23_code RJL 6 0) (o1 : Nat) (ho1 : o1 < 6) {r : Int32} {mem : Mm} (hR : RetI X E prog_13_method_23_code 6 SH r mem) : ∀ (n : Nat) (b1 : Int32) (b2 : Int32) (b3 : Int32) (b4 : Int32) (b5 : Int32), f_JL_indexOfChar_L7 o1 n b1 b2 b3 b4 b5 mem = some r → J X E 6 7 [(0, .ref (ev E o1)), (1, .int b1), (2, .int b2), (3, .int b3), (4, .int b4), (5, .int b5)] [] SH mem := by
  intro n
  induction n with
  | zero =>
    intro b1 b2 b3 b4 b5 h; cases h
  | succ n ih =>
    intro b1 b2 b3 b4 b5 h
    rw [f_JL_indexOfChar_L7] at h
    refine j_iload S D_JL_indexOfChar_7 5 rfl ?_
    refine j_iload_n S D_JL_indexOfChar_9 3 rfl rfl ?_
    refine j_icmp_ge S D_JL_indexOfChar_10 (fun c_10 => ?_) (fun c_10 => ?_)
    · have h := ifT c_10 h
      refine j_iconst S D_JL_indexOfChar_31 ci_m1 ?_
      exact rtI hR h _ _ D_JL_indexOfChar_32
    · have h := ifF c_10 h
      refine j_aload_n S D_JL_indexOfChar_13 0 rfl rfl ?_
      refine j_iload S D_JL_indexOfChar_14 5 rfl ?_
      obtain ⟨g_16, h⟩ := gdE h
      refine j_sbald S D_JL_indexOfChar_16 ho1 g_16 ?_
      refine j_iload S D_JL_indexOfChar_17 4 rfl ?_
      refine j_icmp_ne S D_JL_indexOfChar_19 (fun c_19 => ?_) (fun c_19 => ?_)
      · have h := ifF c_19 h
        refine j_iinc S D_JL_indexOfChar_25 5 rfl (congrArg (fun z => b5 + z) ci_1) (lv := [(5, .int (b5 + 1)), (0, .ref (ev E o1)), (1, .int b1), (2, .int b2), (3, .int b3), (4, .int b4)]) rfl (Nat.le_of_ble_eq_true rfl) ?_
        refine j_goto S D_JL_indexOfChar_28 ?_
        refine j_locals [1, 2, 3, 4, 5, 0] rfl (ih b1 b2 b3 b4 (b5 + 1) h)
      · have h := ifT c_19 h
        refine j_iload S D_JL_indexOfChar_22 5 rfl ?_
        exact rtI hR h _ _ D_JL_indexOfChar_24
theorem c_JL_indexOfChar (l : Launch) (E : En) (N : Nat) (o1 : Nat) (ho1 : o1 < 6) (a2 : Int32) (a3 : Int32) (a4 : Int32) {mem : Mm} {r : Int32} (h : f_JL_indexOfChar N o1 a2 a3 a4 mem = some r) : CtI l E 0 y_JL_indexOfChar prog_13_method_23_code 6 (some .int) [.ref (ev E o1), .int a2, .int a3, .int a4] SH mem r mem := by
  refine mk_CtI ⟨by decide, (Nat.le_of_ble_eq_true rfl)⟩ (fun X S hl hR => ?_)
  have S : Std X E prog_13_method_23_code RJL 6 0 := S
  show J X E 6 0 [(0, .ref (ev E o1)), (1, .int a2), (2, .int a3), (3, .int a4)] [] SH mem
  unfold f_JL_indexOfChar at h
  refine j_iload_n S D_JL_indexOfChar_0 1 rfl rfl ?_
  refine j_i2b S D_JL_indexOfChar_1 ?_
  refine j_istore S D_JL_indexOfChar_2 (lv := [(4, .int a2.toInt8.toInt32), (0, .ref (ev E o1)), (1, .int a2), (2, .int a3), (3, .int a4)]) rfl (Nat.le_of_ble_eq_true rfl) ?_
  refine j_iload_n S D_JL_indexOfChar_4 3 rfl rfl ?_
  refine j_istore S D_JL_indexOfChar_5 (lv := [(5, .int a3), (4, .int a2.toInt8.toInt32), (0, .ref (ev E o1)), (1, .int a2), (2, .int a3), (3, .int a4)]) rfl (Nat.le_of_ble_eq_true rfl) ?_
  refine j_locals [2, 3, 4, 5, 1, 0] rfl ?_
  exact L_JL_indexOfChar_7 S o1 ho1 hR N a2 a3 a4 a2.toInt8.toInt32 a3 h

def y_JL_indexOf : MethodName := ⟨"java/lang/StringLatin1", "indexOf", "([BIII)I"⟩
theorem D_JL_indexOf_0 : decode prog_13_method_22_code 0 = .ok (.iload_n 1, 1) ∧ 0 + 1 = 1 := by decide +kernel
theorem D_JL_indexOf_1 : decode prog_13_method_22_code 1 = .ok (.invokestatic 88, 3) ∧ 1 + 3 = 4 := by decide +kernel
theorem D_JL_indexOf_4 : decode prog_13_method_22_code 4 = .ok (.ifCond .ne 5, 3) ∧ ((4 : Nat) : Int) + 5 = ((9 : Nat) : Int) ∧ 4 + 3 = 7 := by decide +kernel
theorem D_JL_indexOf_9 : decode prog_13_method_22_code 9 = .ok (.iload_n 2, 1) ∧ 9 + 1 = 10 := by decide +kernel
theorem D_JL_indexOf_10 : decode prog_13_method_22_code 10 = .ok (.iconst 0, 1) ∧ 10 + 1 = 11 := by decide +kernel
theorem D_JL_indexOf_11 : decode prog_13_method_22_code 11 = .ok (.invokestatic 92, 3) ∧ 11 + 3 = 14 := by decide +kernel
theorem D_JL_indexOf_14 : decode prog_13_method_22_code 14 = .ok (.istore_n 2, 1) ∧ 14 + 1 = 15 := by decide +kernel
theorem D_JL_indexOf_15 : decode prog_13_method_22_code 15 = .ok (.iload_n 3, 1) ∧ 15 + 1 = 16 := by decide +kernel
theorem D_JL_indexOf_16 : decode prog_13_method_22_code 16 = .ok (.aload_n 0, 1) ∧ 16 + 1 = 17 := by decide +kernel
theorem D_JL_indexOf_17 : decode prog_13_method_22_code 17 = .ok (.arraylength, 1) ∧ 17 + 1 = 18 := by decide +kernel
theorem D_JL_indexOf_18 : decode prog_13_method_22_code 18 = .ok (.invokestatic 38, 3) ∧ 18 + 3 = 21 := by decide +kernel
theorem D_JL_indexOf_21 : decode prog_13_method_22_code 21 = .ok (.istore_n 3, 1) ∧ 21 + 1 = 22 := by decide +kernel
theorem D_JL_indexOf_22 : decode prog_13_method_22_code 22 = .ok (.iload_n 2, 1) ∧ 22 + 1 = 23 := by decide +kernel
theorem D_JL_indexOf_23 : decode prog_13_method_22_code 23 = .ok (.iload_n 3, 1) ∧ 23 + 1 = 24 := by decide +kernel
theorem D_JL_indexOf_24 : decode prog_13_method_22_code 24 = .ok (.if_icmp .lt 5, 3) ∧ ((24 : Nat) : Int) + 5 = ((29 : Nat) : Int) ∧ 24 + 3 = 27 := by decide +kernel
theorem D_JL_indexOf_29 : decode prog_13_method_22_code 29 = .ok (.aload_n 0, 1) ∧ 29 + 1 = 30 := by decide +kernel
theorem D_JL_indexOf_30 : decode prog_13_method_22_code 30 = .ok (.iload_n 1, 1) ∧ 30 + 1 = 31 := by decide +kernel
theorem D_JL_indexOf_31 : decode prog_13_method_22_code 31 = .ok (.iload_n 2, 1) ∧ 31 + 1 = 32 := by decide +kernel
theorem D_JL_indexOf_32 : decode prog_13_method_22_code 32 = .ok (.iload_n 3, 1) ∧ 32 + 1 = 33 := by decide +kernel
theorem D_JL_indexOf_33 : decode prog_13_method_22_code 33 = .ok (.invokestatic 95, 3) ∧ 33 + 3 = 36 := by decide +kernel
theorem D_JL_indexOf_36 : decode prog_13_method_22_code 36 = .ok (.ireturn, 1) := by decide +kernel
theorem D_JL_indexOf_27 : decode prog_13_method_22_code 27 = .ok (.iconst (-1), 1) ∧ 27 + 1 = 28 := by decide +kernel
theorem D_JL_indexOf_28 : decode prog_13_method_22_code 28 = .ok (.ireturn, 1) := by decide +kernel
theorem D_JL_indexOf_7 : decode prog_13_method_22_code 7 = .ok (.iconst (-1), 1) ∧ 7 + 1 = 8 := by decide +kernel
theorem D_JL_indexOf_8 : decode prog_13_method_22_code 8 = .ok (.ireturn, 1) := by decide +kernel
def f_JL_indexOf (N : Nat) (o1 : Nat) (a2 : Int32) (a3 : Int32) (a4 : Int32) (mem : Mm) : Option (Int32) := bp (f_JL_canEncode a2) fun r_1 => if r_1 = 0 then some (-1) else lt (if a3 < 0 then 0 else a3) fun x_14 => lt (if (Int32.ofNat (sN o1)) < a4 then Int32.ofNat (sN o1) else a4) fun x_21 => if x_14 < x_21 then bp (f_JL_indexOfChar N o1 a2 x_14 x_21 mem) fun r_33 => some r_33 else some (-1)
theorem c_JL_indexOf (l : Launch) (E : En) (N : Nat) (o1 : Nat) (ho1 : o1 < 6) (a2 : Int32) (a3 : Int32) (a4 : Int32) {mem : Mm} {r : Int32} (h : f_JL_indexOf N o1 a2 a3 a4 mem = some r) : CtI l E 1 y_JL_indexOf prog_13_method_22_code 4 (some .int) [.ref (ev E o1), .int a2, .int a3, .int a4] SH mem r mem := by
  refine mk_CtI ⟨by decide, (Nat.le_of_ble_eq_true rfl)⟩ (fun X S hl hR => ?_)
  have S : Std X E prog_13_method_22_code RJL 4 1 := S
  show J X E 4 0 [(0, .ref (ev E o1)), (1, .int a2), (2, .int a3), (3, .int a4)] [] SH mem
  unfold f_JL_indexOf at h
  refine j_iload_n S D_JL_indexOf_0 1 rfl rfl ?_
  obtain ⟨r_1, e_1, h⟩ := bpE h
  refine j_callSI (As := [.int a2]) S D_JL_indexOf_1 ms_RJL_88 (c_JL_canEncode (cxL X) E a2 (mem := mem) e_1) (by decide) rfl rfl (Nat.le_of_ble_eq_true rfl) ?_
  refine j_if_ne S D_JL_indexOf_4 (fun c_4 => ?_) (fun c_4 => ?_)
  · have h := ifF c_4 h
    refine j_iload_n S D_JL_indexOf_9 2 rfl rfl ?_
    refine j_iconst S D_JL_indexOf_10 ci_0 ?_
    refine j_mmax S D_JL_indexOf_11 (by decide) mm_RJL_92 (Nat.le_of_ble_eq_true rfl) ?_
    obtain ⟨x_14, hx_14, h⟩ := ltE h
    refine j_nm hx_14 ?_
    refine j_istore_n S D_JL_indexOf_14 (lv := [(2, .int x_14), (0, .ref (ev E o1)), (1, .int a2), (3, .int a4)]) rfl ⟨rfl, (Nat.le_of_ble_eq_true rfl)⟩ ?_
    refine j_iload_n S D_JL_indexOf_15 3 rfl rfl ?_
    refine j_aload_n S D_JL_indexOf_16 1 rfl rfl ?_
    refine j_slen S D_JL_indexOf_17 ho1 ?_
    refine j_mmin S D_JL_indexOf_18 (by decide) mm_RJL_38 (Nat.le_of_ble_eq_true rfl) ?_
    obtain ⟨x_21, hx_21, h⟩ := ltE h
    refine j_nm hx_21 ?_
    refine j_istore_n S D_JL_indexOf_21 (lv := [(3, .int x_21), (2, .int x_14), (0, .ref (ev E o1)), (1, .int a2)]) rfl ⟨rfl, (Nat.le_of_ble_eq_true rfl)⟩ ?_
    refine j_iload_n S D_JL_indexOf_22 1 rfl rfl ?_
    refine j_iload_n S D_JL_indexOf_23 0 rfl rfl ?_
    refine j_icmp_lt S D_JL_indexOf_24 (fun c_24 => ?_) (fun c_24 => ?_)
    · have h := ifT c_24 h
      refine j_aload_n S D_JL_indexOf_29 2 rfl rfl ?_
      refine j_iload_n S D_JL_indexOf_30 3 rfl rfl ?_
      refine j_iload_n S D_JL_indexOf_31 1 rfl rfl ?_
      refine j_iload_n S D_JL_indexOf_32 0 rfl rfl ?_
      obtain ⟨r_33, e_33, h⟩ := bpE h
      refine j_callSI (As := [.ref (ev E o1), .int a2, .int x_14, .int x_21]) S D_JL_indexOf_33 ms_RJL_95 (c_JL_indexOfChar (cxL X) E N o1 ho1 a2 x_14 x_21 e_33) (by decide) rfl rfl (Nat.le_of_ble_eq_true rfl) ?_
      exact rtI hR h _ _ D_JL_indexOf_36
    · have h := ifF c_24 h
      refine j_iconst S D_JL_indexOf_27 ci_m1 ?_
      exact rtI hR h _ _ D_JL_indexOf_28
  · have h := ifT c_4 h
    refine j_iconst S D_JL_indexOf_7 ci_m1 ?_
    exact rtI hR h _ _ D_JL_indexOf_8

def y_JS_indexOf2 : MethodName := ⟨"java/lang/String", "indexOf", "(II)I"⟩
theorem D_JS_indexOf2_0 : decode prog_12_method_80_code 0 = .ok (.aload_n 0, 1) ∧ 0 + 1 = 1 := by decide +kernel
theorem D_JS_indexOf2_1 : decode prog_12_method_80_code 1 = .ok (.invokevirtual 492, 3) ∧ 1 + 3 = 4 := by decide +kernel
theorem D_JS_indexOf2_4 : decode prog_12_method_80_code 4 = .ok (.ifCond .eq 19, 3) ∧ ((4 : Nat) : Int) + 19 = ((23 : Nat) : Int) ∧ 4 + 3 = 7 := by decide +kernel
theorem D_JS_indexOf2_7 : decode prog_12_method_80_code 7 = .ok (.aload_n 0, 1) ∧ 7 + 1 = 8 := by decide +kernel
theorem D_JS_indexOf2_8 : decode prog_12_method_80_code 8 = .ok (.getfield 9, 3) ∧ 8 + 3 = 11 := by decide +kernel
theorem D_JS_indexOf2_11 : decode prog_12_method_80_code 11 = .ok (.iload_n 1, 1) ∧ 11 + 1 = 12 := by decide +kernel
theorem D_JS_indexOf2_12 : decode prog_12_method_80_code 12 = .ok (.iload_n 2, 1) ∧ 12 + 1 = 13 := by decide +kernel
theorem D_JS_indexOf2_13 : decode prog_12_method_80_code 13 = .ok (.aload_n 0, 1) ∧ 13 + 1 = 14 := by decide +kernel
theorem D_JS_indexOf2_14 : decode prog_12_method_80_code 14 = .ok (.invokevirtual 505, 3) ∧ 14 + 3 = 17 := by decide +kernel
theorem D_JS_indexOf2_17 : decode prog_12_method_80_code 17 = .ok (.invokestatic 637, 3) ∧ 17 + 3 = 20 := by decide +kernel
theorem D_JS_indexOf2_20 : decode prog_12_method_80_code 20 = .ok (.goto 16, 3) ∧ ((20 : Nat) : Int) + 16 = ((36 : Nat) : Int) := by decide +kernel
theorem D_JS_indexOf2_36 : decode prog_12_method_80_code 36 = .ok (.ireturn, 1) := by decide +kernel
def f_JS_indexOf2 (N : Nat) (p : Nat) (a1 : Int32) (a2 : Int32) (mem : Mm) : Option (Int32) := bp (f_JS_isLatin1 p mem) fun r_1 => if r_1 = 0 then none else bp (f_JS_length p mem) fun r_14 => bp (f_JL_indexOf N p a1 a2 r_14 mem) fun r_17 => some r_17
theorem c_JS_indexOf2 (l : Launch) (E : En) (N : Nat) (p : Nat) (hp : p < 6) (a1 : Int32) (a2 : Int32) {mem : Mm} {r : Int32} (h : f_JS_indexOf2 N p a1 a2 mem = some r) : CtI l E 2 y_JS_indexOf2 prog_12_method_80_code 3 (some .int) [.ref (ek E p), .int a1, .int a2] SH mem r mem := by
  refine mk_CtI ⟨by decide, (Nat.le_of_ble_eq_true rfl)⟩ (fun X S hl hR => ?_)
  have S : Std X E prog_12_method_80_code RJS 3 2 := S
  show J X E 3 0 [(0, .ref (ek E p)), (1, .int a1), (2, .int a2)] [] SH mem
  unfold f_JS_indexOf2 at h
  refine j_aload_n S D_JS_indexOf2_0 0 rfl rfl ?_
  obtain ⟨r_1, e_1, h⟩ := bpE h
  refine j_callTI (As := []) S D_JS_indexOf2_1 mv_RJS_492 (c_JS_isLatin1 (cxL X) E p hp e_1) (by decide) hp rfl rfl rfl (Nat.le_of_ble_eq_true rfl) ?_
  refine j_if_eq S D_JS_indexOf2_4 (fun c_4 => ?_) (fun c_4 => ?_)
  · have h := ifT c_4 h
    cases h
  · have h := ifF c_4 h
    refine j_aload_n S D_JS_indexOf2_7 0 rfl rfl ?_
    refine j_strV S D_JS_indexOf2_8 gs_RJS_9 hp ?_
    refine j_iload_n S D_JS_indexOf2_11 1 rfl rfl ?_
    refine j_iload_n S D_JS_indexOf2_12 2 rfl rfl ?_
    refine j_aload_n S D_JS_indexOf2_13 0 rfl rfl ?_
    obtain ⟨r_14, e_14, h⟩ := bpE h
    refine j_callTI (As := []) S D_JS_indexOf2_14 mv_RJS_505 (c_JS_length (cxL X) E p hp e_14) (by decide) hp rfl rfl rfl (Nat.le_of_ble_eq_true rfl) ?_
    obtain ⟨r_17, e_17, h⟩ := bpE h
    refine j_callSI (As := [.ref (ev E p), .int a1, .int a2, .int r_14]) S D_JS_indexOf2_17 ms_RJS_637 (c_JL_indexOf (cxL X) E N p hp a1 a2 r_14 e_17) (by decide) rfl rfl (Nat.le_of_ble_eq_true rfl) ?_
    refine j_goto S D_JS_indexOf2_20 ?_
    exact rtI hR h _ _ D_JS_indexOf2_36

def y_JS_indexOf : MethodName := ⟨"java/lang/String", "indexOf", "(I)I"⟩
theorem D_JS_indexOf_0 : decode prog_12_method_79_code 0 = .ok (.aload_n 0, 1) ∧ 0 + 1 = 1 := by decide +kernel
theorem D_JS_indexOf_1 : decode prog_12_method_79_code 1 = .ok (.iload_n 1, 1) ∧ 1 + 1 = 2 := by decide +kernel
theorem D_JS_indexOf_2 : decode prog_12_method_79_code 2 = .ok (.iconst 0, 1) ∧ 2 + 1 = 3 := by decide +kernel
theorem D_JS_indexOf_3 : decode prog_12_method_79_code 3 = .ok (.invokevirtual 633, 3) ∧ 3 + 3 = 6 := by decide +kernel
theorem D_JS_indexOf_6 : decode prog_12_method_79_code 6 = .ok (.ireturn, 1) := by decide +kernel
def f_JS_indexOf (N : Nat) (p : Nat) (a1 : Int32) (mem : Mm) : Option (Int32) := bp (f_JS_indexOf2 N p a1 0 mem) fun r_3 => some r_3
theorem c_JS_indexOf (l : Launch) (E : En) (N : Nat) (p : Nat) (hp : p < 6) (a1 : Int32) {mem : Mm} {r : Int32} (h : f_JS_indexOf N p a1 mem = some r) : CtI l E 3 y_JS_indexOf prog_12_method_79_code 2 (some .int) [.ref (ek E p), .int a1] SH mem r mem := by
  refine mk_CtI ⟨by decide, (Nat.le_of_ble_eq_true rfl)⟩ (fun X S hl hR => ?_)
  have S : Std X E prog_12_method_79_code RJS 2 3 := S
  show J X E 2 0 [(0, .ref (ek E p)), (1, .int a1)] [] SH mem
  unfold f_JS_indexOf at h
  refine j_aload_n S D_JS_indexOf_0 0 rfl rfl ?_
  refine j_iload_n S D_JS_indexOf_1 1 rfl rfl ?_
  refine j_iconst S D_JS_indexOf_2 ci_0 ?_
  obtain ⟨r_3, e_3, h⟩ := bpE h
  refine j_callTI (As := [.int a1, .int 0]) S D_JS_indexOf_3 mv_RJS_633 (c_JS_indexOf2 (cxL X) E N p hp a1 0 e_3) (by decide) hp rfl rfl rfl (Nat.le_of_ble_eq_true rfl) ?_
  exact rtI hR h _ _ D_JS_indexOf_6

def y_T_keyWord : MethodName := ⟨"SandPicture$Tape", "keyWord", "(I)Ljava/lang/String;"⟩
theorem D_T_keyWord_0 : decode prog_6_method_10_code 0 = .ok (.iload_n 0, 1) ∧ 0 + 1 = 1 := by decide +kernel
theorem D_T_keyWord_1 : decode prog_6_method_10_code 1 = .ok (.ifCond .ne 8, 3) ∧ ((1 : Nat) : Int) + 8 = ((9 : Nat) : Int) ∧ 1 + 3 = 4 := by decide +kernel
theorem D_T_keyWord_9 : decode prog_6_method_10_code 9 = .ok (.iload_n 0, 1) ∧ 9 + 1 = 10 := by decide +kernel
theorem D_T_keyWord_10 : decode prog_6_method_10_code 10 = .ok (.iconst 1, 1) ∧ 10 + 1 = 11 := by decide +kernel
theorem D_T_keyWord_11 : decode prog_6_method_10_code 11 = .ok (.if_icmp .ne 8, 3) ∧ ((11 : Nat) : Int) + 8 = ((19 : Nat) : Int) ∧ 11 + 3 = 14 := by decide +kernel
theorem D_T_keyWord_19 : decode prog_6_method_10_code 19 = .ok (.ldc 83, 2) ∧ 19 + 2 = 21 := by decide +kernel
theorem D_T_keyWord_21 : decode prog_6_method_10_code 21 = .ok (.areturn, 1) := by decide +kernel
theorem D_T_keyWord_14 : decode prog_6_method_10_code 14 = .ok (.ldc 81, 2) ∧ 14 + 2 = 16 := by decide +kernel
theorem D_T_keyWord_16 : decode prog_6_method_10_code 16 = .ok (.goto 5, 3) ∧ ((16 : Nat) : Int) + 5 = ((21 : Nat) : Int) := by decide +kernel
theorem D_T_keyWord_4 : decode prog_6_method_10_code 4 = .ok (.ldc 79, 2) ∧ 4 + 2 = 6 := by decide +kernel
theorem D_T_keyWord_6 : decode prog_6_method_10_code 6 = .ok (.goto 15, 3) ∧ ((6 : Nat) : Int) + 15 = ((21 : Nat) : Int) := by decide +kernel
def f_T_keyWord (a1 : Int32) : Option (Nat) := if a1 = 0 then some 0 else if a1 = 1 then some 1 else some 2
theorem c_T_keyWord (l : Launch) (E : En) (a1 : Int32) {mem : Mm} {r : Nat} (h : f_T_keyWord a1 = some r) : CtR l E 0 y_T_keyWord prog_6_method_10_code 1 (some (.object "java/lang/String")) [.int a1] SH mem r := by
  refine mk_CtR ⟨by decide, (Nat.le_of_ble_eq_true rfl)⟩ (fun X S hl hR => ?_)
  have S : Std X E prog_6_method_10_code R3 1 0 := S
  show J X E 1 0 [(0, .int a1)] [] SH mem
  unfold f_T_keyWord at h
  refine j_iload_n S D_T_keyWord_0 0 rfl rfl ?_
  refine j_if_ne S D_T_keyWord_1 (fun c_1 => ?_) (fun c_1 => ?_)
  · have h := ifF c_1 h
    refine j_iload_n S D_T_keyWord_9 0 rfl rfl ?_
    refine j_iconst S D_T_keyWord_10 ci_1 ?_
    refine j_icmp_ne S D_T_keyWord_11 (fun c_11 => ?_) (fun c_11 => ?_)
    · have h := ifF c_11 h
      refine j_ldcS S D_T_keyWord_19 (i := 2) S.2.2.2.2.2.2.1.2.1.2.2.1 ?_
      exact rtR hR h _ _ D_T_keyWord_21
    · have h := ifT c_11 h
      refine j_ldcS S D_T_keyWord_14 (i := 1) S.2.2.2.2.2.2.1.2.1.2.1 ?_
      refine j_goto S D_T_keyWord_16 ?_
      exact rtR hR h _ _ D_T_keyWord_21
  · have h := ifT c_1 h
    refine j_ldcS S D_T_keyWord_4 (i := 0) S.2.2.2.2.2.2.1.2.1.1 ?_
    refine j_goto S D_T_keyWord_6 ?_
    exact rtR hR h _ _ D_T_keyWord_21
theorem hstr_T_keyWord {a : Int32} {r : Nat} (h : f_T_keyWord a = some r) : r < 6 := by
  unfold f_T_keyWord at h
  by_cases h1 : a = 0
  · rw [if_pos h1] at h; cases h; decide
  · rw [if_neg h1] at h
    by_cases h2 : a = 1
    · rw [if_pos h2] at h; cases h; decide
    · rw [if_neg h2] at h; cases h; decide

def y_T_namesOf : MethodName := ⟨"SandPicture$Tape", "namesOf", "(I)Ljava/lang/String;"⟩
theorem D_T_namesOf_0 : decode prog_6_method_11_code 0 = .ok (.iload_n 0, 1) ∧ 0 + 1 = 1 := by decide +kernel
theorem D_T_namesOf_1 : decode prog_6_method_11_code 1 = .ok (.ifCond .ne 8, 3) ∧ ((1 : Nat) : Int) + 8 = ((9 : Nat) : Int) ∧ 1 + 3 = 4 := by decide +kernel
theorem D_T_namesOf_9 : decode prog_6_method_11_code 9 = .ok (.iload_n 0, 1) ∧ 9 + 1 = 10 := by decide +kernel
theorem D_T_namesOf_10 : decode prog_6_method_11_code 10 = .ok (.iconst 1, 1) ∧ 10 + 1 = 11 := by decide +kernel
theorem D_T_namesOf_11 : decode prog_6_method_11_code 11 = .ok (.if_icmp .ne 8, 3) ∧ ((11 : Nat) : Int) + 8 = ((19 : Nat) : Int) ∧ 11 + 3 = 14 := by decide +kernel
theorem D_T_namesOf_19 : decode prog_6_method_11_code 19 = .ok (.ldc 89, 2) ∧ 19 + 2 = 21 := by decide +kernel
theorem D_T_namesOf_21 : decode prog_6_method_11_code 21 = .ok (.areturn, 1) := by decide +kernel
theorem D_T_namesOf_14 : decode prog_6_method_11_code 14 = .ok (.ldc 87, 2) ∧ 14 + 2 = 16 := by decide +kernel
theorem D_T_namesOf_16 : decode prog_6_method_11_code 16 = .ok (.goto 5, 3) ∧ ((16 : Nat) : Int) + 5 = ((21 : Nat) : Int) := by decide +kernel
theorem D_T_namesOf_4 : decode prog_6_method_11_code 4 = .ok (.ldc 85, 2) ∧ 4 + 2 = 6 := by decide +kernel
theorem D_T_namesOf_6 : decode prog_6_method_11_code 6 = .ok (.goto 15, 3) ∧ ((6 : Nat) : Int) + 15 = ((21 : Nat) : Int) := by decide +kernel
def f_T_namesOf (a1 : Int32) : Option (Nat) := if a1 = 0 then some 3 else if a1 = 1 then some 4 else some 5
theorem c_T_namesOf (l : Launch) (E : En) (a1 : Int32) {mem : Mm} {r : Nat} (h : f_T_namesOf a1 = some r) : CtR l E 0 y_T_namesOf prog_6_method_11_code 1 (some (.object "java/lang/String")) [.int a1] SH mem r := by
  refine mk_CtR ⟨by decide, (Nat.le_of_ble_eq_true rfl)⟩ (fun X S hl hR => ?_)
  have S : Std X E prog_6_method_11_code R3 1 0 := S
  show J X E 1 0 [(0, .int a1)] [] SH mem
  unfold f_T_namesOf at h
  refine j_iload_n S D_T_namesOf_0 0 rfl rfl ?_
  refine j_if_ne S D_T_namesOf_1 (fun c_1 => ?_) (fun c_1 => ?_)
  · have h := ifF c_1 h
    refine j_iload_n S D_T_namesOf_9 0 rfl rfl ?_
    refine j_iconst S D_T_namesOf_10 ci_1 ?_
    refine j_icmp_ne S D_T_namesOf_11 (fun c_11 => ?_) (fun c_11 => ?_)
    · have h := ifF c_11 h
      refine j_ldcS S D_T_namesOf_19 (i := 5) S.2.2.2.2.2.2.1.2.1.2.2.2.2.2 ?_
      exact rtR hR h _ _ D_T_namesOf_21
    · have h := ifT c_11 h
      refine j_ldcS S D_T_namesOf_14 (i := 4) S.2.2.2.2.2.2.1.2.1.2.2.2.2.1 ?_
      refine j_goto S D_T_namesOf_16 ?_
      exact rtR hR h _ _ D_T_namesOf_21
  · have h := ifT c_1 h
    refine j_ldcS S D_T_namesOf_4 (i := 3) S.2.2.2.2.2.2.1.2.1.2.2.2.1 ?_
    refine j_goto S D_T_namesOf_6 ?_
    exact rtR hR h _ _ D_T_namesOf_21
theorem hstr_T_namesOf {a : Int32} {r : Nat} (h : f_T_namesOf a = some r) : r < 6 := by
  unfold f_T_namesOf at h
  by_cases h1 : a = 0
  · rw [if_pos h1] at h; cases h; decide
  · rw [if_neg h1] at h
    by_cases h2 : a = 1
    · rw [if_pos h2] at h; cases h; decide
    · rw [if_neg h2] at h; cases h; decide

def y_T_wordIs : MethodName := ⟨"SandPicture$Tape", "wordIs", "(Ljava/lang/String;)Z"⟩
theorem D_T_wordIs_0 : decode prog_6_method_12_code 0 = .ok (.aload_n 0, 1) ∧ 0 + 1 = 1 := by decide +kernel
theorem D_T_wordIs_1 : decode prog_6_method_12_code 1 = .ok (.getfield 22, 3) ∧ 1 + 3 = 4 := by decide +kernel
theorem D_T_wordIs_4 : decode prog_6_method_12_code 4 = .ok (.aload_n 0, 1) ∧ 4 + 1 = 5 := by decide +kernel
theorem D_T_wordIs_5 : decode prog_6_method_12_code 5 = .ok (.getfield 19, 3) ∧ 5 + 3 = 8 := by decide +kernel
theorem D_T_wordIs_8 : decode prog_6_method_12_code 8 = .ok (.isub, 1) ∧ 8 + 1 = 9 := by decide +kernel
theorem D_T_wordIs_9 : decode prog_6_method_12_code 9 = .ok (.aload_n 1, 1) ∧ 9 + 1 = 10 := by decide +kernel
theorem D_T_wordIs_10 : decode prog_6_method_12_code 10 = .ok (.invokevirtual 91, 3) ∧ 10 + 3 = 13 := by decide +kernel
theorem D_T_wordIs_13 : decode prog_6_method_12_code 13 = .ok (.if_icmp .eq 5, 3) ∧ ((13 : Nat) : Int) + 5 = ((18 : Nat) : Int) ∧ 13 + 3 = 16 := by decide +kernel
theorem D_T_wordIs_18 : decode prog_6_method_12_code 18 = .ok (.iconst 0, 1) ∧ 18 + 1 = 19 := by decide +kernel
theorem D_T_wordIs_19 : decode prog_6_method_12_code 19 = .ok (.istore_n 2, 1) ∧ 19 + 1 = 20 := by decide +kernel
theorem D_T_wordIs_20 : decode prog_6_method_12_code 20 = .ok (.iload_n 2, 1) ∧ 20 + 1 = 21 := by decide +kernel
theorem D_T_wordIs_21 : decode prog_6_method_12_code 21 = .ok (.aload_n 1, 1) ∧ 21 + 1 = 22 := by decide +kernel
theorem D_T_wordIs_22 : decode prog_6_method_12_code 22 = .ok (.invokevirtual 91, 3) ∧ 22 + 3 = 25 := by decide +kernel
theorem D_T_wordIs_25 : decode prog_6_method_12_code 25 = .ok (.if_icmp .ge 30, 3) ∧ ((25 : Nat) : Int) + 30 = ((55 : Nat) : Int) ∧ 25 + 3 = 28 := by decide +kernel
theorem D_T_wordIs_55 : decode prog_6_method_12_code 55 = .ok (.iconst 1, 1) ∧ 55 + 1 = 56 := by decide +kernel
theorem D_T_wordIs_56 : decode prog_6_method_12_code 56 = .ok (.ireturn, 1) := by decide +kernel
theorem D_T_wordIs_28 : decode prog_6_method_12_code 28 = .ok (.aload_n 0, 1) ∧ 28 + 1 = 29 := by decide +kernel
theorem D_T_wordIs_29 : decode prog_6_method_12_code 29 = .ok (.getfield 15, 3) ∧ 29 + 3 = 32 := by decide +kernel
theorem D_T_wordIs_32 : decode prog_6_method_12_code 32 = .ok (.aload_n 0, 1) ∧ 32 + 1 = 33 := by decide +kernel
theorem D_T_wordIs_33 : decode prog_6_method_12_code 33 = .ok (.getfield 19, 3) ∧ 33 + 3 = 36 := by decide +kernel
theorem D_T_wordIs_36 : decode prog_6_method_12_code 36 = .ok (.iload_n 2, 1) ∧ 36 + 1 = 37 := by decide +kernel
theorem D_T_wordIs_37 : decode prog_6_method_12_code 37 = .ok (.iadd, 1) ∧ 37 + 1 = 38 := by decide +kernel
theorem D_T_wordIs_38 : decode prog_6_method_12_code 38 = .ok (.iaload, 1) ∧ 38 + 1 = 39 := by decide +kernel
theorem D_T_wordIs_39 : decode prog_6_method_12_code 39 = .ok (.aload_n 1, 1) ∧ 39 + 1 = 40 := by decide +kernel
theorem D_T_wordIs_40 : decode prog_6_method_12_code 40 = .ok (.iload_n 2, 1) ∧ 40 + 1 = 41 := by decide +kernel
theorem D_T_wordIs_41 : decode prog_6_method_12_code 41 = .ok (.invokevirtual 96, 3) ∧ 41 + 3 = 44 := by decide +kernel
theorem D_T_wordIs_44 : decode prog_6_method_12_code 44 = .ok (.if_icmp .eq 5, 3) ∧ ((44 : Nat) : Int) + 5 = ((49 : Nat) : Int) ∧ 44 + 3 = 47 := by decide +kernel
theorem D_T_wordIs_49 : decode prog_6_method_12_code 49 = .ok (.iinc 2 1, 3) ∧ 49 + 3 = 52 := by decide +kernel
theorem D_T_wordIs_52 : decode prog_6_method_12_code 52 = .ok (.goto (-32), 3) ∧ ((52 : Nat) : Int) + (-32) = ((20 : Nat) : Int) := by decide +kernel
theorem D_T_wordIs_47 : decode prog_6_method_12_code 47 = .ok (.iconst 0, 1) ∧ 47 + 1 = 48 := by decide +kernel
theorem D_T_wordIs_48 : decode prog_6_method_12_code 48 = .ok (.ireturn, 1) := by decide +kernel
theorem D_T_wordIs_16 : decode prog_6_method_12_code 16 = .ok (.iconst 0, 1) ∧ 16 + 1 = 17 := by decide +kernel
theorem D_T_wordIs_17 : decode prog_6_method_12_code 17 = .ok (.ireturn, 1) := by decide +kernel
def f_T_wordIs_L20 (o1 : Nat) : Nat → Int32 → Mm → Option Int32
  | 0, _, _ => none
  | n + 1, b2, mem => bp (f_JS_length o1 mem) fun r_22 => if r_22 ≤ b2 then some 1 else if inb ((mem 2 2) + b2) 96 = true then bp (f_JS_charAt o1 b2 mem) fun r_41 => if mem 3 (ix ((mem 2 2) + b2)) = r_41 then f_T_wordIs_L20 o1 n (b2 + 1) mem else some 0 else none
def f_T_wordIs (N : Nat) (o1 : Nat) (mem : Mm) : Option (Int32) := bp (f_JS_length o1 mem) fun r_10 => if (mem 2 3) - (mem 2 2) = r_10 then f_T_wordIs_L20 o1 N 0 mem else some 0
theorem L_T_wordIs_20 {X : Cx} {E : En} (S : Std X E prog_6_method_12_code R3 3 4) (o1 : Nat) (ho1 : o1 < 6) {r : Int32} {mem : Mm} (hR : isb r = true → RetI X E prog_6_method_12_code 3 SH r mem) : ∀ (n : Nat) (b2 : Int32), f_T_wordIs_L20 o1 n b2 mem = some r → J X E 3 20 [(0, .ref (eb E + 2)), (1, .ref (ek E o1)), (2, .int b2)] [] SH mem := by
  intro n
  induction n with
  | zero =>
    intro b2 h; cases h
  | succ n ih =>
    intro b2 h
    rw [f_T_wordIs_L20] at h
    refine j_iload_n S D_T_wordIs_20 2 rfl rfl ?_
    refine j_aload_n S D_T_wordIs_21 1 rfl rfl ?_
    obtain ⟨r_22, e_22, h⟩ := bpE h
    refine j_callTI (As := []) S D_T_wordIs_22 mv_R3_91 (c_JS_length (cxL X) E o1 ho1 e_22) (by decide) ho1 rfl rfl rfl (Nat.le_of_ble_eq_true rfl) ?_
    refine j_icmp_ge S D_T_wordIs_25 (fun c_25 => ?_) (fun c_25 => ?_)
    · have h := ifT c_25 h
      refine j_iconst S D_T_wordIs_55 ci_1 ?_
      exact rtIZ hR h isb1 _ _ D_T_wordIs_56
    · have h := ifF c_25 h
      refine j_aload_n S D_T_wordIs_28 0 rfl rfl ?_
      refine j_getR S D_T_wordIs_29 fl_R3_15 sh_Tape rfl ?_
      refine j_aload_n S D_T_wordIs_32 0 rfl rfl ?_
      refine j_getI S D_T_wordIs_33 fl_R3_19 sh_Tape rfl ?_
      refine j_iload_n S D_T_wordIs_36 2 rfl rfl ?_
      refine j_iadd S D_T_wordIs_37 ?_
      obtain ⟨g_38, h⟩ := gdE h
      refine j_iald S D_T_wordIs_38 sh_3 g_38 ?_
      refine j_aload_n S D_T_wordIs_39 1 rfl rfl ?_
      refine j_iload_n S D_T_wordIs_40 2 rfl rfl ?_
      obtain ⟨r_41, e_41, h⟩ := bpE h
      refine j_callTI (As := [.int b2]) S D_T_wordIs_41 mv_R3_96 (c_JS_charAt (cxL X) E o1 ho1 b2 e_41) (by decide) ho1 rfl rfl rfl (Nat.le_of_ble_eq_true rfl) ?_
      refine j_icmp_eq S D_T_wordIs_44 (fun c_44 => ?_) (fun c_44 => ?_)
      · have h := ifT c_44 h
        refine j_iinc S D_T_wordIs_49 2 rfl (congrArg (fun z => b2 + z) ci_1) (lv := [(2, .int (b2 + 1)), (0, .ref (eb E + 2)), (1, .ref (ek E o1))]) rfl (Nat.le_of_ble_eq_true rfl) ?_
        refine j_goto S D_T_wordIs_52 ?_
        refine j_locals [1, 2, 0] rfl (ih (b2 + 1) h)
      · have h := ifF c_44 h
        refine j_iconst S D_T_wordIs_47 ci_0 ?_
        exact rtIZ hR h isb0 _ _ D_T_wordIs_48
theorem c_T_wordIs (l : Launch) (E : En) (N : Nat) (o1 : Nat) (ho1 : o1 < 6) {mem : Mm} {r : Int32} (h : f_T_wordIs N o1 mem = some r) : CtI l E 4 y_T_wordIs prog_6_method_12_code 3 (some .boolean) [.ref (eb E + 2), .ref (ek E o1)] SH mem r mem := by
  refine mk_CtZ ⟨by decide, (Nat.le_of_ble_eq_true rfl)⟩ (fun X S hl hR => ?_)
  have S : Std X E prog_6_method_12_code R3 3 4 := S
  show J X E 3 0 [(0, .ref (eb E + 2)), (1, .ref (ek E o1))] [] SH mem
  unfold f_T_wordIs at h
  refine j_aload_n S D_T_wordIs_0 0 rfl rfl ?_
  refine j_getI S D_T_wordIs_1 fl_R3_22 sh_Tape rfl ?_
  refine j_aload_n S D_T_wordIs_4 0 rfl rfl ?_
  refine j_getI S D_T_wordIs_5 fl_R3_19 sh_Tape rfl ?_
  refine j_isub S D_T_wordIs_8 ?_
  refine j_aload_n S D_T_wordIs_9 1 rfl rfl ?_
  obtain ⟨r_10, e_10, h⟩ := bpE h
  refine j_callTI (As := []) S D_T_wordIs_10 mv_R3_91 (c_JS_length (cxL X) E o1 ho1 e_10) (by decide) ho1 rfl rfl rfl (Nat.le_of_ble_eq_true rfl) ?_
  refine j_icmp_eq S D_T_wordIs_13 (fun c_13 => ?_) (fun c_13 => ?_)
  · have h := ifT c_13 h
    refine j_iconst S D_T_wordIs_18 ci_0 ?_
    refine j_istore_n S D_T_wordIs_19 (lv := [(2, .int 0), (0, .ref (eb E + 2)), (1, .ref (ek E o1))]) rfl ⟨rfl, (Nat.le_of_ble_eq_true rfl)⟩ ?_
    refine j_locals [1, 2, 0] rfl ?_
    exact L_T_wordIs_20 S o1 ho1 hR N 0 h
  · have h := ifF c_13 h
    refine j_iconst S D_T_wordIs_16 ci_0 ?_
    exact rtIZ hR h isb0 _ _ D_T_wordIs_17

def y_T_readKey : MethodName := ⟨"SandPicture$Tape", "readKey", "(LSandPicture$Text;)V"⟩
theorem D_T_readKey_0 : decode prog_6_method_9_code 0 = .ok (.iconst 0, 1) ∧ 0 + 1 = 1 := by decide +kernel
theorem D_T_readKey_1 : decode prog_6_method_9_code 1 = .ok (.istore_n 2, 1) ∧ 1 + 1 = 2 := by decide +kernel
theorem D_T_readKey_2 : decode prog_6_method_9_code 2 = .ok (.iload_n 2, 1) ∧ 2 + 1 = 3 := by decide +kernel
theorem D_T_readKey_3 : decode prog_6_method_9_code 3 = .ok (.iconst 3, 1) ∧ 3 + 1 = 4 := by decide +kernel
theorem D_T_readKey_4 : decode prog_6_method_9_code 4 = .ok (.if_icmp .ge 30, 3) ∧ ((4 : Nat) : Int) + 30 = ((34 : Nat) : Int) ∧ 4 + 3 = 7 := by decide +kernel
theorem D_T_readKey_34 : decode prog_6_method_9_code 34 = .ok (.aload_n 0, 1) ∧ 34 + 1 = 35 := by decide +kernel
theorem D_T_readKey_35 : decode prog_6_method_9_code 35 = .ok (.invokevirtual 52, 3) ∧ 35 + 3 = 38 := by decide +kernel
theorem D_T_readKey_38 : decode prog_6_method_9_code 38 = .ok (.return_, 1) := by decide +kernel
theorem D_T_readKey_7 : decode prog_6_method_9_code 7 = .ok (.aload_n 0, 1) ∧ 7 + 1 = 8 := by decide +kernel
theorem D_T_readKey_8 : decode prog_6_method_9_code 8 = .ok (.iload_n 2, 1) ∧ 8 + 1 = 9 := by decide +kernel
theorem D_T_readKey_9 : decode prog_6_method_9_code 9 = .ok (.invokestatic 68, 3) ∧ 9 + 3 = 12 := by decide +kernel
theorem D_T_readKey_12 : decode prog_6_method_9_code 12 = .ok (.invokevirtual 72, 3) ∧ 12 + 3 = 15 := by decide +kernel
theorem D_T_readKey_15 : decode prog_6_method_9_code 15 = .ok (.ifCond .eq 13, 3) ∧ ((15 : Nat) : Int) + 13 = ((28 : Nat) : Int) ∧ 15 + 3 = 18 := by decide +kernel
theorem D_T_readKey_28 : decode prog_6_method_9_code 28 = .ok (.iinc 2 1, 3) ∧ 28 + 3 = 31 := by decide +kernel
theorem D_T_readKey_31 : decode prog_6_method_9_code 31 = .ok (.goto (-29), 3) ∧ ((31 : Nat) : Int) + (-29) = ((2 : Nat) : Int) := by decide +kernel
theorem D_T_readKey_18 : decode prog_6_method_9_code 18 = .ok (.aload_n 1, 1) ∧ 18 + 1 = 19 := by decide +kernel
theorem D_T_readKey_19 : decode prog_6_method_9_code 19 = .ok (.iload_n 2, 1) ∧ 19 + 1 = 20 := by decide +kernel
theorem D_T_readKey_20 : decode prog_6_method_9_code 20 = .ok (.putfield 76, 3) ∧ 20 + 3 = 23 := by decide +kernel
theorem D_T_readKey_23 : decode prog_6_method_9_code 23 = .ok (.aload_n 0, 1) ∧ 23 + 1 = 24 := by decide +kernel
theorem D_T_readKey_24 : decode prog_6_method_9_code 24 = .ok (.invokevirtual 37, 3) ∧ 24 + 3 = 27 := by decide +kernel
theorem D_T_readKey_27 : decode prog_6_method_9_code 27 = .ok (.return_, 1) := by decide +kernel
def f_T_readKey_L2 (N : Nat) (o1 : Nat) : Nat → Int32 → Mm → Option Mm
  | 0, _, _ => none
  | n + 1, b2, mem => if 3 ≤ b2 then bp (f_T_fail mem) fun m_35 => some m_35 else bp (f_T_keyWord b2) fun r_9 => bp (f_T_wordIs N r_9 mem) fun r_12 => if r_12 = 0 then f_T_readKey_L2 N o1 n (b2 + 1) mem else lt (mst mem o1 0 b2) fun m_20 => bp (f_T_step N m_20) fun m_24 => some m_24
def f_T_readKey (N : Nat) (o1 : Nat) (mem : Mm) : Option (Mm) := f_T_readKey_L2 N o1 N 0 mem
theorem L_T_readKey_2 {X : Cx} {E : En} (S : Std X E prog_6_method_9_code R3 3 5) (N : Nat) (o1 : Nat) (ho1 : isTxt o1) {m2 : Mm} (hR : RetV X E prog_6_method_9_code 3 SH m2) : ∀ (n : Nat) (b2 : Int32) (mem : Mm), f_T_readKey_L2 N o1 n b2 mem = some m2 → J X E 3 2 [(0, .ref (eb E + 2)), (1, .ref (eb E + o1)), (2, .int b2)] [] SH mem := by
  intro n
  induction n with
  | zero =>
    intro b2 mem h; cases h
  | succ n ih =>
    intro b2 mem h
    rw [f_T_readKey_L2] at h
    refine j_iload_n S D_T_readKey_2 2 rfl rfl ?_
    refine j_iconst S D_T_readKey_3 ci_3 ?_
    refine j_icmp_ge S D_T_readKey_4 (fun c_4 => ?_) (fun c_4 => ?_)
    · have h := ifT c_4 h
      refine j_aload_n S D_T_readKey_34 0 rfl rfl ?_
      obtain ⟨m_35, e_35, h⟩ := bpE h
      refine j_callVV (As := []) S D_T_readKey_35 mv_R3_52 (c_T_fail (cxL X) E e_35) (by decide) sh_Tape rfl rfl rfl rfl (Nat.le_of_ble_eq_true rfl) ?_
      exact rtV hR h _ _ D_T_readKey_38
    · have h := ifF c_4 h
      refine j_aload_n S D_T_readKey_7 0 rfl rfl ?_
      refine j_iload_n S D_T_readKey_8 2 rfl rfl ?_
      obtain ⟨r_9, e_9, h⟩ := bpE h
      refine j_callSR (As := [.int b2]) S D_T_readKey_9 ms_R3_68 (c_T_keyWord (cxL X) E b2 (mem := mem) e_9) (by decide) rfl rfl (Nat.le_of_ble_eq_true rfl) ?_
      obtain ⟨r_12, e_12, h⟩ := bpE h
      refine j_callVI (As := [.ref (ek E r_9)]) S D_T_readKey_12 mv_R3_72 (c_T_wordIs (cxL X) E N r_9 (hstr_T_keyWord e_9) e_12) (by decide) sh_Tape rfl rfl rfl rfl (Nat.le_of_ble_eq_true rfl) ?_
      refine j_if_eq S D_T_readKey_15 (fun c_15 => ?_) (fun c_15 => ?_)
      · have h := ifT c_15 h
        refine j_iinc S D_T_readKey_28 2 rfl (congrArg (fun z => b2 + z) ci_1) (lv := [(2, .int (b2 + 1)), (0, .ref (eb E + 2)), (1, .ref (eb E + o1))]) rfl (Nat.le_of_ble_eq_true rfl) ?_
        refine j_goto S D_T_readKey_31 ?_
        refine j_locals [1, 2, 0] rfl (ih (b2 + 1) mem h)
      · have h := ifF c_15 h
        refine j_aload_n S D_T_readKey_18 1 rfl rfl ?_
        refine j_iload_n S D_T_readKey_19 2 rfl rfl ?_
        obtain ⟨m_20, hm_20, h⟩ := ltE h
        refine j_putI S D_T_readKey_20 fp_R3_76 (sh_txt ho1) rfl ?_
        refine j_mem hm_20 ?_
        refine j_aload_n S D_T_readKey_23 0 rfl rfl ?_
        obtain ⟨m_24, e_24, h⟩ := bpE h
        refine j_callVV (As := []) S D_T_readKey_24 mv_R3_37 (c_T_step (cxL X) E N e_24) (by decide) sh_Tape rfl rfl rfl rfl (Nat.le_of_ble_eq_true rfl) ?_
        exact rtV hR h _ _ D_T_readKey_27
theorem c_T_readKey (l : Launch) (E : En) (N : Nat) (o1 : Nat) (ho1 : isTxt o1) {mem : Mm} {m2 : Mm} (h : f_T_readKey N o1 mem = some m2) : CtV l E 5 y_T_readKey prog_6_method_9_code 3 [.ref (eb E + 2), .ref (eb E + o1)] SH mem m2 := by
  refine mk_CtV ⟨by decide, (Nat.le_of_ble_eq_true rfl)⟩ (fun X S hl hR => ?_)
  have S : Std X E prog_6_method_9_code R3 3 5 := S
  show J X E 3 0 [(0, .ref (eb E + 2)), (1, .ref (eb E + o1))] [] SH mem
  unfold f_T_readKey at h
  refine j_iconst S D_T_readKey_0 ci_0 ?_
  refine j_istore_n S D_T_readKey_1 (lv := [(2, .int 0), (0, .ref (eb E + 2)), (1, .ref (eb E + o1))]) rfl ⟨rfl, (Nat.le_of_ble_eq_true rfl)⟩ ?_
  refine j_locals [1, 2, 0] rfl ?_
  exact L_T_readKey_2 S N o1 ho1 hR N 0 mem h

def y_T_readName : MethodName := ⟨"SandPicture$Tape", "readName", "(LSandPicture$Text;)V"⟩
theorem D_T_readName_0 : decode prog_6_method_17_code 0 = .ok (.aload_n 1, 1) ∧ 0 + 1 = 1 := by decide +kernel
theorem D_T_readName_1 : decode prog_6_method_17_code 1 = .ok (.getfield 76, 3) ∧ 1 + 3 = 4 := by decide +kernel
theorem D_T_readName_4 : decode prog_6_method_17_code 4 = .ok (.invokestatic 121, 3) ∧ 4 + 3 = 7 := by decide +kernel
theorem D_T_readName_7 : decode prog_6_method_17_code 7 = .ok (.aload_n 0, 1) ∧ 7 + 1 = 8 := by decide +kernel
theorem D_T_readName_8 : decode prog_6_method_17_code 8 = .ok (.invokevirtual 48, 3) ∧ 8 + 3 = 11 := by decide +kernel
theorem D_T_readName_11 : decode prog_6_method_17_code 11 = .ok (.i2c, 1) ∧ 11 + 1 = 12 := by decide +kernel
theorem D_T_readName_12 : decode prog_6_method_17_code 12 = .ok (.invokevirtual 124, 3) ∧ 12 + 3 = 15 := by decide +kernel
theorem D_T_readName_15 : decode prog_6_method_17_code 15 = .ok (.istore_n 2, 1) ∧ 15 + 1 = 16 := by decide +kernel
theorem D_T_readName_16 : decode prog_6_method_17_code 16 = .ok (.aload_n 0, 1) ∧ 16 + 1 = 17 := by decide +kernel
theorem D_T_readName_17 : decode prog_6_method_17_code 17 = .ok (.getfield 25, 3) ∧ 17 + 3 = 20 := by decide +kernel
theorem D_T_readName_20 : decode prog_6_method_17_code 20 = .ok (.ifCond .ne 20, 3) ∧ ((20 : Nat) : Int) + 20 = ((40 : Nat) : Int) ∧ 20 + 3 = 23 := by decide +kernel
theorem D_T_readName_40 : decode prog_6_method_17_code 40 = .ok (.aload_n 0, 1) ∧ 40 + 1 = 41 := by decide +kernel
theorem D_T_readName_41 : decode prog_6_method_17_code 41 = .ok (.invokevirtual 52, 3) ∧ 41 + 3 = 44 := by decide +kernel
theorem D_T_readName_44 : decode prog_6_method_17_code 44 = .ok (.return_, 1) := by decide +kernel
theorem D_T_readName_23 : decode prog_6_method_17_code 23 = .ok (.aload_n 0, 1) ∧ 23 + 1 = 24 := by decide +kernel
theorem D_T_readName_24 : decode prog_6_method_17_code 24 = .ok (.getfield 22, 3) ∧ 24 + 3 = 27 := by decide +kernel
theorem D_T_readName_27 : decode prog_6_method_17_code 27 = .ok (.aload_n 0, 1) ∧ 27 + 1 = 28 := by decide +kernel
theorem D_T_readName_28 : decode prog_6_method_17_code 28 = .ok (.getfield 19, 3) ∧ 28 + 3 = 31 := by decide +kernel
theorem D_T_readName_31 : decode prog_6_method_17_code 31 = .ok (.isub, 1) ∧ 31 + 1 = 32 := by decide +kernel
theorem D_T_readName_32 : decode prog_6_method_17_code 32 = .ok (.iconst 1, 1) ∧ 32 + 1 = 33 := by decide +kernel
theorem D_T_readName_33 : decode prog_6_method_17_code 33 = .ok (.if_icmp .ne 7, 3) ∧ ((33 : Nat) : Int) + 7 = ((40 : Nat) : Int) ∧ 33 + 3 = 36 := by decide +kernel
theorem D_T_readName_36 : decode prog_6_method_17_code 36 = .ok (.iload_n 2, 1) ∧ 36 + 1 = 37 := by decide +kernel
theorem D_T_readName_37 : decode prog_6_method_17_code 37 = .ok (.ifCond .ge 8, 3) ∧ ((37 : Nat) : Int) + 8 = ((45 : Nat) : Int) ∧ 37 + 3 = 40 := by decide +kernel
theorem D_T_readName_45 : decode prog_6_method_17_code 45 = .ok (.aload_n 1, 1) ∧ 45 + 1 = 46 := by decide +kernel
theorem D_T_readName_46 : decode prog_6_method_17_code 46 = .ok (.iload_n 2, 1) ∧ 46 + 1 = 47 := by decide +kernel
theorem D_T_readName_47 : decode prog_6_method_17_code 47 = .ok (.invokevirtual 128, 3) ∧ 47 + 3 = 50 := by decide +kernel
theorem D_T_readName_50 : decode prog_6_method_17_code 50 = .ok (.aload_n 0, 1) ∧ 50 + 1 = 51 := by decide +kernel
theorem D_T_readName_51 : decode prog_6_method_17_code 51 = .ok (.invokevirtual 37, 3) ∧ 51 + 3 = 54 := by decide +kernel
theorem D_T_readName_54 : decode prog_6_method_17_code 54 = .ok (.return_, 1) := by decide +kernel
def f_T_readName (N : Nat) (o1 : Nat) (mem : Mm) : Option (Mm) := bp (f_T_namesOf (mem o1 0)) fun r_4 => bp (f_T_here mem) fun r_8 => bp (f_JS_indexOf N r_4 ((r_8.toUInt32 % 65536).toInt32) mem) fun r_12 => if mem 2 4 = 0 then if (mem 2 3) - (mem 2 2) = 1 then if 0 ≤ r_12 then bp (f_X_addName o1 r_12 mem) fun m_47 => bp (f_T_step N m_47) fun m_51 => some m_51 else bp (f_T_fail mem) fun m_41 => some m_41 else bp (f_T_fail mem) fun m_41 => some m_41 else bp (f_T_fail mem) fun m_41 => some m_41
theorem c_T_readName (l : Launch) (E : En) (N : Nat) (o1 : Nat) (ho1 : isTxt o1) {mem : Mm} {m2 : Mm} (h : f_T_readName N o1 mem = some m2) : CtV l E 4 y_T_readName prog_6_method_17_code 3 [.ref (eb E + 2), .ref (eb E + o1)] SH mem m2 := by
  refine mk_CtV ⟨by decide, (Nat.le_of_ble_eq_true rfl)⟩ (fun X S hl hR => ?_)
  have S : Std X E prog_6_method_17_code R3 3 4 := S
  show J X E 3 0 [(0, .ref (eb E + 2)), (1, .ref (eb E + o1))] [] SH mem
  unfold f_T_readName at h
  refine j_aload_n S D_T_readName_0 1 rfl rfl ?_
  refine j_getI S D_T_readName_1 fl_R3_76 (sh_txt ho1) rfl ?_
  obtain ⟨r_4, e_4, h⟩ := bpE h
  refine j_callSR (As := [.int (mem o1 0)]) S D_T_readName_4 ms_R3_121 (c_T_namesOf (cxL X) E (mem o1 0) (mem := mem) e_4) (by decide) rfl rfl (Nat.le_of_ble_eq_true rfl) ?_
  refine j_aload_n S D_T_readName_7 0 rfl rfl ?_
  obtain ⟨r_8, e_8, h⟩ := bpE h
  refine j_callVI (As := []) S D_T_readName_8 mv_R3_48 (c_T_here (cxL X) E e_8) (by decide) sh_Tape rfl rfl rfl rfl (Nat.le_of_ble_eq_true rfl) ?_
  refine j_i2c S D_T_readName_11 ?_
  obtain ⟨r_12, e_12, h⟩ := bpE h
  refine j_callTI (As := [.int ((r_8.toUInt32 % 65536).toInt32)]) S D_T_readName_12 mv_R3_124 (c_JS_indexOf (cxL X) E N r_4 (hstr_T_namesOf e_4) ((r_8.toUInt32 % 65536).toInt32) e_12) (by decide) (hstr_T_namesOf e_4) rfl rfl rfl (Nat.le_of_ble_eq_true rfl) ?_
  refine j_istore_n S D_T_readName_15 (lv := [(2, .int r_12), (0, .ref (eb E + 2)), (1, .ref (eb E + o1))]) rfl ⟨rfl, (Nat.le_of_ble_eq_true rfl)⟩ ?_
  refine j_aload_n S D_T_readName_16 1 rfl rfl ?_
  refine j_getI S D_T_readName_17 fl_R3_25 sh_Tape rfl ?_
  refine j_if_ne S D_T_readName_20 (fun c_20 => ?_) (fun c_20 => ?_)
  · have h := ifF c_20 h
    refine j_aload_n S D_T_readName_40 1 rfl rfl ?_
    obtain ⟨m_41, e_41, h⟩ := bpE h
    refine j_callVV (As := []) S D_T_readName_41 mv_R3_52 (c_T_fail (cxL X) E e_41) (by decide) sh_Tape rfl rfl rfl rfl (Nat.le_of_ble_eq_true rfl) ?_
    exact rtV hR h _ _ D_T_readName_44
  · have h := ifT c_20 h
    refine j_aload_n S D_T_readName_23 1 rfl rfl ?_
    refine j_getI S D_T_readName_24 fl_R3_22 sh_Tape rfl ?_
    refine j_aload_n S D_T_readName_27 1 rfl rfl ?_
    refine j_getI S D_T_readName_28 fl_R3_19 sh_Tape rfl ?_
    refine j_isub S D_T_readName_31 ?_
    refine j_iconst S D_T_readName_32 ci_1 ?_
    refine j_icmp_ne S D_T_readName_33 (fun c_33 => ?_) (fun c_33 => ?_)
    · have h := ifF c_33 h
      refine j_aload_n S D_T_readName_40 1 rfl rfl ?_
      obtain ⟨m_41, e_41, h⟩ := bpE h
      refine j_callVV (As := []) S D_T_readName_41 mv_R3_52 (c_T_fail (cxL X) E e_41) (by decide) sh_Tape rfl rfl rfl rfl (Nat.le_of_ble_eq_true rfl) ?_
      exact rtV hR h _ _ D_T_readName_44
    · have h := ifT c_33 h
      refine j_iload_n S D_T_readName_36 0 rfl rfl ?_
      refine j_if_ge S D_T_readName_37 (fun c_37 => ?_) (fun c_37 => ?_)
      · have h := ifT c_37 h
        refine j_aload_n S D_T_readName_45 2 rfl rfl ?_
        refine j_iload_n S D_T_readName_46 0 rfl rfl ?_
        obtain ⟨m_47, e_47, h⟩ := bpE h
        refine j_callVV (As := [.int r_12]) S D_T_readName_47 mv_R3_128 (c_X_addName (cxL X) E o1 ho1 r_12 e_47) (by decide) (sh_txt ho1) rfl rfl rfl rfl (Nat.le_of_ble_eq_true rfl) ?_
        refine j_aload_n S D_T_readName_50 1 rfl rfl ?_
        obtain ⟨m_51, e_51, h⟩ := bpE h
        refine j_callVV (As := []) S D_T_readName_51 mv_R3_37 (c_T_step (cxL X) E N e_51) (by decide) sh_Tape rfl rfl rfl rfl (Nat.le_of_ble_eq_true rfl) ?_
        exact rtV hR h _ _ D_T_readName_54
      · have h := ifF c_37 h
        refine j_aload_n S D_T_readName_40 1 rfl rfl ?_
        obtain ⟨m_41, e_41, h⟩ := bpE h
        refine j_callVV (As := []) S D_T_readName_41 mv_R3_52 (c_T_fail (cxL X) E e_41) (by decide) sh_Tape rfl rfl rfl rfl (Nat.le_of_ble_eq_true rfl) ?_
        exact rtV hR h _ _ D_T_readName_44
end
section
def y_T_readLevel : MethodName := ⟨"SandPicture$Tape", "readLevel", "(LSandPicture$Text;III)V"⟩
def y_T_readPiece : MethodName := ⟨"SandPicture$Tape", "readPiece", "(LSandPicture$Text;II)V"⟩
def y_T_readLevelF : MethodName := ⟨"SandPicture$Tape", "readLevel", "(LSandPicture$Text;III)V"⟩
theorem D_T_readLevelF_0 : decode prog_6_method_13_code 0 = .ok (.iload_n 2, 1) ∧ 0 + 1 = 1 := by decide +kernel
theorem D_T_readLevelF_1 : decode prog_6_method_13_code 1 = .ok (.iconst 4, 1) ∧ 1 + 1 = 2 := by decide +kernel
theorem D_T_readLevelF_2 : decode prog_6_method_13_code 2 = .ok (.if_icmp .le 12, 3) ∧ ((2 : Nat) : Int) + 12 = ((14 : Nat) : Int) ∧ 2 + 3 = 5 := by decide +kernel
theorem D_T_readLevelF_14 : decode prog_6_method_13_code 14 = .ok (.aload_n 0, 1) ∧ 14 + 1 = 15 := by decide +kernel
theorem D_T_readLevelF_15 : decode prog_6_method_13_code 15 = .ok (.aload_n 1, 1) ∧ 15 + 1 = 16 := by decide +kernel
theorem D_T_readLevelF_16 : decode prog_6_method_13_code 16 = .ok (.iload_n 2, 1) ∧ 16 + 1 = 17 := by decide +kernel
theorem D_T_readLevelF_17 : decode prog_6_method_13_code 17 = .ok (.iconst 1, 1) ∧ 17 + 1 = 18 := by decide +kernel
theorem D_T_readLevelF_18 : decode prog_6_method_13_code 18 = .ok (.iadd, 1) ∧ 18 + 1 = 19 := by decide +kernel
theorem D_T_readLevelF_19 : decode prog_6_method_13_code 19 = .ok (.iload_n 3, 1) ∧ 19 + 1 = 20 := by decide +kernel
theorem D_T_readLevelF_20 : decode prog_6_method_13_code 20 = .ok (.iload 4, 2) ∧ 20 + 2 = 22 := by decide +kernel
theorem D_T_readLevelF_22 : decode prog_6_method_13_code 22 = .ok (.invokevirtual 44, 3) ∧ 22 + 3 = 25 := by decide +kernel
theorem D_T_readLevelF_25 : decode prog_6_method_13_code 25 = .ok (.iload_n 2, 1) ∧ 25 + 1 = 26 := by decide +kernel
theorem D_T_readLevelF_26 : decode prog_6_method_13_code 26 = .ok (.iconst 2, 1) ∧ 26 + 1 = 27 := by decide +kernel
theorem D_T_readLevelF_34 : decode prog_6_method_13_code 34 = .ok (.bipush 96, 2) ∧ 34 + 2 = 36 := by decide +kernel
theorem D_T_readLevelF_30 : decode prog_6_method_13_code 30 = .ok (.iconst 1, 1) ∧ 30 + 1 = 31 := by decide +kernel
theorem D_T_readLevelF_31 : decode prog_6_method_13_code 31 = .ok (.goto 5, 3) ∧ ((31 : Nat) : Int) + 5 = ((36 : Nat) : Int) := by decide +kernel
theorem D_T_readLevelF_27 : decode prog_6_method_13_code 27 = .ok (.if_icmp .ne 7, 3) ∧ ((27 : Nat) : Int) + 7 = ((34 : Nat) : Int) ∧ 27 + 3 = 30 := by decide +kernel
theorem D_T_readLevelF_36 : decode prog_6_method_13_code 36 = .ok (.istore 5, 2) ∧ 36 + 2 = 38 := by decide +kernel
theorem D_T_readLevelF_38 : decode prog_6_method_13_code 38 = .ok (.iconst 0, 1) ∧ 38 + 1 = 39 := by decide +kernel
theorem D_T_readLevelF_39 : decode prog_6_method_13_code 39 = .ok (.istore 6, 2) ∧ 39 + 2 = 41 := by decide +kernel
theorem D_T_readLevelF_41 : decode prog_6_method_13_code 41 = .ok (.iload 6, 2) ∧ 41 + 2 = 43 := by decide +kernel
theorem D_T_readLevelF_43 : decode prog_6_method_13_code 43 = .ok (.iload 5, 2) ∧ 43 + 2 = 45 := by decide +kernel
theorem D_T_readLevelF_45 : decode prog_6_method_13_code 45 = .ok (.if_icmp .ge 55, 3) ∧ ((45 : Nat) : Int) + 55 = ((100 : Nat) : Int) ∧ 45 + 3 = 48 := by decide +kernel
theorem D_T_readLevelF_48 : decode prog_6_method_13_code 48 = .ok (.aload_n 0, 1) ∧ 48 + 1 = 49 := by decide +kernel
theorem D_T_readLevelF_49 : decode prog_6_method_13_code 49 = .ok (.getfield 29, 3) ∧ 49 + 3 = 52 := by decide +kernel
theorem D_T_readLevelF_52 : decode prog_6_method_13_code 52 = .ok (.iconst (-1), 1) ∧ 52 + 1 = 53 := by decide +kernel
theorem D_T_readLevelF_53 : decode prog_6_method_13_code 53 = .ok (.if_icmp .ne 47, 3) ∧ ((53 : Nat) : Int) + 47 = ((100 : Nat) : Int) ∧ 53 + 3 = 56 := by decide +kernel
theorem D_T_readLevelF_56 : decode prog_6_method_13_code 56 = .ok (.iload_n 2, 1) ∧ 56 + 1 = 57 := by decide +kernel
theorem D_T_readLevelF_57 : decode prog_6_method_13_code 57 = .ok (.aload_n 0, 1) ∧ 57 + 1 = 58 := by decide +kernel
theorem D_T_readLevelF_58 : decode prog_6_method_13_code 58 = .ok (.invokevirtual 48, 3) ∧ 58 + 3 = 61 := by decide +kernel
theorem D_T_readLevelF_61 : decode prog_6_method_13_code 61 = .ok (.invokestatic 104, 3) ∧ 61 + 3 = 64 := by decide +kernel
theorem D_T_readLevelF_64 : decode prog_6_method_13_code 64 = .ok (.ifCond .eq 36, 3) ∧ ((64 : Nat) : Int) + 36 = ((100 : Nat) : Int) ∧ 64 + 3 = 67 := by decide +kernel
theorem D_T_readLevelF_67 : decode prog_6_method_13_code 67 = .ok (.aload_n 0, 1) ∧ 67 + 1 = 68 := by decide +kernel
theorem D_T_readLevelF_68 : decode prog_6_method_13_code 68 = .ok (.invokevirtual 48, 3) ∧ 68 + 3 = 71 := by decide +kernel
theorem D_T_readLevelF_71 : decode prog_6_method_13_code 71 = .ok (.istore 7, 2) ∧ 71 + 2 = 73 := by decide +kernel
theorem D_T_readLevelF_73 : decode prog_6_method_13_code 73 = .ok (.aload_n 0, 1) ∧ 73 + 1 = 74 := by decide +kernel
theorem D_T_readLevelF_74 : decode prog_6_method_13_code 74 = .ok (.invokevirtual 37, 3) ∧ 74 + 3 = 77 := by decide +kernel
theorem D_T_readLevelF_77 : decode prog_6_method_13_code 77 = .ok (.aload_n 0, 1) ∧ 77 + 1 = 78 := by decide +kernel
theorem D_T_readLevelF_78 : decode prog_6_method_13_code 78 = .ok (.aload_n 1, 1) ∧ 78 + 1 = 79 := by decide +kernel
theorem D_T_readLevelF_79 : decode prog_6_method_13_code 79 = .ok (.iload_n 2, 1) ∧ 79 + 1 = 80 := by decide +kernel
theorem D_T_readLevelF_80 : decode prog_6_method_13_code 80 = .ok (.iconst 1, 1) ∧ 80 + 1 = 81 := by decide +kernel
theorem D_T_readLevelF_81 : decode prog_6_method_13_code 81 = .ok (.iadd, 1) ∧ 81 + 1 = 82 := by decide +kernel
theorem D_T_readLevelF_82 : decode prog_6_method_13_code 82 = .ok (.iload_n 3, 1) ∧ 82 + 1 = 83 := by decide +kernel
theorem D_T_readLevelF_83 : decode prog_6_method_13_code 83 = .ok (.iload 4, 2) ∧ 83 + 2 = 85 := by decide +kernel
theorem D_T_readLevelF_85 : decode prog_6_method_13_code 85 = .ok (.invokevirtual 44, 3) ∧ 85 + 3 = 88 := by decide +kernel
theorem D_T_readLevelF_88 : decode prog_6_method_13_code 88 = .ok (.aload_n 1, 1) ∧ 88 + 1 = 89 := by decide +kernel
theorem D_T_readLevelF_89 : decode prog_6_method_13_code 89 = .ok (.iload 7, 2) ∧ 89 + 2 = 91 := by decide +kernel
theorem D_T_readLevelF_91 : decode prog_6_method_13_code 91 = .ok (.invokevirtual 108, 3) ∧ 91 + 3 = 94 := by decide +kernel
theorem D_T_readLevelF_94 : decode prog_6_method_13_code 94 = .ok (.iinc 6 1, 3) ∧ 94 + 3 = 97 := by decide +kernel
theorem D_T_readLevelF_97 : decode prog_6_method_13_code 97 = .ok (.goto (-56), 3) ∧ ((97 : Nat) : Int) + (-56) = ((41 : Nat) : Int) := by decide +kernel
theorem D_T_readLevelF_100 : decode prog_6_method_13_code 100 = .ok (.return_, 1) := by decide +kernel
theorem D_T_readLevelF_5 : decode prog_6_method_13_code 5 = .ok (.aload_n 0, 1) ∧ 5 + 1 = 6 := by decide +kernel
theorem D_T_readLevelF_6 : decode prog_6_method_13_code 6 = .ok (.aload_n 1, 1) ∧ 6 + 1 = 7 := by decide +kernel
theorem D_T_readLevelF_7 : decode prog_6_method_13_code 7 = .ok (.iload_n 3, 1) ∧ 7 + 1 = 8 := by decide +kernel
theorem D_T_readLevelF_8 : decode prog_6_method_13_code 8 = .ok (.iload 4, 2) ∧ 8 + 2 = 10 := by decide +kernel
theorem D_T_readLevelF_10 : decode prog_6_method_13_code 10 = .ok (.invokevirtual 100, 3) ∧ 10 + 3 = 13 := by decide +kernel
theorem D_T_readLevelF_13 : decode prog_6_method_13_code 13 = .ok (.return_, 1) := by decide +kernel
def f_T_readLevelF_L41 (rl : Nat → Int32 → Int32 → Int32 → Mm → Option Mm) (rp : Nat → Int32 → Int32 → Mm → Option Mm) (N : Nat) (o1 : Nat) : Nat → Int32 → Int32 → Int32 → Int32 → Int32 → Mm → Option (Int32 × Mm)
  | 0, _, _, _, _, _, _ => none
  | n + 1, b2, b3, b4, b5, b6, mem => if b5 ≤ b6 then some (b6, mem) else if mem 2 5 = (-1) then bp (f_T_here mem) fun r_58 => bp (f_T_joins b2 r_58) fun r_61 => if r_61 = 0 then some (b6, mem) else bp (f_T_here mem) fun r_68 => bp (f_T_step N mem) fun m_74 => bp (rl o1 (b2 + 1) b3 b4 m_74) fun m_85 => bp (f_X_addSign o1 r_68 m_85) fun m_91 => f_T_readLevelF_L41 rl rp N o1 n b2 b3 b4 b5 (b6 + 1) m_91 else some (b6, mem)
def f_T_readLevelF (rl : Nat → Int32 → Int32 → Int32 → Mm → Option Mm) (rp : Nat → Int32 → Int32 → Mm → Option Mm) (N : Nat) (o1 : Nat) (a2 : Int32) (a3 : Int32) (a4 : Int32) (mem : Mm) : Option (Mm) := if a2 ≤ 4 then bp (rl o1 (a2 + 1) a3 a4 mem) fun m_22 => lt (if a2 = 2 then (1 : Int32) else 96) fun x_36 => bd (f_T_readLevelF_L41 rl rp N o1 N a2 a3 a4 x_36 0 m_22) fun y_41 m_41 => some m_41 else bp (rp o1 a3 a4 mem) fun m_10 => some m_10
theorem L_T_readLevelF_41 {X : Cx} {E : En} (rl : Nat → Int32 → Int32 → Int32 → Mm → Option Mm) (rp : Nat → Int32 → Int32 → Mm → Option Mm) (d : Nat) (hd : 6 ≤ d) (hrl : ∀ (l : Launch) (o1 : Nat) (_ : isTxt o1) (a2 a3 a4 : Int32) {mem m2 : Mm}, rl o1 a2 a3 a4 mem = some m2 → CtV l E d y_T_readLevel prog_6_method_13_code 8 [.ref (eb E + 2), .ref (eb E + o1), .int a2, .int a3, .int a4] SH mem m2) (hrp : ∀ (l : Launch) (o1 : Nat) (_ : isTxt o1) (a2 a3 : Int32) {mem m2 : Mm}, rp o1 a2 a3 mem = some m2 → CtV l E d y_T_readPiece prog_6_method_15_code 5 [.ref (eb E + 2), .ref (eb E + o1), .int a2, .int a3] SH mem m2) (S : Std X E prog_6_method_13_code R3 8 (d + 1)) (N : Nat) (o1 : Nat) (ho1 : isTxt o1) : ∀ (n : Nat) (b2 : Int32) (b3 : Int32) (b4 : Int32) (b5 : Int32) (b6 : Int32) (mem : Mm) (z : Int32) (m2 : Mm), f_T_readLevelF_L41 rl rp N o1 n b2 b3 b4 b5 b6 mem = some (z, m2) → J X E 8 100 [(0, .ref (eb E + 2)), (1, .ref (eb E + o1)), (2, .int b2), (3, .int b3), (4, .int b4), (5, .int b5), (6, .int z)] [] SH m2 → J X E 8 41 [(0, .ref (eb E + 2)), (1, .ref (eb E + o1)), (2, .int b2), (3, .int b3), (4, .int b4), (5, .int b5), (6, .int b6)] [] SH mem := by
  intro n
  induction n with
  | zero =>
    intro b2 b3 b4 b5 b6 mem z m2 h hk; cases h
  | succ n ih =>
    intro b2 b3 b4 b5 b6 mem z m2 h hk
    rw [f_T_readLevelF_L41] at h
    refine j_iload S D_T_readLevelF_41 6 rfl ?_
    refine j_iload S D_T_readLevelF_43 5 rfl ?_
    refine j_icmp_ge S D_T_readLevelF_45 (fun c_45 => ?_) (fun c_45 => ?_)
    · have h := ifT c_45 h
      cases h
      exact j_locals [0, 1, 2, 3, 4, 5, 6] rfl hk
    · have h := ifF c_45 h
      refine j_aload_n S D_T_readLevelF_48 0 rfl rfl ?_
      refine j_getI S D_T_readLevelF_49 fl_R3_29 sh_Tape rfl ?_
      refine j_iconst S D_T_readLevelF_52 ci_m1 ?_
      refine j_icmp_ne S D_T_readLevelF_53 (fun c_53 => ?_) (fun c_53 => ?_)
      · have h := ifF c_53 h
        cases h
        exact j_locals [0, 1, 2, 3, 4, 5, 6] rfl hk
      · have h := ifT c_53 h
        refine j_iload_n S D_T_readLevelF_56 2 rfl rfl ?_
        refine j_aload_n S D_T_readLevelF_57 0 rfl rfl ?_
        obtain ⟨r_58, e_58, h⟩ := bpE h
        refine j_callVI (As := []) S D_T_readLevelF_58 mv_R3_48 (c_T_here (cxL X) E e_58) (by omega) sh_Tape rfl rfl rfl rfl (Nat.le_of_ble_eq_true rfl) ?_
        obtain ⟨r_61, e_61, h⟩ := bpE h
        refine j_callSI (As := [.int b2, .int r_58]) S D_T_readLevelF_61 ms_R3_104 (c_T_joins (cxL X) E b2 r_58 (mem := mem) e_61) (by omega) rfl rfl (Nat.le_of_ble_eq_true rfl) ?_
        refine j_if_eq S D_T_readLevelF_64 (fun c_64 => ?_) (fun c_64 => ?_)
        · have h := ifT c_64 h
          cases h
          exact j_locals [0, 1, 2, 3, 4, 5, 6] rfl hk
        · have h := ifF c_64 h
          refine j_aload_n S D_T_readLevelF_67 0 rfl rfl ?_
          obtain ⟨r_68, e_68, h⟩ := bpE h
          refine j_callVI (As := []) S D_T_readLevelF_68 mv_R3_48 (c_T_here (cxL X) E e_68) (by omega) sh_Tape rfl rfl rfl rfl (Nat.le_of_ble_eq_true rfl) ?_
          refine j_istore S D_T_readLevelF_71 (lv := [(7, .int r_68), (0, .ref (eb E + 2)), (1, .ref (eb E + o1)), (2, .int b2), (3, .int b3), (4, .int b4), (5, .int b5), (6, .int b6)]) rfl (Nat.le_of_ble_eq_true rfl) ?_
          refine j_aload_n S D_T_readLevelF_73 1 rfl rfl ?_
          obtain ⟨m_74, e_74, h⟩ := bpE h
          refine j_callVV (As := []) S D_T_readLevelF_74 mv_R3_37 (c_T_step (cxL X) E N e_74) (by omega) sh_Tape rfl rfl rfl rfl (Nat.le_of_ble_eq_true rfl) ?_
          refine j_aload_n S D_T_readLevelF_77 1 rfl rfl ?_
          refine j_aload_n S D_T_readLevelF_78 2 rfl rfl ?_
          refine j_iload_n S D_T_readLevelF_79 3 rfl rfl ?_
          refine j_iconst S D_T_readLevelF_80 ci_1 ?_
          refine j_iadd S D_T_readLevelF_81 ?_
          refine j_iload_n S D_T_readLevelF_82 4 rfl rfl ?_
          refine j_iload S D_T_readLevelF_83 5 rfl ?_
          obtain ⟨m_85, e_85, h⟩ := bpE h
          refine j_callVV (As := [.ref (eb E + o1), .int (b2 + 1), .int b3, .int b4]) S D_T_readLevelF_85 mv_R3_44 (hrl (cxL X) o1 ho1 (b2 + 1) b3 b4 e_85) (by omega) sh_Tape rfl rfl rfl rfl (Nat.le_of_ble_eq_true rfl) ?_
          refine j_aload_n S D_T_readLevelF_88 2 rfl rfl ?_
          refine j_iload S D_T_readLevelF_89 0 rfl ?_
          obtain ⟨m_91, e_91, h⟩ := bpE h
          refine j_callVV (As := [.int r_68]) S D_T_readLevelF_91 mv_R3_108 (c_X_addSign (cxL X) E o1 ho1 r_68 e_91) (by omega) (sh_txt ho1) rfl rfl rfl rfl (Nat.le_of_ble_eq_true rfl) ?_
          refine j_iinc S D_T_readLevelF_94 7 rfl (congrArg (fun z => b6 + z) ci_1) (lv := [(6, .int (b6 + 1)), (7, .int r_68), (0, .ref (eb E + 2)), (1, .ref (eb E + o1)), (2, .int b2), (3, .int b3), (4, .int b4), (5, .int b5)]) rfl (Nat.le_of_ble_eq_true rfl) ?_
          refine j_goto S D_T_readLevelF_97 ?_
          refine j_locals [2, 3, 4, 5, 6, 7, 0] rfl (ih b2 b3 b4 b5 (b6 + 1) m_91 _ _ h hk)
theorem c_T_readLevelF (l : Launch) (E : En) (rl : Nat → Int32 → Int32 → Int32 → Mm → Option Mm) (rp : Nat → Int32 → Int32 → Mm → Option Mm) (d : Nat) (hd : 6 ≤ d) (hrl : ∀ (l : Launch) (o1 : Nat) (_ : isTxt o1) (a2 a3 a4 : Int32) {mem m2 : Mm}, rl o1 a2 a3 a4 mem = some m2 → CtV l E d y_T_readLevel prog_6_method_13_code 8 [.ref (eb E + 2), .ref (eb E + o1), .int a2, .int a3, .int a4] SH mem m2) (hrp : ∀ (l : Launch) (o1 : Nat) (_ : isTxt o1) (a2 a3 : Int32) {mem m2 : Mm}, rp o1 a2 a3 mem = some m2 → CtV l E d y_T_readPiece prog_6_method_15_code 5 [.ref (eb E + 2), .ref (eb E + o1), .int a2, .int a3] SH mem m2) (N : Nat) (o1 : Nat) (ho1 : isTxt o1) (a2 : Int32) (a3 : Int32) (a4 : Int32) {mem : Mm} {m2 : Mm} (h : f_T_readLevelF rl rp N o1 a2 a3 a4 mem = some m2) : CtV l E (d + 1) y_T_readLevelF prog_6_method_13_code 8 [.ref (eb E + 2), .ref (eb E + o1), .int a2, .int a3, .int a4] SH mem m2 := by
  refine mk_CtV ⟨by decide, (Nat.le_of_ble_eq_true rfl)⟩ (fun X S hl hR => ?_)
  have S : Std X E prog_6_method_13_code R3 8 (d + 1) := S
  show J X E 8 0 [(0, .ref (eb E + 2)), (1, .ref (eb E + o1)), (2, .int a2), (3, .int a3), (4, .int a4)] [] SH mem
  unfold f_T_readLevelF at h
  refine j_iload_n S D_T_readLevelF_0 2 rfl rfl ?_
  refine j_iconst S D_T_readLevelF_1 ci_4 ?_
  refine j_icmp_le S D_T_readLevelF_2 (fun c_2 => ?_) (fun c_2 => ?_)
  · have h := ifT c_2 h
    refine j_aload_n S D_T_readLevelF_14 0 rfl rfl ?_
    refine j_aload_n S D_T_readLevelF_15 1 rfl rfl ?_
    refine j_iload_n S D_T_readLevelF_16 2 rfl rfl ?_
    refine j_iconst S D_T_readLevelF_17 ci_1 ?_
    refine j_iadd S D_T_readLevelF_18 ?_
    refine j_iload_n S D_T_readLevelF_19 3 rfl rfl ?_
    refine j_iload S D_T_readLevelF_20 4 rfl ?_
    obtain ⟨m_22, e_22, h⟩ := bpE h
    refine j_callVV (As := [.ref (eb E + o1), .int (a2 + 1), .int a3, .int a4]) S D_T_readLevelF_22 mv_R3_44 (hrl (cxL X) o1 ho1 (a2 + 1) a3 a4 e_22) (by omega) sh_Tape rfl rfl rfl rfl (Nat.le_of_ble_eq_true rfl) ?_
    refine j_iload_n S D_T_readLevelF_25 2 rfl rfl ?_
    refine j_iconst S D_T_readLevelF_26 ci_2 ?_
    refine j_dia (P := J X E 8 36 [(0, .ref (eb E + 2)), (1, .ref (eb E + o1)), (2, .int a2), (3, .int a3), (4, .int a4)] [.int (if a2 = 2 then (1 : Int32) else 96)] SH m_22) (fun hj => ?_) ?_
    · refine j_icmp_ne S D_T_readLevelF_27 (fun c_27 => ?_) (fun c_27 => ?_)
      · refine j_bipush S D_T_readLevelF_34 cb_96 ?_
        exact j_jnF hj c_27
      · refine j_iconst S D_T_readLevelF_30 ci_1 ?_
        refine j_goto S D_T_readLevelF_31 ?_
        exact j_jnT hj c_27
    obtain ⟨x_36, hx_36, h⟩ := ltE h
    refine j_nm hx_36 ?_
    refine j_istore S D_T_readLevelF_36 (lv := [(5, .int x_36), (0, .ref (eb E + 2)), (1, .ref (eb E + o1)), (2, .int a2), (3, .int a3), (4, .int a4)]) rfl (Nat.le_of_ble_eq_true rfl) ?_
    refine j_iconst S D_T_readLevelF_38 ci_0 ?_
    refine j_istore S D_T_readLevelF_39 (lv := [(6, .int 0), (5, .int x_36), (0, .ref (eb E + 2)), (1, .ref (eb E + o1)), (2, .int a2), (3, .int a3), (4, .int a4)]) rfl (Nat.le_of_ble_eq_true rfl) ?_
    refine j_locals [2, 3, 4, 5, 6, 1, 0] rfl ?_
    obtain ⟨y_41, m_41, e_41, h⟩ := bdE h
    refine L_T_readLevelF_41 rl rp d hd hrl hrp S N o1 ho1 N a2 a3 a4 x_36 0 m_22 _ _ e_41 ?_
    exact rtV hR h _ _ D_T_readLevelF_100
  · have h := ifF c_2 h
    refine j_aload_n S D_T_readLevelF_5 0 rfl rfl ?_
    refine j_aload_n S D_T_readLevelF_6 1 rfl rfl ?_
    refine j_iload_n S D_T_readLevelF_7 3 rfl rfl ?_
    refine j_iload S D_T_readLevelF_8 4 rfl ?_
    obtain ⟨m_10, e_10, h⟩ := bpE h
    refine j_callVV (As := [.ref (eb E + o1), .int a3, .int a4]) S D_T_readLevelF_10 mv_R3_100 (hrp (cxL X) o1 ho1 a3 a4 e_10) (by omega) sh_Tape rfl rfl rfl rfl (Nat.le_of_ble_eq_true rfl) ?_
    exact rtV hR h _ _ D_T_readLevelF_13

def y_T_readPieceF : MethodName := ⟨"SandPicture$Tape", "readPiece", "(LSandPicture$Text;II)V"⟩
theorem D_T_readPieceF_0 : decode prog_6_method_15_code 0 = .ok (.aload_n 0, 1) ∧ 0 + 1 = 1 := by decide +kernel
theorem D_T_readPieceF_1 : decode prog_6_method_15_code 1 = .ok (.getfield 29, 3) ∧ 1 + 3 = 4 := by decide +kernel
theorem D_T_readPieceF_4 : decode prog_6_method_15_code 4 = .ok (.iconst (-1), 1) ∧ 4 + 1 = 5 := by decide +kernel
theorem D_T_readPieceF_5 : decode prog_6_method_15_code 5 = .ok (.if_icmp .eq 4, 3) ∧ ((5 : Nat) : Int) + 4 = ((9 : Nat) : Int) ∧ 5 + 3 = 8 := by decide +kernel
theorem D_T_readPieceF_9 : decode prog_6_method_15_code 9 = .ok (.aload_n 0, 1) ∧ 9 + 1 = 10 := by decide +kernel
theorem D_T_readPieceF_10 : decode prog_6_method_15_code 10 = .ok (.invokevirtual 48, 3) ∧ 10 + 3 = 13 := by decide +kernel
theorem D_T_readPieceF_13 : decode prog_6_method_15_code 13 = .ok (.istore 4, 2) ∧ 13 + 2 = 15 := by decide +kernel
theorem D_T_readPieceF_15 : decode prog_6_method_15_code 15 = .ok (.iload 4, 2) ∧ 15 + 2 = 17 := by decide +kernel
theorem D_T_readPieceF_17 : decode prog_6_method_15_code 17 = .ok (.invokestatic 55, 3) ∧ 17 + 3 = 20 := by decide +kernel
theorem D_T_readPieceF_20 : decode prog_6_method_15_code 20 = .ok (.ifCond .eq 11, 3) ∧ ((20 : Nat) : Int) + 11 = ((31 : Nat) : Int) ∧ 20 + 3 = 23 := by decide +kernel
theorem D_T_readPieceF_31 : decode prog_6_method_15_code 31 = .ok (.iload 4, 2) ∧ 31 + 2 = 33 := by decide +kernel
theorem D_T_readPieceF_33 : decode prog_6_method_15_code 33 = .ok (.invokestatic 59, 3) ∧ 33 + 3 = 36 := by decide +kernel
theorem D_T_readPieceF_36 : decode prog_6_method_15_code 36 = .ok (.ifCond .eq 11, 3) ∧ ((36 : Nat) : Int) + 11 = ((47 : Nat) : Int) ∧ 36 + 3 = 39 := by decide +kernel
theorem D_T_readPieceF_47 : decode prog_6_method_15_code 47 = .ok (.iload 4, 2) ∧ 47 + 2 = 49 := by decide +kernel
theorem D_T_readPieceF_49 : decode prog_6_method_15_code 49 = .ok (.bipush 33, 2) ∧ 49 + 2 = 51 := by decide +kernel
theorem D_T_readPieceF_51 : decode prog_6_method_15_code 51 = .ok (.if_icmp .ne 31, 3) ∧ ((51 : Nat) : Int) + 31 = ((82 : Nat) : Int) ∧ 51 + 3 = 54 := by decide +kernel
theorem D_T_readPieceF_82 : decode prog_6_method_15_code 82 = .ok (.iload 4, 2) ∧ 82 + 2 = 84 := by decide +kernel
theorem D_T_readPieceF_84 : decode prog_6_method_15_code 84 = .ok (.bipush 40, 2) ∧ 84 + 2 = 86 := by decide +kernel
theorem D_T_readPieceF_86 : decode prog_6_method_15_code 86 = .ok (.if_icmp .ne 30, 3) ∧ ((86 : Nat) : Int) + 30 = ((116 : Nat) : Int) ∧ 86 + 3 = 89 := by decide +kernel
theorem D_T_readPieceF_116 : decode prog_6_method_15_code 116 = .ok (.aload_n 0, 1) ∧ 116 + 1 = 117 := by decide +kernel
theorem D_T_readPieceF_117 : decode prog_6_method_15_code 117 = .ok (.invokevirtual 52, 3) ∧ 117 + 3 = 120 := by decide +kernel
theorem D_T_readPieceF_120 : decode prog_6_method_15_code 120 = .ok (.return_, 1) := by decide +kernel
theorem D_T_readPieceF_89 : decode prog_6_method_15_code 89 = .ok (.iload_n 2, 1) ∧ 89 + 1 = 90 := by decide +kernel
theorem D_T_readPieceF_90 : decode prog_6_method_15_code 90 = .ok (.bipush 8, 2) ∧ 90 + 2 = 92 := by decide +kernel
theorem D_T_readPieceF_92 : decode prog_6_method_15_code 92 = .ok (.if_icmp .ge 24, 3) ∧ ((92 : Nat) : Int) + 24 = ((116 : Nat) : Int) ∧ 92 + 3 = 95 := by decide +kernel
theorem D_T_readPieceF_95 : decode prog_6_method_15_code 95 = .ok (.aload_n 0, 1) ∧ 95 + 1 = 96 := by decide +kernel
theorem D_T_readPieceF_96 : decode prog_6_method_15_code 96 = .ok (.invokevirtual 37, 3) ∧ 96 + 3 = 99 := by decide +kernel
theorem D_T_readPieceF_99 : decode prog_6_method_15_code 99 = .ok (.aload_n 0, 1) ∧ 99 + 1 = 100 := by decide +kernel
theorem D_T_readPieceF_100 : decode prog_6_method_15_code 100 = .ok (.aload_n 1, 1) ∧ 100 + 1 = 101 := by decide +kernel
theorem D_T_readPieceF_101 : decode prog_6_method_15_code 101 = .ok (.iconst 0, 1) ∧ 101 + 1 = 102 := by decide +kernel
theorem D_T_readPieceF_102 : decode prog_6_method_15_code 102 = .ok (.iload_n 2, 1) ∧ 102 + 1 = 103 := by decide +kernel
theorem D_T_readPieceF_103 : decode prog_6_method_15_code 103 = .ok (.iconst 1, 1) ∧ 103 + 1 = 104 := by decide +kernel
theorem D_T_readPieceF_104 : decode prog_6_method_15_code 104 = .ok (.iadd, 1) ∧ 104 + 1 = 105 := by decide +kernel
theorem D_T_readPieceF_105 : decode prog_6_method_15_code 105 = .ok (.iload_n 3, 1) ∧ 105 + 1 = 106 := by decide +kernel
theorem D_T_readPieceF_106 : decode prog_6_method_15_code 106 = .ok (.invokevirtual 44, 3) ∧ 106 + 3 = 109 := by decide +kernel
theorem D_T_readPieceF_109 : decode prog_6_method_15_code 109 = .ok (.aload_n 0, 1) ∧ 109 + 1 = 110 := by decide +kernel
theorem D_T_readPieceF_110 : decode prog_6_method_15_code 110 = .ok (.invokevirtual 118, 3) ∧ 110 + 3 = 113 := by decide +kernel
theorem D_T_readPieceF_113 : decode prog_6_method_15_code 113 = .ok (.goto 7, 3) ∧ ((113 : Nat) : Int) + 7 = ((120 : Nat) : Int) := by decide +kernel
theorem D_T_readPieceF_54 : decode prog_6_method_15_code 54 = .ok (.iload_n 3, 1) ∧ 54 + 1 = 55 := by decide +kernel
theorem D_T_readPieceF_55 : decode prog_6_method_15_code 55 = .ok (.bipush 8, 2) ∧ 55 + 2 = 57 := by decide +kernel
theorem D_T_readPieceF_57 : decode prog_6_method_15_code 57 = .ok (.if_icmp .ge 25, 3) ∧ ((57 : Nat) : Int) + 25 = ((82 : Nat) : Int) ∧ 57 + 3 = 60 := by decide +kernel
theorem D_T_readPieceF_60 : decode prog_6_method_15_code 60 = .ok (.aload_n 0, 1) ∧ 60 + 1 = 61 := by decide +kernel
theorem D_T_readPieceF_61 : decode prog_6_method_15_code 61 = .ok (.invokevirtual 37, 3) ∧ 61 + 3 = 64 := by decide +kernel
theorem D_T_readPieceF_64 : decode prog_6_method_15_code 64 = .ok (.aload_n 0, 1) ∧ 64 + 1 = 65 := by decide +kernel
theorem D_T_readPieceF_65 : decode prog_6_method_15_code 65 = .ok (.aload_n 1, 1) ∧ 65 + 1 = 66 := by decide +kernel
theorem D_T_readPieceF_66 : decode prog_6_method_15_code 66 = .ok (.iload_n 2, 1) ∧ 66 + 1 = 67 := by decide +kernel
theorem D_T_readPieceF_67 : decode prog_6_method_15_code 67 = .ok (.iload_n 3, 1) ∧ 67 + 1 = 68 := by decide +kernel
theorem D_T_readPieceF_68 : decode prog_6_method_15_code 68 = .ok (.iconst 1, 1) ∧ 68 + 1 = 69 := by decide +kernel
theorem D_T_readPieceF_69 : decode prog_6_method_15_code 69 = .ok (.iadd, 1) ∧ 69 + 1 = 70 := by decide +kernel
theorem D_T_readPieceF_70 : decode prog_6_method_15_code 70 = .ok (.invokevirtual 100, 3) ∧ 70 + 3 = 73 := by decide +kernel
theorem D_T_readPieceF_73 : decode prog_6_method_15_code 73 = .ok (.aload_n 1, 1) ∧ 73 + 1 = 74 := by decide +kernel
theorem D_T_readPieceF_74 : decode prog_6_method_15_code 74 = .ok (.bipush 33, 2) ∧ 74 + 2 = 76 := by decide +kernel
theorem D_T_readPieceF_76 : decode prog_6_method_15_code 76 = .ok (.invokevirtual 108, 3) ∧ 76 + 3 = 79 := by decide +kernel
theorem D_T_readPieceF_79 : decode prog_6_method_15_code 79 = .ok (.goto 41, 3) ∧ ((79 : Nat) : Int) + 41 = ((120 : Nat) : Int) := by decide +kernel
theorem D_T_readPieceF_39 : decode prog_6_method_15_code 39 = .ok (.aload_n 0, 1) ∧ 39 + 1 = 40 := by decide +kernel
theorem D_T_readPieceF_40 : decode prog_6_method_15_code 40 = .ok (.aload_n 1, 1) ∧ 40 + 1 = 41 := by decide +kernel
theorem D_T_readPieceF_41 : decode prog_6_method_15_code 41 = .ok (.invokevirtual 115, 3) ∧ 41 + 3 = 44 := by decide +kernel
theorem D_T_readPieceF_44 : decode prog_6_method_15_code 44 = .ok (.goto 76, 3) ∧ ((44 : Nat) : Int) + 76 = ((120 : Nat) : Int) := by decide +kernel
theorem D_T_readPieceF_23 : decode prog_6_method_15_code 23 = .ok (.aload_n 0, 1) ∧ 23 + 1 = 24 := by decide +kernel
theorem D_T_readPieceF_24 : decode prog_6_method_15_code 24 = .ok (.aload_n 1, 1) ∧ 24 + 1 = 25 := by decide +kernel
theorem D_T_readPieceF_25 : decode prog_6_method_15_code 25 = .ok (.invokevirtual 112, 3) ∧ 25 + 3 = 28 := by decide +kernel
theorem D_T_readPieceF_28 : decode prog_6_method_15_code 28 = .ok (.goto 92, 3) ∧ ((28 : Nat) : Int) + 92 = ((120 : Nat) : Int) := by decide +kernel
theorem D_T_readPieceF_8 : decode prog_6_method_15_code 8 = .ok (.return_, 1) := by decide +kernel
def f_T_readPieceF (rl : Nat → Int32 → Int32 → Int32 → Mm → Option Mm) (rp : Nat → Int32 → Int32 → Mm → Option Mm) (N : Nat) (o1 : Nat) (a2 : Int32) (a3 : Int32) (mem : Mm) : Option (Mm) := if mem 2 5 = (-1) then bp (f_T_here mem) fun r_10 => bp (f_T_isLetter r_10) fun r_17 => if r_17 = 0 then bp (f_T_isDigit r_10) fun r_33 => if r_33 = 0 then if r_10 = 33 then if 8 ≤ a3 then if r_10 = 40 then if 8 ≤ a2 then bp (f_T_fail mem) fun m_117 => some m_117 else bp (f_T_step N mem) fun m_96 => bp (rl o1 0 (a2 + 1) a3 m_96) fun m_106 => bp (f_T_readClosing N m_106) fun m_110 => some m_110 else bp (f_T_fail mem) fun m_117 => some m_117 else bp (f_T_step N mem) fun m_61 => bp (rp o1 a2 (a3 + 1) m_61) fun m_70 => bp (f_X_addSign o1 33 m_70) fun m_76 => some m_76 else if r_10 = 40 then if 8 ≤ a2 then bp (f_T_fail mem) fun m_117 => some m_117 else bp (f_T_step N mem) fun m_96 => bp (rl o1 0 (a2 + 1) a3 m_96) fun m_106 => bp (f_T_readClosing N m_106) fun m_110 => some m_110 else bp (f_T_fail mem) fun m_117 => some m_117 else bp (f_T_readNumber N o1 mem) fun m_41 => some m_41 else bp (f_T_readName N o1 mem) fun m_25 => some m_25 else some mem
theorem c_T_readPieceF (l : Launch) (E : En) (rl : Nat → Int32 → Int32 → Int32 → Mm → Option Mm) (rp : Nat → Int32 → Int32 → Mm → Option Mm) (d : Nat) (hd : 6 ≤ d) (hrl : ∀ (l : Launch) (o1 : Nat) (_ : isTxt o1) (a2 a3 a4 : Int32) {mem m2 : Mm}, rl o1 a2 a3 a4 mem = some m2 → CtV l E d y_T_readLevel prog_6_method_13_code 8 [.ref (eb E + 2), .ref (eb E + o1), .int a2, .int a3, .int a4] SH mem m2) (hrp : ∀ (l : Launch) (o1 : Nat) (_ : isTxt o1) (a2 a3 : Int32) {mem m2 : Mm}, rp o1 a2 a3 mem = some m2 → CtV l E d y_T_readPiece prog_6_method_15_code 5 [.ref (eb E + 2), .ref (eb E + o1), .int a2, .int a3] SH mem m2) (N : Nat) (o1 : Nat) (ho1 : isTxt o1) (a2 : Int32) (a3 : Int32) {mem : Mm} {m2 : Mm} (h : f_T_readPieceF rl rp N o1 a2 a3 mem = some m2) : CtV l E (d + 1) y_T_readPieceF prog_6_method_15_code 5 [.ref (eb E + 2), .ref (eb E + o1), .int a2, .int a3] SH mem m2 := by
  refine mk_CtV ⟨by decide, (Nat.le_of_ble_eq_true rfl)⟩ (fun X S hl hR => ?_)
  have S : Std X E prog_6_method_15_code R3 5 (d + 1) := S
  show J X E 5 0 [(0, .ref (eb E + 2)), (1, .ref (eb E + o1)), (2, .int a2), (3, .int a3)] [] SH mem
  unfold f_T_readPieceF at h
  refine j_aload_n S D_T_readPieceF_0 0 rfl rfl ?_
  refine j_getI S D_T_readPieceF_1 fl_R3_29 sh_Tape rfl ?_
  refine j_iconst S D_T_readPieceF_4 ci_m1 ?_
  refine j_icmp_eq S D_T_readPieceF_5 (fun c_5 => ?_) (fun c_5 => ?_)
  · have h := ifT c_5 h
    refine j_aload_n S D_T_readPieceF_9 0 rfl rfl ?_
    obtain ⟨r_10, e_10, h⟩ := bpE h
    refine j_callVI (As := []) S D_T_readPieceF_10 mv_R3_48 (c_T_here (cxL X) E e_10) (by omega) sh_Tape rfl rfl rfl rfl (Nat.le_of_ble_eq_true rfl) ?_
    refine j_istore S D_T_readPieceF_13 (lv := [(4, .int r_10), (0, .ref (eb E + 2)), (1, .ref (eb E + o1)), (2, .int a2), (3, .int a3)]) rfl (Nat.le_of_ble_eq_true rfl) ?_
    refine j_iload S D_T_readPieceF_15 0 rfl ?_
    obtain ⟨r_17, e_17, h⟩ := bpE h
    refine j_callSI (As := [.int r_10]) S D_T_readPieceF_17 ms_R3_55 (c_T_isLetter (cxL X) E r_10 (mem := mem) e_17) (by omega) rfl rfl (Nat.le_of_ble_eq_true rfl) ?_
    refine j_if_eq S D_T_readPieceF_20 (fun c_20 => ?_) (fun c_20 => ?_)
    · have h := ifT c_20 h
      refine j_iload S D_T_readPieceF_31 0 rfl ?_
      obtain ⟨r_33, e_33, h⟩ := bpE h
      refine j_callSI (As := [.int r_10]) S D_T_readPieceF_33 ms_R3_59 (c_T_isDigit (cxL X) E r_10 (mem := mem) e_33) (by omega) rfl rfl (Nat.le_of_ble_eq_true rfl) ?_
      refine j_if_eq S D_T_readPieceF_36 (fun c_36 => ?_) (fun c_36 => ?_)
      · have h := ifT c_36 h
        refine j_iload S D_T_readPieceF_47 0 rfl ?_
        refine j_bipush S D_T_readPieceF_49 cb_33 ?_
        refine j_icmp_ne S D_T_readPieceF_51 (fun c_51 => ?_) (fun c_51 => ?_)
        · have h := ifF c_51 h
          refine j_iload S D_T_readPieceF_82 0 rfl ?_
          refine j_bipush S D_T_readPieceF_84 cb_40 ?_
          refine j_icmp_ne S D_T_readPieceF_86 (fun c_86 => ?_) (fun c_86 => ?_)
          · have h := ifF c_86 h
            refine j_aload_n S D_T_readPieceF_116 1 rfl rfl ?_
            obtain ⟨m_117, e_117, h⟩ := bpE h
            refine j_callVV (As := []) S D_T_readPieceF_117 mv_R3_52 (c_T_fail (cxL X) E e_117) (by omega) sh_Tape rfl rfl rfl rfl (Nat.le_of_ble_eq_true rfl) ?_
            exact rtV hR h _ _ D_T_readPieceF_120
          · have h := ifT c_86 h
            refine j_iload_n S D_T_readPieceF_89 3 rfl rfl ?_
            refine j_bipush S D_T_readPieceF_90 cb_8 ?_
            refine j_icmp_ge S D_T_readPieceF_92 (fun c_92 => ?_) (fun c_92 => ?_)
            · have h := ifT c_92 h
              refine j_aload_n S D_T_readPieceF_116 1 rfl rfl ?_
              obtain ⟨m_117, e_117, h⟩ := bpE h
              refine j_callVV (As := []) S D_T_readPieceF_117 mv_R3_52 (c_T_fail (cxL X) E e_117) (by omega) sh_Tape rfl rfl rfl rfl (Nat.le_of_ble_eq_true rfl) ?_
              exact rtV hR h _ _ D_T_readPieceF_120
            · have h := ifF c_92 h
              refine j_aload_n S D_T_readPieceF_95 1 rfl rfl ?_
              obtain ⟨m_96, e_96, h⟩ := bpE h
              refine j_callVV (As := []) S D_T_readPieceF_96 mv_R3_37 (c_T_step (cxL X) E N e_96) (by omega) sh_Tape rfl rfl rfl rfl (Nat.le_of_ble_eq_true rfl) ?_
              refine j_aload_n S D_T_readPieceF_99 1 rfl rfl ?_
              refine j_aload_n S D_T_readPieceF_100 2 rfl rfl ?_
              refine j_iconst S D_T_readPieceF_101 ci_0 ?_
              refine j_iload_n S D_T_readPieceF_102 3 rfl rfl ?_
              refine j_iconst S D_T_readPieceF_103 ci_1 ?_
              refine j_iadd S D_T_readPieceF_104 ?_
              refine j_iload_n S D_T_readPieceF_105 4 rfl rfl ?_
              obtain ⟨m_106, e_106, h⟩ := bpE h
              refine j_callVV (As := [.ref (eb E + o1), .int 0, .int (a2 + 1), .int a3]) S D_T_readPieceF_106 mv_R3_44 (hrl (cxL X) o1 ho1 0 (a2 + 1) a3 e_106) (by omega) sh_Tape rfl rfl rfl rfl (Nat.le_of_ble_eq_true rfl) ?_
              refine j_aload_n S D_T_readPieceF_109 1 rfl rfl ?_
              obtain ⟨m_110, e_110, h⟩ := bpE h
              refine j_callVV (As := []) S D_T_readPieceF_110 mv_R3_118 (c_T_readClosing (cxL X) E N e_110) (by omega) sh_Tape rfl rfl rfl rfl (Nat.le_of_ble_eq_true rfl) ?_
              refine j_goto S D_T_readPieceF_113 ?_
              exact rtV hR h _ _ D_T_readPieceF_120
        · have h := ifT c_51 h
          refine j_iload_n S D_T_readPieceF_54 4 rfl rfl ?_
          refine j_bipush S D_T_readPieceF_55 cb_8 ?_
          refine j_icmp_ge S D_T_readPieceF_57 (fun c_57 => ?_) (fun c_57 => ?_)
          · have h := ifT c_57 h
            refine j_iload S D_T_readPieceF_82 0 rfl ?_
            refine j_bipush S D_T_readPieceF_84 cb_40 ?_
            refine j_icmp_ne S D_T_readPieceF_86 (fun c_86 => ?_) (fun c_86 => ?_)
            · have h := ifF c_86 h
              refine j_aload_n S D_T_readPieceF_116 1 rfl rfl ?_
              obtain ⟨m_117, e_117, h⟩ := bpE h
              refine j_callVV (As := []) S D_T_readPieceF_117 mv_R3_52 (c_T_fail (cxL X) E e_117) (by omega) sh_Tape rfl rfl rfl rfl (Nat.le_of_ble_eq_true rfl) ?_
              exact rtV hR h _ _ D_T_readPieceF_120
            · have h := ifT c_86 h
              refine j_iload_n S D_T_readPieceF_89 3 rfl rfl ?_
              refine j_bipush S D_T_readPieceF_90 cb_8 ?_
              refine j_icmp_ge S D_T_readPieceF_92 (fun c_92 => ?_) (fun c_92 => ?_)
              · have h := ifT c_92 h
                refine j_aload_n S D_T_readPieceF_116 1 rfl rfl ?_
                obtain ⟨m_117, e_117, h⟩ := bpE h
                refine j_callVV (As := []) S D_T_readPieceF_117 mv_R3_52 (c_T_fail (cxL X) E e_117) (by omega) sh_Tape rfl rfl rfl rfl (Nat.le_of_ble_eq_true rfl) ?_
                exact rtV hR h _ _ D_T_readPieceF_120
              · have h := ifF c_92 h
                refine j_aload_n S D_T_readPieceF_95 1 rfl rfl ?_
                obtain ⟨m_96, e_96, h⟩ := bpE h
                refine j_callVV (As := []) S D_T_readPieceF_96 mv_R3_37 (c_T_step (cxL X) E N e_96) (by omega) sh_Tape rfl rfl rfl rfl (Nat.le_of_ble_eq_true rfl) ?_
                refine j_aload_n S D_T_readPieceF_99 1 rfl rfl ?_
                refine j_aload_n S D_T_readPieceF_100 2 rfl rfl ?_
                refine j_iconst S D_T_readPieceF_101 ci_0 ?_
                refine j_iload_n S D_T_readPieceF_102 3 rfl rfl ?_
                refine j_iconst S D_T_readPieceF_103 ci_1 ?_
                refine j_iadd S D_T_readPieceF_104 ?_
                refine j_iload_n S D_T_readPieceF_105 4 rfl rfl ?_
                obtain ⟨m_106, e_106, h⟩ := bpE h
                refine j_callVV (As := [.ref (eb E + o1), .int 0, .int (a2 + 1), .int a3]) S D_T_readPieceF_106 mv_R3_44 (hrl (cxL X) o1 ho1 0 (a2 + 1) a3 e_106) (by omega) sh_Tape rfl rfl rfl rfl (Nat.le_of_ble_eq_true rfl) ?_
                refine j_aload_n S D_T_readPieceF_109 1 rfl rfl ?_
                obtain ⟨m_110, e_110, h⟩ := bpE h
                refine j_callVV (As := []) S D_T_readPieceF_110 mv_R3_118 (c_T_readClosing (cxL X) E N e_110) (by omega) sh_Tape rfl rfl rfl rfl (Nat.le_of_ble_eq_true rfl) ?_
                refine j_goto S D_T_readPieceF_113 ?_
                exact rtV hR h _ _ D_T_readPieceF_120
          · have h := ifF c_57 h
            refine j_aload_n S D_T_readPieceF_60 1 rfl rfl ?_
            obtain ⟨m_61, e_61, h⟩ := bpE h
            refine j_callVV (As := []) S D_T_readPieceF_61 mv_R3_37 (c_T_step (cxL X) E N e_61) (by omega) sh_Tape rfl rfl rfl rfl (Nat.le_of_ble_eq_true rfl) ?_
            refine j_aload_n S D_T_readPieceF_64 1 rfl rfl ?_
            refine j_aload_n S D_T_readPieceF_65 2 rfl rfl ?_
            refine j_iload_n S D_T_readPieceF_66 3 rfl rfl ?_
            refine j_iload_n S D_T_readPieceF_67 4 rfl rfl ?_
            refine j_iconst S D_T_readPieceF_68 ci_1 ?_
            refine j_iadd S D_T_readPieceF_69 ?_
            obtain ⟨m_70, e_70, h⟩ := bpE h
            refine j_callVV (As := [.ref (eb E + o1), .int a2, .int (a3 + 1)]) S D_T_readPieceF_70 mv_R3_100 (hrp (cxL X) o1 ho1 a2 (a3 + 1) e_70) (by omega) sh_Tape rfl rfl rfl rfl (Nat.le_of_ble_eq_true rfl) ?_
            refine j_aload_n S D_T_readPieceF_73 2 rfl rfl ?_
            refine j_bipush S D_T_readPieceF_74 cb_33 ?_
            obtain ⟨m_76, e_76, h⟩ := bpE h
            refine j_callVV (As := [.int 33]) S D_T_readPieceF_76 mv_R3_108 (c_X_addSign (cxL X) E o1 ho1 33 e_76) (by omega) (sh_txt ho1) rfl rfl rfl rfl (Nat.le_of_ble_eq_true rfl) ?_
            refine j_goto S D_T_readPieceF_79 ?_
            exact rtV hR h _ _ D_T_readPieceF_120
      · have h := ifF c_36 h
        refine j_aload_n S D_T_readPieceF_39 1 rfl rfl ?_
        refine j_aload_n S D_T_readPieceF_40 2 rfl rfl ?_
        obtain ⟨m_41, e_41, h⟩ := bpE h
        refine j_callVV (As := [.ref (eb E + o1)]) S D_T_readPieceF_41 mv_R3_115 (c_T_readNumber (cxL X) E N o1 ho1 e_41) (by omega) sh_Tape rfl rfl rfl rfl (Nat.le_of_ble_eq_true rfl) ?_
        refine j_goto S D_T_readPieceF_44 ?_
        exact rtV hR h _ _ D_T_readPieceF_120
    · have h := ifF c_20 h
      refine j_aload_n S D_T_readPieceF_23 1 rfl rfl ?_
      refine j_aload_n S D_T_readPieceF_24 2 rfl rfl ?_
      obtain ⟨m_25, e_25, h⟩ := bpE h
      refine j_callVV (As := [.ref (eb E + o1)]) S D_T_readPieceF_25 mv_R3_112 (c_T_readName (cxL X) E N o1 ho1 e_25) (by omega) sh_Tape rfl rfl rfl rfl (Nat.le_of_ble_eq_true rfl) ?_
      refine j_goto S D_T_readPieceF_28 ?_
      exact rtV hR h _ _ D_T_readPieceF_120
  · have h := ifF c_5 h
    exact rtV hR h _ _ D_T_readPieceF_8

/-- the knot: n calls deep -/
def f_rd (N : Nat) : Nat → (Nat → Int32 → Int32 → Int32 → Mm → Option Mm) × (Nat → Int32 → Int32 → Mm → Option Mm)
  | 0 => (fun _ _ _ _ _ => none, fun _ _ _ _ => none)
  | n + 1 => (f_T_readLevelF (f_rd N n).1 (f_rd N n).2 N, f_T_readPieceF (f_rd N n).1 (f_rd N n).2 N)
theorem c_rd (E : En) (N : Nat) : ∀ n : Nat, (∀ (l : Launch) (o1 : Nat) (_ : isTxt o1) (a2 a3 a4 : Int32) {mem m2 : Mm}, (f_rd N n).1 o1 a2 a3 a4 mem = some m2 → CtV l E (n + 6) y_T_readLevel prog_6_method_13_code 8 [.ref (eb E + 2), .ref (eb E + o1), .int a2, .int a3, .int a4] SH mem m2) ∧ (∀ (l : Launch) (o1 : Nat) (_ : isTxt o1) (a2 a3 : Int32) {mem m2 : Mm}, (f_rd N n).2 o1 a2 a3 mem = some m2 → CtV l E (n + 6) y_T_readPiece prog_6_method_15_code 5 [.ref (eb E + 2), .ref (eb E + o1), .int a2, .int a3] SH mem m2)
  | 0 => ⟨fun _ _ _ _ _ _ _ _ h => (by cases h), fun _ _ _ _ _ _ _ h => (by cases h)⟩
  | n + 1 => ⟨fun l o1 ho1 a2 a3 a4 _ _ h => c_T_readLevelF l E (f_rd N n).1 (f_rd N n).2 (n + 6) (by omega) (c_rd E N n).1 (c_rd E N n).2 N o1 ho1 a2 a3 a4 h, fun l o1 ho1 a2 a3 _ _ h => c_T_readPieceF l E (f_rd N n).1 (f_rd N n).2 (n + 6) (by omega) (c_rd E N n).1 (c_rd E N n).2 N o1 ho1 a2 a3 h⟩
def MD : Nat := 100
def f_T_readLevel (N o1 : Nat) (a2 a3 a4 : Int32) (mem : Mm) : Option Mm := (f_rd N MD).1 o1 a2 a3 a4 mem
theorem c_T_readLevel (l : Launch) (E : En) (N o1 : Nat) (ho1 : isTxt o1) (a2 a3 a4 : Int32) {mem m2 : Mm} (h : f_T_readLevel N o1 a2 a3 a4 mem = some m2) : CtV l E (MD + 6) y_T_readLevel prog_6_method_13_code 8 [.ref (eb E + 2), .ref (eb E + o1), .int a2, .int a3, .int a4] SH mem m2 := (c_rd E N MD).1 l o1 ho1 a2 a3 a4 h

def y_T_readInto : MethodName := ⟨"SandPicture$Tape", "readInto", "(LSandPicture$Text;)I"⟩
theorem D_T_readInto_0 : decode prog_6_method_3_code 0 = .ok (.aload_n 1, 1) ∧ 0 + 1 = 1 := by decide +kernel
theorem D_T_readInto_1 : decode prog_6_method_3_code 1 = .ok (.invokevirtual 32, 3) ∧ 1 + 3 = 4 := by decide +kernel
theorem D_T_readInto_4 : decode prog_6_method_3_code 4 = .ok (.aload_n 0, 1) ∧ 4 + 1 = 5 := by decide +kernel
theorem D_T_readInto_5 : decode prog_6_method_3_code 5 = .ok (.iconst 0, 1) ∧ 5 + 1 = 6 := by decide +kernel
theorem D_T_readInto_6 : decode prog_6_method_3_code 6 = .ok (.putfield 19, 3) ∧ 6 + 3 = 9 := by decide +kernel
theorem D_T_readInto_9 : decode prog_6_method_3_code 9 = .ok (.aload_n 0, 1) ∧ 9 + 1 = 10 := by decide +kernel
theorem D_T_readInto_10 : decode prog_6_method_3_code 10 = .ok (.iconst 0, 1) ∧ 10 + 1 = 11 := by decide +kernel
theorem D_T_readInto_11 : decode prog_6_method_3_code 11 = .ok (.putfield 22, 3) ∧ 11 + 3 = 14 := by decide +kernel
theorem D_T_readInto_14 : decode prog_6_method_3_code 14 = .ok (.aload_n 0, 1) ∧ 14 + 1 = 15 := by decide +kernel
theorem D_T_readInto_15 : decode prog_6_method_3_code 15 = .ok (.iconst (-1), 1) ∧ 15 + 1 = 16 := by decide +kernel
theorem D_T_readInto_16 : decode prog_6_method_3_code 16 = .ok (.putfield 29, 3) ∧ 16 + 3 = 19 := by decide +kernel
theorem D_T_readInto_19 : decode prog_6_method_3_code 19 = .ok (.aload_n 0, 1) ∧ 19 + 1 = 20 := by decide +kernel
theorem D_T_readInto_20 : decode prog_6_method_3_code 20 = .ok (.invokevirtual 37, 3) ∧ 20 + 3 = 23 := by decide +kernel
theorem D_T_readInto_23 : decode prog_6_method_3_code 23 = .ok (.aload_n 0, 1) ∧ 23 + 1 = 24 := by decide +kernel
theorem D_T_readInto_24 : decode prog_6_method_3_code 24 = .ok (.aload_n 1, 1) ∧ 24 + 1 = 25 := by decide +kernel
theorem D_T_readInto_25 : decode prog_6_method_3_code 25 = .ok (.invokevirtual 40, 3) ∧ 25 + 3 = 28 := by decide +kernel
theorem D_T_readInto_28 : decode prog_6_method_3_code 28 = .ok (.aload_n 0, 1) ∧ 28 + 1 = 29 := by decide +kernel
theorem D_T_readInto_29 : decode prog_6_method_3_code 29 = .ok (.aload_n 1, 1) ∧ 29 + 1 = 30 := by decide +kernel
theorem D_T_readInto_30 : decode prog_6_method_3_code 30 = .ok (.iconst 0, 1) ∧ 30 + 1 = 31 := by decide +kernel
theorem D_T_readInto_31 : decode prog_6_method_3_code 31 = .ok (.iconst 0, 1) ∧ 31 + 1 = 32 := by decide +kernel
theorem D_T_readInto_32 : decode prog_6_method_3_code 32 = .ok (.iconst 0, 1) ∧ 32 + 1 = 33 := by decide +kernel
theorem D_T_readInto_33 : decode prog_6_method_3_code 33 = .ok (.invokevirtual 44, 3) ∧ 33 + 3 = 36 := by decide +kernel
theorem D_T_readInto_36 : decode prog_6_method_3_code 36 = .ok (.aload_n 0, 1) ∧ 36 + 1 = 37 := by decide +kernel
theorem D_T_readInto_37 : decode prog_6_method_3_code 37 = .ok (.invokevirtual 48, 3) ∧ 37 + 3 = 40 := by decide +kernel
theorem D_T_readInto_40 : decode prog_6_method_3_code 40 = .ok (.iconst (-1), 1) ∧ 40 + 1 = 41 := by decide +kernel
theorem D_T_readInto_41 : decode prog_6_method_3_code 41 = .ok (.if_icmp .eq 7, 3) ∧ ((41 : Nat) : Int) + 7 = ((48 : Nat) : Int) ∧ 41 + 3 = 44 := by decide +kernel
theorem D_T_readInto_48 : decode prog_6_method_3_code 48 = .ok (.aload_n 0, 1) ∧ 48 + 1 = 49 := by decide +kernel
theorem D_T_readInto_49 : decode prog_6_method_3_code 49 = .ok (.iconst 0, 1) ∧ 49 + 1 = 50 := by decide +kernel
theorem D_T_readInto_50 : decode prog_6_method_3_code 50 = .ok (.putfield 9, 3) ∧ 50 + 3 = 53 := by decide +kernel
theorem D_T_readInto_53 : decode prog_6_method_3_code 53 = .ok (.aload_n 0, 1) ∧ 53 + 1 = 54 := by decide +kernel
theorem D_T_readInto_54 : decode prog_6_method_3_code 54 = .ok (.getfield 29, 3) ∧ 54 + 3 = 57 := by decide +kernel
theorem D_T_readInto_57 : decode prog_6_method_3_code 57 = .ok (.ireturn, 1) := by decide +kernel
theorem D_T_readInto_44 : decode prog_6_method_3_code 44 = .ok (.aload_n 0, 1) ∧ 44 + 1 = 45 := by decide +kernel
theorem D_T_readInto_45 : decode prog_6_method_3_code 45 = .ok (.invokevirtual 52, 3) ∧ 45 + 3 = 48 := by decide +kernel
def f_T_readInto (N : Nat) (o1 : Nat) (mem : Mm) : Option (Int32 × Mm) := bp (f_X_clear o1 mem) fun m_1 => lt (mst m_1 2 2 0) fun m_6 => lt (mst m_6 2 3 0) fun m_11 => lt (mst m_11 2 5 (-1)) fun m_16 => bp (f_T_step N m_16) fun m_20 => bp (f_T_readKey N o1 m_20) fun m_25 => bp (f_T_readLevel N o1 0 0 0 m_25) fun m_33 => bp (f_T_here m_33) fun r_37 => if r_37 = (-1) then lt (mst m_33 2 0 0) fun m_50 => some (m_50 2 5, m_50) else bp (f_T_fail m_33) fun m_45 => lt (mst m_45 2 0 0) fun m_50 => some (m_50 2 5, m_50)
theorem c_T_readInto (l : Launch) (E : En) (N : Nat) (o1 : Nat) (ho1 : isTxt o1) {mem : Mm} {r : Int32} {m2 : Mm} (h : f_T_readInto N o1 mem = some (r, m2)) : CtI l E (MD + 7) y_T_readInto prog_6_method_3_code 2 (some .int) [.ref (eb E + 2), .ref (eb E + o1)] SH mem r m2 := by
  refine mk_CtI ⟨by decide, (Nat.le_of_ble_eq_true rfl)⟩ (fun X S hl hR => ?_)
  have S : Std X E prog_6_method_3_code R3 2 (MD + 7) := S
  show J X E 2 0 [(0, .ref (eb E + 2)), (1, .ref (eb E + o1))] [] SH mem
  unfold f_T_readInto at h
  refine j_aload_n S D_T_readInto_0 1 rfl rfl ?_
  obtain ⟨m_1, e_1, h⟩ := bpE h
  refine j_callVV (As := []) S D_T_readInto_1 mv_R3_32 (c_X_clear (cxL X) E o1 ho1 e_1) (by decide) (sh_txt ho1) rfl rfl rfl rfl (Nat.le_of_ble_eq_true rfl) ?_
  refine j_aload_n S D_T_readInto_4 0 rfl rfl ?_
  refine j_iconst S D_T_readInto_5 ci_0 ?_
  obtain ⟨m_6, hm_6, h⟩ := ltE h
  refine j_putI S D_T_readInto_6 fp_R3_19 sh_Tape rfl ?_
  refine j_mem hm_6 ?_
  refine j_aload_n S D_T_readInto_9 0 rfl rfl ?_
  refine j_iconst S D_T_readInto_10 ci_0 ?_
  obtain ⟨m_11, hm_11, h⟩ := ltE h
  refine j_putI S D_T_readInto_11 fp_R3_22 sh_Tape rfl ?_
  refine j_mem hm_11 ?_
  refine j_aload_n S D_T_readInto_14 0 rfl rfl ?_
  refine j_iconst S D_T_readInto_15 ci_m1 ?_
  obtain ⟨m_16, hm_16, h⟩ := ltE h
  refine j_putI S D_T_readInto_16 fp_R3_29 sh_Tape rfl ?_
  refine j_mem hm_16 ?_
  refine j_aload_n S D_T_readInto_19 0 rfl rfl ?_
  obtain ⟨m_20, e_20, h⟩ := bpE h
  refine j_callVV (As := []) S D_T_readInto_20 mv_R3_37 (c_T_step (cxL X) E N e_20) (by decide) sh_Tape rfl rfl rfl rfl (Nat.le_of_ble_eq_true rfl) ?_
  refine j_aload_n S D_T_readInto_23 0 rfl rfl ?_
  refine j_aload_n S D_T_readInto_24 1 rfl rfl ?_
  obtain ⟨m_25, e_25, h⟩ := bpE h
  refine j_callVV (As := [.ref (eb E + o1)]) S D_T_readInto_25 mv_R3_40 (c_T_readKey (cxL X) E N o1 ho1 e_25) (by decide) sh_Tape rfl rfl rfl rfl (Nat.le_of_ble_eq_true rfl) ?_
  refine j_aload_n S D_T_readInto_28 0 rfl rfl ?_
  refine j_aload_n S D_T_readInto_29 1 rfl rfl ?_
  refine j_iconst S D_T_readInto_30 ci_0 ?_
  refine j_iconst S D_T_readInto_31 ci_0 ?_
  refine j_iconst S D_T_readInto_32 ci_0 ?_
  obtain ⟨m_33, e_33, h⟩ := bpE h
  refine j_callVV (As := [.ref (eb E + o1), .int 0, .int 0, .int 0]) S D_T_readInto_33 mv_R3_44 (c_T_readLevel (cxL X) E N o1 ho1 0 0 0 e_33) (by decide) sh_Tape rfl rfl rfl rfl (Nat.le_of_ble_eq_true rfl) ?_
  refine j_aload_n S D_T_readInto_36 0 rfl rfl ?_
  obtain ⟨r_37, e_37, h⟩ := bpE h
  refine j_callVI (As := []) S D_T_readInto_37 mv_R3_48 (c_T_here (cxL X) E e_37) (by decide) sh_Tape rfl rfl rfl rfl (Nat.le_of_ble_eq_true rfl) ?_
  refine j_iconst S D_T_readInto_40 ci_m1 ?_
  refine j_icmp_eq S D_T_readInto_41 (fun c_41 => ?_) (fun c_41 => ?_)
  · have h := ifT c_41 h
    refine j_aload_n S D_T_readInto_48 0 rfl rfl ?_
    refine j_iconst S D_T_readInto_49 ci_0 ?_
    obtain ⟨m_50, hm_50, h⟩ := ltE h
    refine j_putI S D_T_readInto_50 fp_R3_9 sh_Tape rfl ?_
    refine j_mem hm_50 ?_
    refine j_aload_n S D_T_readInto_53 0 rfl rfl ?_
    refine j_getI S D_T_readInto_54 fl_R3_29 sh_Tape rfl ?_
    exact rtM hR h _ _ D_T_readInto_57
  · have h := ifF c_41 h
    refine j_aload_n S D_T_readInto_44 0 rfl rfl ?_
    obtain ⟨m_45, e_45, h⟩ := bpE h
    refine j_callVV (As := []) S D_T_readInto_45 mv_R3_52 (c_T_fail (cxL X) E e_45) (by decide) sh_Tape rfl rfl rfl rfl (Nat.le_of_ble_eq_true rfl) ?_
    refine j_aload_n S D_T_readInto_48 0 rfl rfl ?_
    refine j_iconst S D_T_readInto_49 ci_0 ?_
    obtain ⟨m_50, hm_50, h⟩ := ltE h
    refine j_putI S D_T_readInto_50 fp_R3_9 sh_Tape rfl ?_
    refine j_mem hm_50 ?_
    refine j_aload_n S D_T_readInto_53 0 rfl rfl ?_
    refine j_getI S D_T_readInto_54 fl_R3_29 sh_Tape rfl ?_
    exact rtM hR h _ _ D_T_readInto_57

def y_S_text : MethodName := ⟨"SandPicture", "text", "()I"⟩
theorem D_S_text_0 : decode prog_1_method_28_code 0 = .ok (.aload_n 0, 1) ∧ 0 + 1 = 1 := by decide +kernel
theorem D_S_text_1 : decode prog_1_method_28_code 1 = .ok (.getfield 52, 3) ∧ 1 + 3 = 4 := by decide +kernel
theorem D_S_text_4 : decode prog_1_method_28_code 4 = .ok (.getfield 199, 3) ∧ 4 + 3 = 7 := by decide +kernel
theorem D_S_text_7 : decode prog_1_method_28_code 7 = .ok (.bipush 14, 2) ∧ 7 + 2 = 9 := by decide +kernel
theorem D_S_text_9 : decode prog_1_method_28_code 9 = .ok (.invokestatic 138, 3) ∧ 9 + 3 = 12 := by decide +kernel
theorem D_S_text_12 : decode prog_1_method_28_code 12 = .ok (.istore_n 1, 1) ∧ 12 + 1 = 13 := by decide +kernel
theorem D_S_text_13 : decode prog_1_method_28_code 13 = .ok (.aload_n 0, 1) ∧ 13 + 1 = 14 := by decide +kernel
theorem D_S_text_14 : decode prog_1_method_28_code 14 = .ok (.getfield 18, 3) ∧ 14 + 3 = 17 := by decide +kernel
theorem D_S_text_17 : decode prog_1_method_28_code 17 = .ok (.aload_n 0, 1) ∧ 17 + 1 = 18 := by decide +kernel
theorem D_S_text_18 : decode prog_1_method_28_code 18 = .ok (.getfield 11, 3) ∧ 18 + 3 = 21 := by decide +kernel
theorem D_S_text_21 : decode prog_1_method_28_code 21 = .ok (.iload_n 1, 1) ∧ 21 + 1 = 22 := by decide +kernel
theorem D_S_text_22 : decode prog_1_method_28_code 22 = .ok (.aaload, 1) ∧ 22 + 1 = 23 := by decide +kernel
theorem D_S_text_23 : decode prog_1_method_28_code 23 = .ok (.invokevirtual 202, 3) ∧ 23 + 3 = 26 := by decide +kernel
theorem D_S_text_26 : decode prog_1_method_28_code 26 = .ok (.istore_n 2, 1) ∧ 26 + 1 = 27 := by decide +kernel
theorem D_S_text_27 : decode prog_1_method_28_code 27 = .ok (.iload_n 2, 1) ∧ 27 + 1 = 28 := by decide +kernel
theorem D_S_text_28 : decode prog_1_method_28_code 28 = .ok (.ifCond .lt 8, 3) ∧ ((28 : Nat) : Int) + 8 = ((36 : Nat) : Int) ∧ 28 + 3 = 31 := by decide +kernel
theorem D_S_text_36 : decode prog_1_method_28_code 36 = .ok (.iload_n 1, 1) ∧ 36 + 1 = 37 := by decide +kernel
theorem D_S_text_37 : decode prog_1_method_28_code 37 = .ok (.bipush 14, 2) ∧ 37 + 2 = 39 := by decide +kernel
theorem D_S_text_39 : decode prog_1_method_28_code 39 = .ok (.if_icmp .lt 6, 3) ∧ ((39 : Nat) : Int) + 6 = ((45 : Nat) : Int) ∧ 39 + 3 = 42 := by decide +kernel
theorem D_S_text_45 : decode prog_1_method_28_code 45 = .ok (.aload_n 0, 1) ∧ 45 + 1 = 46 := by decide +kernel
theorem D_S_text_46 : decode prog_1_method_28_code 46 = .ok (.getfield 52, 3) ∧ 46 + 3 = 49 := by decide +kernel
theorem D_S_text_49 : decode prog_1_method_28_code 49 = .ok (.iload_n 1, 1) ∧ 49 + 1 = 50 := by decide +kernel
theorem D_S_text_50 : decode prog_1_method_28_code 50 = .ok (.iconst 1, 1) ∧ 50 + 1 = 51 := by decide +kernel
theorem D_S_text_51 : decode prog_1_method_28_code 51 = .ok (.iadd, 1) ∧ 51 + 1 = 52 := by decide +kernel
theorem D_S_text_52 : decode prog_1_method_28_code 52 = .ok (.putfield 199, 3) ∧ 52 + 3 = 55 := by decide +kernel
theorem D_S_text_55 : decode prog_1_method_28_code 55 = .ok (.aload_n 0, 1) ∧ 55 + 1 = 56 := by decide +kernel
theorem D_S_text_56 : decode prog_1_method_28_code 56 = .ok (.getfield 52, 3) ∧ 56 + 3 = 59 := by decide +kernel
theorem D_S_text_59 : decode prog_1_method_28_code 59 = .ok (.getfield 206, 3) ∧ 59 + 3 = 62 := by decide +kernel
theorem D_S_text_62 : decode prog_1_method_28_code 62 = .ok (.aload_n 0, 1) ∧ 62 + 1 = 63 := by decide +kernel
theorem D_S_text_63 : decode prog_1_method_28_code 63 = .ok (.getfield 11, 3) ∧ 63 + 3 = 66 := by decide +kernel
theorem D_S_text_66 : decode prog_1_method_28_code 66 = .ok (.iload_n 1, 1) ∧ 66 + 1 = 67 := by decide +kernel
theorem D_S_text_67 : decode prog_1_method_28_code 67 = .ok (.aaload, 1) ∧ 67 + 1 = 68 := by decide +kernel
theorem D_S_text_68 : decode prog_1_method_28_code 68 = .ok (.getfield 209, 3) ∧ 68 + 3 = 71 := by decide +kernel
theorem D_S_text_71 : decode prog_1_method_28_code 71 = .ok (.iload_n 1, 1) ∧ 71 + 1 = 72 := by decide +kernel
theorem D_S_text_72 : decode prog_1_method_28_code 72 = .ok (.iastore, 1) ∧ 72 + 1 = 73 := by decide +kernel
theorem D_S_text_73 : decode prog_1_method_28_code 73 = .ok (.iload_n 1, 1) ∧ 73 + 1 = 74 := by decide +kernel
theorem D_S_text_74 : decode prog_1_method_28_code 74 = .ok (.ireturn, 1) := by decide +kernel
theorem D_S_text_42 : decode prog_1_method_28_code 42 = .ok (.ldc 81, 2) ∧ 42 + 2 = 44 := by decide +kernel
theorem D_S_text_44 : decode prog_1_method_28_code 44 = .ok (.ireturn, 1) := by decide +kernel
theorem D_S_text_31 : decode prog_1_method_28_code 31 = .ok (.bipush (-100), 2) ∧ 31 + 2 = 33 := by decide +kernel
theorem D_S_text_33 : decode prog_1_method_28_code 33 = .ok (.iload_n 2, 1) ∧ 33 + 1 = 34 := by decide +kernel
theorem D_S_text_34 : decode prog_1_method_28_code 34 = .ok (.isub, 1) ∧ 34 + 1 = 35 := by decide +kernel
theorem D_S_text_35 : decode prog_1_method_28_code 35 = .ok (.ireturn, 1) := by decide +kernel
def f_S_text (N : Nat)  (mem : Mm) : Option (Int32 × Mm) := lt (if 14 < (mem 38 2) then 14 else mem 38 2) fun x_12 => if inb x_12 15 = true then bd (f_T_readInto N (7 + 2 * ix x_12) mem) fun r_23 m_23 => if r_23 < 0 then if x_12 < 14 then lt (mst m_23 38 2 (x_12 + 1)) fun m_52 => if inb (m_52 (7 + 2 * ix x_12) 0) 3 = true then lt (mst m_52 39 (ix (m_52 (7 + 2 * ix x_12) 0)) x_12) fun m_72 => some (x_12, m_72) else none else some ((-1000000003), m_23) else some ((-100) - r_23, m_23) else none
theorem c_S_text (l : Launch) (E : En) (N : Nat)  {mem : Mm} {r : Int32} {m2 : Mm} (h : f_S_text N mem = some (r, m2)) : CtI l E (MD + 8) y_S_text prog_1_method_28_code 3 (some .int) [.ref (eb E + 0)] SH mem r m2 := by
  refine mk_CtI ⟨by decide, (Nat.le_of_ble_eq_true rfl)⟩ (fun X S hl hR => ?_)
  have S : Std X E prog_1_method_28_code R5 3 (MD + 8) := S
  show J X E 3 0 [(0, .ref (eb E + 0))] [] SH mem
  unfold f_S_text at h
  refine j_aload_n S D_S_text_0 0 rfl rfl ?_
  refine j_getR S D_S_text_1 fl_R5_52 sh_Sand rfl ?_
  refine j_getI S D_S_text_4 fl_R5_199 sh_P38 rfl ?_
  refine j_bipush S D_S_text_7 cb_14 ?_
  refine j_mmin S D_S_text_9 (by decide) mm_R5_138 (Nat.le_of_ble_eq_true rfl) ?_
  obtain ⟨x_12, hx_12, h⟩ := ltE h
  refine j_nm hx_12 ?_
  refine j_istore_n S D_S_text_12 (lv := [(1, .int x_12), (0, .ref (eb E + 0))]) rfl ⟨rfl, (Nat.le_of_ble_eq_true rfl)⟩ ?_
  refine j_aload_n S D_S_text_13 1 rfl rfl ?_
  refine j_getR S D_S_text_14 fl_R5_18 sh_Sand rfl ?_
  refine j_aload_n S D_S_text_17 1 rfl rfl ?_
  refine j_getR S D_S_text_18 fl_R5_11 sh_Sand rfl ?_
  refine j_iload_n S D_S_text_21 0 rfl rfl ?_
  obtain ⟨g_22, h⟩ := gdE h
  refine j_aald S D_S_text_22 sh_1 rfl g_22 (el_txt g_22) ?_
  obtain ⟨r_23, m_23, e_23, h⟩ := bdE h
  refine j_callVI (As := [.ref (eb E + (7 + 2 * ix x_12))]) S D_S_text_23 mv_R5_202 (c_T_readInto (cxL X) E N (7 + 2 * ix x_12) (ro_txt g_22) e_23) (by decide) sh_Tape rfl rfl rfl rfl (Nat.le_of_ble_eq_true rfl) ?_
  refine j_istore_n S D_S_text_26 (lv := [(2, .int r_23), (1, .int x_12), (0, .ref (eb E + 0))]) rfl ⟨rfl, (Nat.le_of_ble_eq_true rfl)⟩ ?_
  refine j_iload_n S D_S_text_27 0 rfl rfl ?_
  refine j_if_lt S D_S_text_28 (fun c_28 => ?_) (fun c_28 => ?_)
  · have h := ifT c_28 h
    refine j_iload_n S D_S_text_36 1 rfl rfl ?_
    refine j_bipush S D_S_text_37 cb_14 ?_
    refine j_icmp_lt S D_S_text_39 (fun c_39 => ?_) (fun c_39 => ?_)
    · have h := ifT c_39 h
      refine j_aload_n S D_S_text_45 2 rfl rfl ?_
      refine j_getR S D_S_text_46 fl_R5_52 sh_Sand rfl ?_
      refine j_iload_n S D_S_text_49 1 rfl rfl ?_
      refine j_iconst S D_S_text_50 ci_1 ?_
      refine j_iadd S D_S_text_51 ?_
      obtain ⟨m_52, hm_52, h⟩ := ltE h
      refine j_putI S D_S_text_52 fp_R5_199 sh_P38 rfl ?_
      refine j_mem hm_52 ?_
      refine j_aload_n S D_S_text_55 2 rfl rfl ?_
      refine j_getR S D_S_text_56 fl_R5_52 sh_Sand rfl ?_
      refine j_getR S D_S_text_59 fl_R5_206 sh_P38 rfl ?_
      refine j_aload_n S D_S_text_62 2 rfl rfl ?_
      refine j_getR S D_S_text_63 fl_R5_11 sh_Sand rfl ?_
      refine j_iload_n S D_S_text_66 1 rfl rfl ?_
      refine j_aald S D_S_text_67 sh_1 rfl g_22 (el_txt g_22) ?_
      refine j_getI S D_S_text_68 fl_R5_209 (sh_txt (ro_txt g_22)) rfl ?_
      refine j_iload_n S D_S_text_71 1 rfl rfl ?_
      obtain ⟨g_72, h⟩ := gdE h
      obtain ⟨m_72, hm_72, h⟩ := ltE h
      refine j_iast S D_S_text_72 sh_39 g_72 ?_
      refine j_mem hm_72 ?_
      refine j_iload_n S D_S_text_73 1 rfl rfl ?_
      exact rtM hR h _ _ D_S_text_74
    · have h := ifF c_39 h
      refine j_ldc S D_S_text_42 co_R5_81 ?_
      exact rtM hR h _ _ D_S_text_44
  · have h := ifF c_28 h
    refine j_bipush S D_S_text_31 cb_m100 ?_
    refine j_iload_n S D_S_text_33 0 rfl rfl ?_
    refine j_isub S D_S_text_34 ?_
    exact rtM hR h _ _ D_S_text_35
end
