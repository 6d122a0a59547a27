section
-- ===== PART A: goes FIRST, ahead of the names: the tables' words, and 'selects' of the private methods out of them =====
/-- a private method of a class that the tables say can be made, by its rows of tables_1 -/
def lw_okq (q : MethodName × Nat) : Prop := (q.1.cls ≠ "java/lang/invoke/MethodHandle" ∧ q.1.cls ≠ "java/lang/invoke/VarHandle") ∧ Cond.instantiable q.1.cls q.2 ∈ tables_1 ∧ Cond.privateMethod q.1 ∈ tables_1 ∧ Cond.instanceMethod q.1 ∈ tables_1
theorem lw_p0 : lw_okq (⟨"SandPicture", "isMonk", "(I)Z"⟩, 10) := ⟨⟨by decide +kernel, by decide +kernel⟩, List.mem_of_getElem? (i := 17) (by decide +kernel), List.mem_of_getElem? (i := 262) (by decide +kernel), List.mem_of_getElem? (i := 263) (by decide +kernel)⟩
theorem lw_p1 : lw_okq (⟨"SandPicture$Picture", "draw", "()I"⟩, 19) := ⟨⟨by decide +kernel, by decide +kernel⟩, List.mem_of_getElem? (i := 79) (by decide +kernel), List.mem_of_getElem? (i := 357) (by decide +kernel), List.mem_of_getElem? (i := 358) (by decide +kernel)⟩
theorem lw_p2 : lw_okq (⟨"SandPicture$Picture", "work", "(I)V"⟩, 19) := ⟨⟨by decide +kernel, by decide +kernel⟩, List.mem_of_getElem? (i := 79) (by decide +kernel), List.mem_of_getElem? (i := 379) (by decide +kernel), List.mem_of_getElem? (i := 380) (by decide +kernel)⟩
theorem lw_p3 : lw_okq (⟨"SandPicture$Picture", "blowFrom", "(I)V"⟩, 19) := ⟨⟨by decide +kernel, by decide +kernel⟩, List.mem_of_getElem? (i := 79) (by decide +kernel), List.mem_of_getElem? (i := 386) (by decide +kernel), List.mem_of_getElem? (i := 387) (by decide +kernel)⟩
theorem lw_p4 : lw_okq (⟨"SandPicture$Picture", "allAreDone", "()Z"⟩, 19) := ⟨⟨by decide +kernel, by decide +kernel⟩, List.mem_of_getElem? (i := 79) (by decide +kernel), List.mem_of_getElem? (i := 390) (by decide +kernel), List.mem_of_getElem? (i := 391) (by decide +kernel)⟩
theorem lw_p5 : lw_okq (⟨"SandPicture$Picture", "wipe", "(I)V"⟩, 19) := ⟨⟨by decide +kernel, by decide +kernel⟩, List.mem_of_getElem? (i := 79) (by decide +kernel), List.mem_of_getElem? (i := 394) (by decide +kernel), List.mem_of_getElem? (i := 395) (by decide +kernel)⟩
theorem lw_p6 : lw_okq (⟨"SandPicture$Tape", "step", "()V"⟩, 6) := ⟨⟨by decide +kernel, by decide +kernel⟩, List.mem_of_getElem? (i := 27) (by decide +kernel), List.mem_of_getElem? (i := 496) (by decide +kernel), List.mem_of_getElem? (i := 497) (by decide +kernel)⟩
theorem lw_p7 : lw_okq (⟨"SandPicture$Tape", "here", "()I"⟩, 6) := ⟨⟨by decide +kernel, by decide +kernel⟩, List.mem_of_getElem? (i := 27) (by decide +kernel), List.mem_of_getElem? (i := 500) (by decide +kernel), List.mem_of_getElem? (i := 501) (by decide +kernel)⟩
theorem lw_p8 : lw_okq (⟨"SandPicture$Tape", "readKey", "(LSandPicture$Text;)V"⟩, 6) := ⟨⟨by decide +kernel, by decide +kernel⟩, List.mem_of_getElem? (i := 27) (by decide +kernel), List.mem_of_getElem? (i := 511) (by decide +kernel), List.mem_of_getElem? (i := 512) (by decide +kernel)⟩
theorem lw_p9 : lw_okq (⟨"SandPicture$Tape", "wordIs", "(Ljava/lang/String;)Z"⟩, 6) := ⟨⟨by decide +kernel, by decide +kernel⟩, List.mem_of_getElem? (i := 27) (by decide +kernel), List.mem_of_getElem? (i := 521) (by decide +kernel), List.mem_of_getElem? (i := 522) (by decide +kernel)⟩
theorem lw_p10 : lw_okq (⟨"SandPicture$Tape", "fail", "()V"⟩, 6) := ⟨⟨by decide +kernel, by decide +kernel⟩, List.mem_of_getElem? (i := 27) (by decide +kernel), List.mem_of_getElem? (i := 573) (by decide +kernel), List.mem_of_getElem? (i := 574) (by decide +kernel)⟩
theorem lw_p11 : lw_okq (⟨"SandPicture$Tape", "readLevel", "(LSandPicture$Text;III)V"⟩, 6) := ⟨⟨by decide +kernel, by decide +kernel⟩, List.mem_of_getElem? (i := 27) (by decide +kernel), List.mem_of_getElem? (i := 577) (by decide +kernel), List.mem_of_getElem? (i := 578) (by decide +kernel)⟩
theorem lw_p12 : lw_okq (⟨"SandPicture$Tape", "readPiece", "(LSandPicture$Text;II)V"⟩, 6) := ⟨⟨by decide +kernel, by decide +kernel⟩, List.mem_of_getElem? (i := 27) (by decide +kernel), List.mem_of_getElem? (i := 581) (by decide +kernel), List.mem_of_getElem? (i := 582) (by decide +kernel)⟩
theorem lw_p13 : lw_okq (⟨"SandPicture$Tape", "readName", "(LSandPicture$Text;)V"⟩, 6) := ⟨⟨by decide +kernel, by decide +kernel⟩, List.mem_of_getElem? (i := 27) (by decide +kernel), List.mem_of_getElem? (i := 585) (by decide +kernel), List.mem_of_getElem? (i := 586) (by decide +kernel)⟩
theorem lw_p14 : lw_okq (⟨"SandPicture$Text", "addCode", "(I)V"⟩, 4) := ⟨⟨by decide +kernel, by decide +kernel⟩, List.mem_of_getElem? (i := 57) (by decide +kernel), List.mem_of_getElem? (i := 654) (by decide +kernel), List.mem_of_getElem? (i := 655) (by decide +kernel)⟩
theorem lw_p15 : lw_okq (⟨"SandPicture$Tape", "readNumber", "(LSandPicture$Text;)V"⟩, 6) := ⟨⟨by decide +kernel, by decide +kernel⟩, List.mem_of_getElem? (i := 27) (by decide +kernel), List.mem_of_getElem? (i := 658) (by decide +kernel), List.mem_of_getElem? (i := 659) (by decide +kernel)⟩
def lw_privs_1 : List (MethodName × Nat) := [(⟨"SandPicture", "isMonk", "(I)Z"⟩, 10), (⟨"SandPicture$Picture", "draw", "()I"⟩, 19), (⟨"SandPicture$Picture", "work", "(I)V"⟩, 19), (⟨"SandPicture$Picture", "blowFrom", "(I)V"⟩, 19), (⟨"SandPicture$Picture", "allAreDone", "()Z"⟩, 19), (⟨"SandPicture$Picture", "wipe", "(I)V"⟩, 19), (⟨"SandPicture$Tape", "step", "()V"⟩, 6), (⟨"SandPicture$Tape", "here", "()I"⟩, 6), (⟨"SandPicture$Tape", "readKey", "(LSandPicture$Text;)V"⟩, 6), (⟨"SandPicture$Tape", "wordIs", "(Ljava/lang/String;)Z"⟩, 6), (⟨"SandPicture$Tape", "fail", "()V"⟩, 6), (⟨"SandPicture$Tape", "readLevel", "(LSandPicture$Text;III)V"⟩, 6), (⟨"SandPicture$Tape", "readPiece", "(LSandPicture$Text;II)V"⟩, 6), (⟨"SandPicture$Tape", "readName", "(LSandPicture$Text;)V"⟩, 6), (⟨"SandPicture$Text", "addCode", "(I)V"⟩, 4), (⟨"SandPicture$Tape", "readNumber", "(LSandPicture$Text;)V"⟩, 6)]
theorem lw_r1 : ∀ q ∈ lw_privs_1, lw_okq q := List.forall_mem_cons.mpr ⟨lw_p0, List.forall_mem_cons.mpr ⟨lw_p1, List.forall_mem_cons.mpr ⟨lw_p2, List.forall_mem_cons.mpr ⟨lw_p3, List.forall_mem_cons.mpr ⟨lw_p4, List.forall_mem_cons.mpr ⟨lw_p5, List.forall_mem_cons.mpr ⟨lw_p6, List.forall_mem_cons.mpr ⟨lw_p7, List.forall_mem_cons.mpr ⟨lw_p8, List.forall_mem_cons.mpr ⟨lw_p9, List.forall_mem_cons.mpr ⟨lw_p10, List.forall_mem_cons.mpr ⟨lw_p11, List.forall_mem_cons.mpr ⟨lw_p12, List.forall_mem_cons.mpr ⟨lw_p13, List.forall_mem_cons.mpr ⟨lw_p14, List.forall_mem_cons.mpr ⟨lw_p15, fun _ h => absurd h List.not_mem_nil⟩⟩⟩⟩⟩⟩⟩⟩⟩⟩⟩⟩⟩⟩⟩⟩
theorem lw_p16 : lw_okq (⟨"SandPicture$Tape", "readClosing", "()V"⟩, 6) := ⟨⟨by decide +kernel, by decide +kernel⟩, List.mem_of_getElem? (i := 27) (by decide +kernel), List.mem_of_getElem? (i := 670) (by decide +kernel), List.mem_of_getElem? (i := 671) (by decide +kernel)⟩
theorem lw_p17 : lw_okq (⟨"SandPictureModel", "comes", "(III)I"⟩, 34) := ⟨⟨by decide +kernel, by decide +kernel⟩, List.mem_of_getElem? (i := 768) (by decide +kernel), List.mem_of_getElem? (i := 891) (by decide +kernel), List.mem_of_getElem? (i := 892) (by decide +kernel)⟩
theorem lw_p18 : lw_okq (⟨"SandPictureModel", "isMonk", "(I)Z"⟩, 34) := ⟨⟨by decide +kernel, by decide +kernel⟩, List.mem_of_getElem? (i := 768) (by decide +kernel), List.mem_of_getElem? (i := 899) (by decide +kernel), List.mem_of_getElem? (i := 900) (by decide +kernel)⟩
theorem lw_p19 : lw_okq (⟨"SandPictureModel", "of", "(II)I"⟩, 34) := ⟨⟨by decide +kernel, by decide +kernel⟩, List.mem_of_getElem? (i := 768) (by decide +kernel), List.mem_of_getElem? (i := 903) (by decide +kernel), List.mem_of_getElem? (i := 904) (by decide +kernel)⟩
theorem lw_p20 : lw_okq (⟨"SandPictureModel", "worthOf", "(I)I"⟩, 34) := ⟨⟨by decide +kernel, by decide +kernel⟩, List.mem_of_getElem? (i := 768) (by decide +kernel), List.mem_of_getElem? (i := 907) (by decide +kernel), List.mem_of_getElem? (i := 908) (by decide +kernel)⟩
theorem lw_p21 : lw_okq (⟨"SandPictureModel", "poursBy", "(II)I"⟩, 34) := ⟨⟨by decide +kernel, by decide +kernel⟩, List.mem_of_getElem? (i := 768) (by decide +kernel), List.mem_of_getElem? (i := 915) (by decide +kernel), List.mem_of_getElem? (i := 916) (by decide +kernel)⟩
theorem lw_p22 : lw_okq (⟨"SandPictureModel", "counts", "(I)I"⟩, 34) := ⟨⟨by decide +kernel, by decide +kernel⟩, List.mem_of_getElem? (i := 768) (by decide +kernel), List.mem_of_getElem? (i := 919) (by decide +kernel), List.mem_of_getElem? (i := 920) (by decide +kernel)⟩
theorem lw_p23 : lw_okq (⟨"SandPictureModel", "at0", "(II)I"⟩, 34) := ⟨⟨by decide +kernel, by decide +kernel⟩, List.mem_of_getElem? (i := 768) (by decide +kernel), List.mem_of_getElem? (i := 923) (by decide +kernel), List.mem_of_getElem? (i := 924) (by decide +kernel)⟩
theorem lw_p24 : lw_okq (⟨"SandPictureModel", "worksOut", "(I)I"⟩, 34) := ⟨⟨by decide +kernel, by decide +kernel⟩, List.mem_of_getElem? (i := 768) (by decide +kernel), List.mem_of_getElem? (i := 927) (by decide +kernel), List.mem_of_getElem? (i := 928) (by decide +kernel)⟩
theorem lw_p25 : lw_okq (⟨"SandPictureModel", "spills", "(II)I"⟩, 34) := ⟨⟨by decide +kernel, by decide +kernel⟩, List.mem_of_getElem? (i := 768) (by decide +kernel), List.mem_of_getElem? (i := 937) (by decide +kernel), List.mem_of_getElem? (i := 938) (by decide +kernel)⟩
theorem lw_p26 : lw_okq (⟨"SandPictureModel", "adds", "(II)I"⟩, 34) := ⟨⟨by decide +kernel, by decide +kernel⟩, List.mem_of_getElem? (i := 768) (by decide +kernel), List.mem_of_getElem? (i := 941) (by decide +kernel), List.mem_of_getElem? (i := 942) (by decide +kernel)⟩
theorem lw_p27 : lw_okq (⟨"SandPictureModel", "becomes", "(II)I"⟩, 34) := ⟨⟨by decide +kernel, by decide +kernel⟩, List.mem_of_getElem? (i := 768) (by decide +kernel), List.mem_of_getElem? (i := 957) (by decide +kernel), List.mem_of_getElem? (i := 958) (by decide +kernel)⟩
theorem lw_p28 : lw_okq (⟨"SandPictureModel", "draw", "()I"⟩, 34) := ⟨⟨by decide +kernel, by decide +kernel⟩, List.mem_of_getElem? (i := 768) (by decide +kernel), List.mem_of_getElem? (i := 986) (by decide +kernel), List.mem_of_getElem? (i := 987) (by decide +kernel)⟩
theorem lw_p29 : lw_okq (⟨"SandPictureModel", "goesOn", "(I)I"⟩, 34) := ⟨⟨by decide +kernel, by decide +kernel⟩, List.mem_of_getElem? (i := 768) (by decide +kernel), List.mem_of_getElem? (i := 999) (by decide +kernel), List.mem_of_getElem? (i := 1000) (by decide +kernel)⟩
theorem lw_p30 : lw_okq (⟨"SandPictureModel", "hour", "()I"⟩, 34) := ⟨⟨by decide +kernel, by decide +kernel⟩, List.mem_of_getElem? (i := 768) (by decide +kernel), List.mem_of_getElem? (i := 1003) (by decide +kernel), List.mem_of_getElem? (i := 1004) (by decide +kernel)⟩
theorem lw_p31 : lw_okq (⟨"SandPictureModel", "pours", "(II)V"⟩, 34) := ⟨⟨by decide +kernel, by decide +kernel⟩, List.mem_of_getElem? (i := 768) (by decide +kernel), List.mem_of_getElem? (i := 1007) (by decide +kernel), List.mem_of_getElem? (i := 1008) (by decide +kernel)⟩
def lw_privs_2 : List (MethodName × Nat) := [(⟨"SandPicture$Tape", "readClosing", "()V"⟩, 6), (⟨"SandPictureModel", "comes", "(III)I"⟩, 34), (⟨"SandPictureModel", "isMonk", "(I)Z"⟩, 34), (⟨"SandPictureModel", "of", "(II)I"⟩, 34), (⟨"SandPictureModel", "worthOf", "(I)I"⟩, 34), (⟨"SandPictureModel", "poursBy", "(II)I"⟩, 34), (⟨"SandPictureModel", "counts", "(I)I"⟩, 34), (⟨"SandPictureModel", "at0", "(II)I"⟩, 34), (⟨"SandPictureModel", "worksOut", "(I)I"⟩, 34), (⟨"SandPictureModel", "spills", "(II)I"⟩, 34), (⟨"SandPictureModel", "adds", "(II)I"⟩, 34), (⟨"SandPictureModel", "becomes", "(II)I"⟩, 34), (⟨"SandPictureModel", "draw", "()I"⟩, 34), (⟨"SandPictureModel", "goesOn", "(I)I"⟩, 34), (⟨"SandPictureModel", "hour", "()I"⟩, 34), (⟨"SandPictureModel", "pours", "(II)V"⟩, 34)]
theorem lw_r2 : ∀ q ∈ lw_privs_2, lw_okq q := List.forall_mem_cons.mpr ⟨lw_p16, List.forall_mem_cons.mpr ⟨lw_p17, List.forall_mem_cons.mpr ⟨lw_p18, List.forall_mem_cons.mpr ⟨lw_p19, List.forall_mem_cons.mpr ⟨lw_p20, List.forall_mem_cons.mpr ⟨lw_p21, List.forall_mem_cons.mpr ⟨lw_p22, List.forall_mem_cons.mpr ⟨lw_p23, List.forall_mem_cons.mpr ⟨lw_p24, List.forall_mem_cons.mpr ⟨lw_p25, List.forall_mem_cons.mpr ⟨lw_p26, List.forall_mem_cons.mpr ⟨lw_p27, List.forall_mem_cons.mpr ⟨lw_p28, List.forall_mem_cons.mpr ⟨lw_p29, List.forall_mem_cons.mpr ⟨lw_p30, List.forall_mem_cons.mpr ⟨lw_p31, fun _ h => absurd h List.not_mem_nil⟩⟩⟩⟩⟩⟩⟩⟩⟩⟩⟩⟩⟩⟩⟩⟩
theorem lw_p32 : lw_okq (⟨"SandPictureModel", "blows", "()V"⟩, 34) := ⟨⟨by decide +kernel, by decide +kernel⟩, List.mem_of_getElem? (i := 768) (by decide +kernel), List.mem_of_getElem? (i := 1011) (by decide +kernel), List.mem_of_getElem? (i := 1012) (by decide +kernel)⟩
theorem lw_p33 : lw_okq (⟨"SandPictureModel", "isDone", "(I)Z"⟩, 34) := ⟨⟨by decide +kernel, by decide +kernel⟩, List.mem_of_getElem? (i := 768) (by decide +kernel), List.mem_of_getElem? (i := 1015) (by decide +kernel), List.mem_of_getElem? (i := 1016) (by decide +kernel)⟩
theorem lw_p34 : lw_okq (⟨"SandPictureModel", "wipes", "(I)V"⟩, 34) := ⟨⟨by decide +kernel, by decide +kernel⟩, List.mem_of_getElem? (i := 768) (by decide +kernel), List.mem_of_getElem? (i := 1019) (by decide +kernel), List.mem_of_getElem? (i := 1020) (by decide +kernel)⟩
theorem lw_p35 : lw_okq (⟨"SandPictureModel", "sumOf", "(I)I"⟩, 34) := ⟨⟨by decide +kernel, by decide +kernel⟩, List.mem_of_getElem? (i := 768) (by decide +kernel), List.mem_of_getElem? (i := 1027) (by decide +kernel), List.mem_of_getElem? (i := 1028) (by decide +kernel)⟩
theorem lw_p36 : lw_okq (⟨"SandPictureModel", "thinks", "()V"⟩, 34) := ⟨⟨by decide +kernel, by decide +kernel⟩, List.mem_of_getElem? (i := 768) (by decide +kernel), List.mem_of_getElem? (i := 1039) (by decide +kernel), List.mem_of_getElem? (i := 1040) (by decide +kernel)⟩
theorem lw_p37 : lw_okq (⟨"SandPictureModel", "putsBack", "()V"⟩, 34) := ⟨⟨by decide +kernel, by decide +kernel⟩, List.mem_of_getElem? (i := 768) (by decide +kernel), List.mem_of_getElem? (i := 1043) (by decide +kernel), List.mem_of_getElem? (i := 1044) (by decide +kernel)⟩
theorem lw_p38 : lw_okq (⟨"SandPictureModel", "offBy", "(III)J"⟩, 34) := ⟨⟨by decide +kernel, by decide +kernel⟩, List.mem_of_getElem? (i := 768) (by decide +kernel), List.mem_of_getElem? (i := 1080) (by decide +kernel), List.mem_of_getElem? (i := 1081) (by decide +kernel)⟩
theorem lw_p39 : lw_okq (⟨"SandPictureModel", "go", "()V"⟩, 34) := ⟨⟨by decide +kernel, by decide +kernel⟩, List.mem_of_getElem? (i := 768) (by decide +kernel), List.mem_of_getElem? (i := 1100) (by decide +kernel), List.mem_of_getElem? (i := 1101) (by decide +kernel)⟩
theorem lw_p40 : lw_okq (⟨"SandPictureModel", "isLetter", "(I)Z"⟩, 34) := ⟨⟨by decide +kernel, by decide +kernel⟩, List.mem_of_getElem? (i := 768) (by decide +kernel), List.mem_of_getElem? (i := 1104) (by decide +kernel), List.mem_of_getElem? (i := 1105) (by decide +kernel)⟩
theorem lw_p41 : lw_okq (⟨"SandPictureModel", "isFigure", "(I)Z"⟩, 34) := ⟨⟨by decide +kernel, by decide +kernel⟩, List.mem_of_getElem? (i := 768) (by decide +kernel), List.mem_of_getElem? (i := 1108) (by decide +kernel), List.mem_of_getElem? (i := 1109) (by decide +kernel)⟩
theorem lw_p42 : lw_okq (⟨"SandPictureModel", "takesKey", "()Z"⟩, 34) := ⟨⟨by decide +kernel, by decide +kernel⟩, List.mem_of_getElem? (i := 768) (by decide +kernel), List.mem_of_getElem? (i := 1112) (by decide +kernel), List.mem_of_getElem? (i := 1113) (by decide +kernel)⟩
theorem lw_p43 : lw_okq (⟨"SandPictureModel", "takesE", "()Z"⟩, 34) := ⟨⟨by decide +kernel, by decide +kernel⟩, List.mem_of_getElem? (i := 768) (by decide +kernel), List.mem_of_getElem? (i := 1116) (by decide +kernel), List.mem_of_getElem? (i := 1117) (by decide +kernel)⟩
theorem lw_p44 : lw_okq (⟨"SandPictureModel", "takesPart", "()Z"⟩, 34) := ⟨⟨by decide +kernel, by decide +kernel⟩, List.mem_of_getElem? (i := 768) (by decide +kernel), List.mem_of_getElem? (i := 1120) (by decide +kernel), List.mem_of_getElem? (i := 1121) (by decide +kernel)⟩
theorem lw_p45 : lw_okq (⟨"SandPictureModel", "nameOf", "(I)I"⟩, 34) := ⟨⟨by decide +kernel, by decide +kernel⟩, List.mem_of_getElem? (i := 768) (by decide +kernel), List.mem_of_getElem? (i := 1124) (by decide +kernel), List.mem_of_getElem? (i := 1125) (by decide +kernel)⟩
theorem lw_p46 : lw_okq (⟨"SandPictureModel", "settle", "(I)V"⟩, 34) := ⟨⟨by decide +kernel, by decide +kernel⟩, List.mem_of_getElem? (i := 768) (by decide +kernel), List.mem_of_getElem? (i := 1128) (by decide +kernel), List.mem_of_getElem? (i := 1129) (by decide +kernel)⟩
theorem lw_p47 : lw_okq (⟨"SandPictureModel", "notsOpen", "()I"⟩, 34) := ⟨⟨by decide +kernel, by decide +kernel⟩, List.mem_of_getElem? (i := 768) (by decide +kernel), List.mem_of_getElem? (i := 1135) (by decide +kernel), List.mem_of_getElem? (i := 1136) (by decide +kernel)⟩
def lw_privs_3 : List (MethodName × Nat) := [(⟨"SandPictureModel", "blows", "()V"⟩, 34), (⟨"SandPictureModel", "isDone", "(I)Z"⟩, 34), (⟨"SandPictureModel", "wipes", "(I)V"⟩, 34), (⟨"SandPictureModel", "sumOf", "(I)I"⟩, 34), (⟨"SandPictureModel", "thinks", "()V"⟩, 34), (⟨"SandPictureModel", "putsBack", "()V"⟩, 34), (⟨"SandPictureModel", "offBy", "(III)J"⟩, 34), (⟨"SandPictureModel", "go", "()V"⟩, 34), (⟨"SandPictureModel", "isLetter", "(I)Z"⟩, 34), (⟨"SandPictureModel", "isFigure", "(I)Z"⟩, 34), (⟨"SandPictureModel", "takesKey", "()Z"⟩, 34), (⟨"SandPictureModel", "takesE", "()Z"⟩, 34), (⟨"SandPictureModel", "takesPart", "()Z"⟩, 34), (⟨"SandPictureModel", "nameOf", "(I)I"⟩, 34), (⟨"SandPictureModel", "settle", "(I)V"⟩, 34), (⟨"SandPictureModel", "notsOpen", "()I"⟩, 34)]
theorem lw_r3 : ∀ q ∈ lw_privs_3, lw_okq q := List.forall_mem_cons.mpr ⟨lw_p32, List.forall_mem_cons.mpr ⟨lw_p33, List.forall_mem_cons.mpr ⟨lw_p34, List.forall_mem_cons.mpr ⟨lw_p35, List.forall_mem_cons.mpr ⟨lw_p36, List.forall_mem_cons.mpr ⟨lw_p37, List.forall_mem_cons.mpr ⟨lw_p38, List.forall_mem_cons.mpr ⟨lw_p39, List.forall_mem_cons.mpr ⟨lw_p40, List.forall_mem_cons.mpr ⟨lw_p41, List.forall_mem_cons.mpr ⟨lw_p42, List.forall_mem_cons.mpr ⟨lw_p43, List.forall_mem_cons.mpr ⟨lw_p44, List.forall_mem_cons.mpr ⟨lw_p45, List.forall_mem_cons.mpr ⟨lw_p46, List.forall_mem_cons.mpr ⟨lw_p47, fun _ h => absurd h List.not_mem_nil⟩⟩⟩⟩⟩⟩⟩⟩⟩⟩⟩⟩⟩⟩⟩⟩
theorem lw_p48 : lw_okq (⟨"SandPictureModel", "signHere", "()I"⟩, 34) := ⟨⟨by decide +kernel, by decide +kernel⟩, List.mem_of_getElem? (i := 768) (by decide +kernel), List.mem_of_getElem? (i := 1139) (by decide +kernel), List.mem_of_getElem? (i := 1140) (by decide +kernel)⟩
theorem lw_p49 : lw_okq (⟨"SandPictureModel", "sandAll", "()I"⟩, 34) := ⟨⟨by decide +kernel, by decide +kernel⟩, List.mem_of_getElem? (i := 768) (by decide +kernel), List.mem_of_getElem? (i := 1205) (by decide +kernel), List.mem_of_getElem? (i := 1206) (by decide +kernel)⟩
theorem lw_p50 : lw_okq (⟨"SandPictureModel", "faulty", "()I"⟩, 34) := ⟨⟨by decide +kernel, by decide +kernel⟩, List.mem_of_getElem? (i := 768) (by decide +kernel), List.mem_of_getElem? (i := 1221) (by decide +kernel), List.mem_of_getElem? (i := 1222) (by decide +kernel)⟩
def lw_privs_4 : List (MethodName × Nat) := [(⟨"SandPictureModel", "signHere", "()I"⟩, 34), (⟨"SandPictureModel", "sandAll", "()I"⟩, 34), (⟨"SandPictureModel", "faulty", "()I"⟩, 34)]
theorem lw_r4 : ∀ q ∈ lw_privs_4, lw_okq q := List.forall_mem_cons.mpr ⟨lw_p48, List.forall_mem_cons.mpr ⟨lw_p49, List.forall_mem_cons.mpr ⟨lw_p50, fun _ h => absurd h List.not_mem_nil⟩⟩⟩
def lw_privs : List (MethodName × Nat) := lw_privs_1 ++ (lw_privs_2 ++ (lw_privs_3 ++ (lw_privs_4)))
def lw_tbl : List Cond := k2_sels lw_privs ++ tables_1
theorem lw_privs_ok : ∀ q ∈ lw_privs, lw_okq q := by
  show ∀ q ∈ lw_privs_1 ++ (lw_privs_2 ++ (lw_privs_3 ++ (lw_privs_4))), lw_okq q
  exact List.forall_mem_append.mpr ⟨lw_r1, List.forall_mem_append.mpr ⟨lw_r2, List.forall_mem_append.mpr ⟨lw_r3, lw_r4⟩⟩⟩
end
section
/-! THE WORLD: cells at consecutive addresses from a base b on; each cell has a SHAPE (which never changes behind the constructors), and the ints in it are told by ONE function mem: cell, place -> int. -/
abbrev Mm : Type := Nat → Nat → Int32
/-- a place of an object: none: an int; some none: null; some (some t): a reference to cell t -/
abbrev Sl : Type := Option (Option Nat)
/-- a cell: an object (its class, its places); a row of ints (its class, its length); a row of references (its class, what they are) -/
abbrev Sh : Type := (Nat × List Sl) ⊕ ((Nat × Nat) ⊕ (Nat × List (Option Nat)))
abbrev En : Type := va_G × (Nat → ClassId) × Nat × (Nat → Nat) × (Nat → Nat)
abbrev Cx : Type := Program × Launch × Env × Room × State × MethodId × Array Value × List Frame × Method × Code × (Nat × Nat) × (State → Prop)
def mst (mem : Mm) (k i : Nat) (v : Int32) : Mm := va_up mem k (upd (mem k) i v)
def slv (b : Nat) (f : Nat → Int32) (i : Nat) (s : Sl) : Value := match s with
  | none => .int (f i)
  | some r => va_rf (r.map (fun t => b + t))
def fls (b : Nat) (f : Nat → Int32) (sl : List Sl) : List Value := sl.mapIdx (fun i s => slv b f i s)
def cel (cA : Nat → ClassId) (b : Nat) (f : Nat → Int32) (h : Sh) : va_E := match h with
  | .inl q => .inr (q.1, fls b f q.2)
  | .inr (.inl q) => .inl (cA q.1, q.2, .inl f)
  | .inr (.inr q) => .inl (cA q.1, q.2.length, .inr (.inr (.inr (.inr (fun j => (q.2.getD j none).map (fun t => b + t))))))
def wd (E : En) (sh : List Sh) (mem : Mm) : va_W := sh.mapIdx (fun k h => (E.2.2.1 + k, cel E.2.1 E.2.2.1 (mem k) h))
abbrev eb (E : En) : Nat := E.2.2.1
def Ab (E : En) : Nat → Prop := fun q => E.2.2.1 ≤ q
theorem wd_at {E : En} {sh : List Sh} {mem : Mm} {k : Nat} {h : Sh} (hk : sh[k]? = some h) : (wd E sh mem)[k]? = some (E.2.2.1 + k, cel E.2.1 E.2.2.1 (mem k) h) := by
  unfold wd
  rw [List.getElem?_mapIdx, hk]
  rfl
theorem wd_out {E : En} {sh : List Sh} {mem : Mm} {k : Nat} {q : Nat × va_E} (h : (wd E sh mem)[k]? = some q) : ∃ s, sh[k]? = some s ∧ q = (E.2.2.1 + k, cel E.2.1 E.2.2.1 (mem k) s) := by
  unfold wd at h
  rw [List.getElem?_mapIdx] at h
  cases hs : sh[k]? with
  | none => rw [hs] at h; cases h
  | some s => rw [hs] at h; exact ⟨s, rfl, (Option.some.inj h).symm⟩
theorem wd_D (E : En) (sh : List Sh) (mem : Mm) : va_D (Ab E) (wd E sh mem) := by
  refine ⟨fun i j p q hi hj hpq => ?_, fun k q hk => ?_⟩
  · obtain ⟨_, _, e1⟩ := wd_out hi
    obtain ⟨_, _, e2⟩ := wd_out hj
    rw [e1, e2] at hpq
    exact Nat.add_left_cancel hpq
  · obtain ⟨-, -, rfl⟩ := wd_out hk
    exact Nat.le_add_right _ _
theorem wd_set {E : En} {sh : List Sh} {mem : Mm} {k : Nat} {h : Sh} (hk : sh[k]? = some h) (g : Nat → Int32) : (wd E sh mem).set k (E.2.2.1 + k, cel E.2.1 E.2.2.1 g h) = wd E sh (va_up mem k g) := by
  have hlt : k < sh.length := (List.getElem?_eq_some_iff.mp hk).1
  have hlen : k < (wd E sh mem).length := by unfold wd; rw [List.length_mapIdx]; exact hlt
  apply List.ext_getElem?
  intro j
  by_cases hj : j = k
  · subst hj
    rw [List.getElem?_set_self hlen, wd_at hk, va_up_self]
  · rw [List.getElem?_set_ne (Ne.symm hj)]
    cases hs : sh[j]? with
    | none => simp [wd, List.getElem?_mapIdx, hs]
    | some s => rw [wd_at hs, wd_at hs, va_up_ne _ _ hj]
theorem wd_seth {E : En} {sh : List Sh} {mem : Mm} {k : Nat} {h : Sh} (hk : sh[k]? = some h) (h2 : Sh) : (wd E sh mem).set k (E.2.2.1 + k, cel E.2.1 E.2.2.1 (mem k) h2) = wd E (sh.set k h2) mem := by
  have hlt : k < sh.length := (List.getElem?_eq_some_iff.mp hk).1
  have hlen : k < (wd E sh mem).length := by unfold wd; rw [List.length_mapIdx]; exact hlt
  apply List.ext_getElem?
  intro j
  by_cases hj : j = k
  · subst hj
    rw [List.getElem?_set_self hlen, wd_at (List.getElem?_set_self hlt)]
  · rw [List.getElem?_set_ne (Ne.symm hj)]
    cases hs : sh[j]? with
    | none => simp [wd, List.getElem?_mapIdx, hs, List.getElem?_set_ne (Ne.symm hj)]
    | some s => rw [wd_at hs, wd_at (by rw [List.getElem?_set_ne (Ne.symm hj)]; exact hs)]
theorem wd_push (E : En) (sh : List Sh) (mem : Mm) (h : Sh) (g : Nat → Int32) : wd E sh mem ++ [(E.2.2.1 + sh.length, cel E.2.1 E.2.2.1 g h)] = wd E (sh ++ [h]) (va_up mem sh.length g) := by
  have hl : (wd E sh mem).length = sh.length := by unfold wd; rw [List.length_mapIdx]
  apply List.ext_getElem?
  intro j
  rcases Nat.lt_trichotomy j sh.length with hj | hj | hj
  · obtain ⟨s, hs⟩ : ∃ s, sh[j]? = some s := ⟨_, List.getElem?_eq_getElem hj⟩
    rw [List.getElem?_append_left (by rw [hl]; exact hj), wd_at hs, wd_at (by rw [List.getElem?_append_left hj]; exact hs), va_up_ne _ _ (Nat.ne_of_lt hj)]
  · subst hj
    rw [List.getElem?_append_right (by rw [hl]; exact Nat.le_refl _), hl, Nat.sub_self, wd_at (h := h) (by rw [List.getElem?_append_right (Nat.le_refl _), Nat.sub_self]; rfl), va_up_self]
    rfl
  · rw [List.getElem?_eq_none (by simp [hl]; omega), List.getElem?_eq_none (by simp [wd]; omega)]
theorem fls_at {b : Nat} {f : Nat → Int32} {sl : List Sl} {i : Nat} {s : Sl} (h : sl[i]? = some s) : (fls b f sl)[i]? = some (slv b f i s) := by
  unfold fls
  rw [List.getElem?_mapIdx, h]
  rfl
theorem fls_len (b : Nat) (f : Nat → Int32) (sl : List Sl) : (fls b f sl).length = sl.length := by unfold fls; rw [List.length_mapIdx]
theorem fls_int {b : Nat} {f : Nat → Int32} {sl : List Sl} {i : Nat} (h : sl[i]? = some none) (v : Int32) : (fls b f sl).set i (.int v) = fls b (upd f i v) sl := by
  have hlt : i < sl.length := (List.getElem?_eq_some_iff.mp h).1
  apply List.ext_getElem?
  intro j
  by_cases hj : j = i
  · subst hj
    rw [List.getElem?_set_self (by rw [fls_len]; exact hlt), fls_at h]
    simp [slv, upd]
  · rw [List.getElem?_set_ne (Ne.symm hj)]
    cases hs : sl[j]? with
    | none => simp [fls, List.getElem?_mapIdx, hs]
    | some s =>
      rw [fls_at hs, fls_at hs]
      cases s with
      | none => simp [slv, upd, hj]
      | some r => rfl
theorem fls_ref {b : Nat} {f : Nat → Int32} {sl : List Sl} {i : Nat} {s : Sl} (h : sl[i]? = some s) (t : Nat) : (fls b f sl).set i (.ref (b + t)) = fls b f (sl.set i (some (some t))) := by
  have hlt : i < sl.length := (List.getElem?_eq_some_iff.mp h).1
  apply List.ext_getElem?
  intro j
  by_cases hj : j = i
  · subst hj
    rw [List.getElem?_set_self (by rw [fls_len]; exact hlt), fls_at (List.getElem?_set_self hlt)]
    rfl
  · rw [List.getElem?_set_ne (Ne.symm hj)]
    cases hs : sl[j]? with
    | none => simp [fls, List.getElem?_mapIdx, hs, List.getElem?_set_ne (Ne.symm hj)]
    | some s => rw [fls_at hs, fls_at (by rw [List.getElem?_set_ne (Ne.symm hj)]; exact hs)]
-- indices
def inb (i : Int32) (n : Nat) : Bool := decide (0 ≤ i) && decide (i.toNatClampNeg < n)
abbrev ix (i : Int32) : Nat := i.toNatClampNeg
theorem inb_vp {i : Int32} {n : Nat} (h : inb i n = true) : vp_in i n := by
  unfold inb at h
  simp only [Bool.and_eq_true, decide_eq_true_eq] at h
  intro q
  rcases q with q | q
  · rw [Int32.lt_iff_toInt_lt] at q
    have := Int32.le_iff_toInt_le.mp h.1
    omega
  · omega
-- the tables' good words
def TB : List Cond := lw_tbl.filter goodWord
theorem tb_in {w : Cond} (h : w ∈ lw_tbl) (hg : goodWord w = true) : w ∈ TB := List.mem_filter.mpr ⟨h, hg⟩
theorem tb_t {w : Cond} (i : Nat) (h : tables_1[i]? = some w ∧ goodWord w = true) : w ∈ TB := tb_in (List.mem_append_right _ (List.mem_of_getElem? h.1)) h.2
theorem tb_s {w : Cond} (i : Nat) (h : (k2_sels lw_privs)[i]? = some w ∧ goodWord w = true) : w ∈ TB := tb_in (List.mem_append_left _ (List.mem_of_getElem? h.1)) h.2
theorem tb_good {w : Cond} (h : w ∈ TB) : (w.onTables && w.keeps) = true ∨ ∃ ty, w = .arrayClass ty := good_of_word (List.mem_filter.mp h).2
end
section
def R0 : String := "SandPicture$Picture"
def T0 : u_T := fun k => match k with
  | 0 => ("SandPicture$Picture", "texts", "[LSandPicture$Text;", true)
  | 1 => ("SandPicture$Picture", "stack", "[I", true)
  | 2 => ("SandPicture$Picture", "textCount", "I", false)
  | 3 => ("SandPicture$Picture", "law", "[I", true)
  | 4 => ("SandPicture$Picture", "monks", "I", false)
  | 5 => ("SandPicture$Picture", "kind", "[I", true)
  | 6 => ("SandPicture$Picture", "pace", "[I", true)
  | 7 => ("SandPicture$Picture", "at", "[I", true)
  | 8 => ("SandPicture$Picture", "need", "[I", true)
  | 9 => ("SandPicture$Picture", "done", "[I", true)
  | 10 => ("SandPicture$Picture", "faults", "[I", true)
  | 11 => ("SandPicture$Picture", "wiped", "[I", true)
  | 12 => ("SandPicture$Picture", "sand", "[I", true)
  | 13 => ("SandPicture$Picture", "wind", "I", false)
  | 14 => ("SandPicture$Picture", "spilt", "I", false)
  | 15 => ("SandPicture$Picture", "hour", "I", false)
  | 16 => ("SandPicture$Picture", "ends", "I", false)
  | 17 => ("SandPicture$Picture", "z", "I", false)
  | _ => ("SandPicture$Picture", "idle", "I", false)
def ty0 : Nat → FieldType := fun k => match k with
  | 0 => .array (.object "SandPicture$Text")
  | 1 => .array .int
  | 2 => .int
  | 3 => .array .int
  | 4 => .int
  | 5 => .array .int
  | 6 => .array .int
  | 7 => .array .int
  | 8 => .array .int
  | 9 => .array .int
  | 10 => .array .int
  | 11 => .array .int
  | 12 => .array .int
  | 13 => .int
  | 14 => .int
  | 15 => .int
  | 16 => .int
  | 17 => .int
  | _ => .int
theorem nm0 : ∀ a, a < 19 → ∀ b, b < 19 → a ≠ b → (T0 a).2.1 ≠ (T0 b).2.1 := by decide +kernel
theorem tok0 : ∀ k, k < 19 → parseFieldDescriptor (T0 k).2.2.1 = some (ty0 k) := by decide +kernel
theorem iw0_0 : u_lay R0 T0 0 ∈ TB := tb_t 121 (by decide +kernel)
theorem iw0_1 : u_lay R0 T0 1 ∈ TB := tb_t 123 (by decide +kernel)
theorem iw0_2 : u_lay R0 T0 2 ∈ TB := tb_t 125 (by decide +kernel)
theorem iw0_3 : u_lay R0 T0 3 ∈ TB := tb_t 127 (by decide +kernel)
theorem iw0_4 : u_lay R0 T0 4 ∈ TB := tb_t 129 (by decide +kernel)
theorem iw0_5 : u_lay R0 T0 5 ∈ TB := tb_t 131 (by decide +kernel)
theorem iw0_6 : u_lay R0 T0 6 ∈ TB := tb_t 133 (by decide +kernel)
theorem iw0_7 : u_lay R0 T0 7 ∈ TB := tb_t 135 (by decide +kernel)
theorem iw0_8 : u_lay R0 T0 8 ∈ TB := tb_t 137 (by decide +kernel)
theorem iw0_9 : u_lay R0 T0 9 ∈ TB := tb_t 139 (by decide +kernel)
theorem iw0_10 : u_lay R0 T0 10 ∈ TB := tb_t 141 (by decide +kernel)
theorem iw0_11 : u_lay R0 T0 11 ∈ TB := tb_t 143 (by decide +kernel)
theorem iw0_12 : u_lay R0 T0 12 ∈ TB := tb_t 145 (by decide +kernel)
theorem iw0_13 : u_lay R0 T0 13 ∈ TB := tb_t 147 (by decide +kernel)
theorem iw0_14 : u_lay R0 T0 14 ∈ TB := tb_t 149 (by decide +kernel)
theorem iw0_15 : u_lay R0 T0 15 ∈ TB := tb_t 151 (by decide +kernel)
theorem iw0_16 : u_lay R0 T0 16 ∈ TB := tb_t 153 (by decide +kernel)
theorem iw0_17 : u_lay R0 T0 17 ∈ TB := tb_t 155 (by decide +kernel)
theorem iw0_18 : u_lay R0 T0 18 ∈ TB := tb_t 157 (by decide +kernel)
theorem iw0 : ∀ w ∈ u_ws R0 T0 19, w ∈ TB := by
  intro w hw
  obtain ⟨k, hk, rfl⟩ := List.mem_map.mp hw
  have hk := List.mem_range.mp hk
  match k, hk with
  | 0, _ => exact iw0_0
  | 1, _ => exact iw0_1
  | 2, _ => exact iw0_2
  | 3, _ => exact iw0_3
  | 4, _ => exact iw0_4
  | 5, _ => exact iw0_5
  | 6, _ => exact iw0_6
  | 7, _ => exact iw0_7
  | 8, _ => exact iw0_8
  | 9, _ => exact iw0_9
  | 10, _ => exact iw0_10
  | 11, _ => exact iw0_11
  | 12, _ => exact iw0_12
  | 13, _ => exact iw0_13
  | 14, _ => exact iw0_14
  | 15, _ => exact iw0_15
  | 16, _ => exact iw0_16
  | 17, _ => exact iw0_17
  | 18, _ => exact iw0_18
  | k + 19, h => exact absurd h (by omega)
theorem inst0 : Cond.instantiable R0 19 ∈ TB := tb_t 79 (by decide +kernel)
def R1 : String := "SandPicture$Sheet"
def T1 : u_T := fun k => match k with
  | 0 => ("SandPicture$Sheet", "sort", "I", false)
  | 1 => ("SandPicture$Sheet", "size", "I", false)
  | _ => ("SandPicture$Sheet", "places", "[I", true)
def ty1 : Nat → FieldType := fun k => match k with
  | 0 => .int
  | 1 => .int
  | _ => .array .int
theorem nm1 : ∀ a, a < 3 → ∀ b, b < 3 → a ≠ b → (T1 a).2.1 ≠ (T1 b).2.1 := by decide +kernel
theorem tok1 : ∀ k, k < 3 → parseFieldDescriptor (T1 k).2.2.1 = some (ty1 k) := by decide +kernel
theorem iw1_0 : u_lay R1 T1 0 ∈ TB := tb_t 171 (by decide +kernel)
theorem iw1_1 : u_lay R1 T1 1 ∈ TB := tb_t 173 (by decide +kernel)
theorem iw1_2 : u_lay R1 T1 2 ∈ TB := tb_t 175 (by decide +kernel)
theorem iw1 : ∀ w ∈ u_ws R1 T1 3, w ∈ TB := by
  intro w hw
  obtain ⟨k, hk, rfl⟩ := List.mem_map.mp hw
  have hk := List.mem_range.mp hk
  match k, hk with
  | 0, _ => exact iw1_0
  | 1, _ => exact iw1_1
  | 2, _ => exact iw1_2
  | k + 3, h => exact absurd h (by omega)
theorem inst1 : Cond.instantiable R1 3 ∈ TB := tb_t 160 (by decide +kernel)
def R2 : String := "SandPicture$Slot"
def T2 : u_T := fun k => match k with
  | 0 => ("SandPicture$Slot", "holds", "I", false)
  | 1 => ("SandPicture$Slot", "kind", "I", false)
  | 2 => ("SandPicture$Slot", "pace", "I", false)
  | 3 => ("SandPicture$Slot", "number", "I", false)
  | _ => ("SandPicture$Slot", "sheet", "LSandPicture$Sheet;", true)
def ty2 : Nat → FieldType := fun k => match k with
  | 0 => .int
  | 1 => .int
  | 2 => .int
  | 3 => .int
  | _ => .object "SandPicture$Sheet"
theorem nm2 : ∀ a, a < 5 → ∀ b, b < 5 → a ≠ b → (T2 a).2.1 ≠ (T2 b).2.1 := by decide +kernel
theorem tok2 : ∀ k, k < 5 → parseFieldDescriptor (T2 k).2.2.1 = some (ty2 k) := by decide +kernel
theorem iw2_0 : u_lay R2 T2 0 ∈ TB := tb_t 195 (by decide +kernel)
theorem iw2_1 : u_lay R2 T2 1 ∈ TB := tb_t 197 (by decide +kernel)
theorem iw2_2 : u_lay R2 T2 2 ∈ TB := tb_t 199 (by decide +kernel)
theorem iw2_3 : u_lay R2 T2 3 ∈ TB := tb_t 201 (by decide +kernel)
theorem iw2_4 : u_lay R2 T2 4 ∈ TB := tb_t 203 (by decide +kernel)
theorem iw2 : ∀ w ∈ u_ws R2 T2 5, w ∈ TB := by
  intro w hw
  obtain ⟨k, hk, rfl⟩ := List.mem_map.mp hw
  have hk := List.mem_range.mp hk
  match k, hk with
  | 0, _ => exact iw2_0
  | 1, _ => exact iw2_1
  | 2, _ => exact iw2_2
  | 3, _ => exact iw2_3
  | 4, _ => exact iw2_4
  | k + 5, h => exact absurd h (by omega)
theorem inst2 : Cond.instantiable R2 5 ∈ TB := tb_t 178 (by decide +kernel)
def R3 : String := "SandPicture$Tape"
def T3 : u_T := fun k => match k with
  | 0 => ("SandPicture$Tape", "size", "I", false)
  | 1 => ("SandPicture$Tape", "bytes", "[I", true)
  | 2 => ("SandPicture$Tape", "from", "I", false)
  | 3 => ("SandPicture$Tape", "to", "I", false)
  | 4 => ("SandPicture$Tape", "stuck", "Z", false)
  | _ => ("SandPicture$Tape", "fault", "I", false)
def ty3 : Nat → FieldType := fun k => match k with
  | 0 => .int
  | 1 => .array .int
  | 2 => .int
  | 3 => .int
  | 4 => .boolean
  | _ => .int
theorem nm3 : ∀ a, a < 6 → ∀ b, b < 6 → a ≠ b → (T3 a).2.1 ≠ (T3 b).2.1 := by decide +kernel
theorem tok3 : ∀ k, k < 6 → parseFieldDescriptor (T3 k).2.2.1 = some (ty3 k) := by decide +kernel
theorem iw3_0 : u_lay R3 T3 0 ∈ TB := tb_t 39 (by decide +kernel)
theorem iw3_1 : u_lay R3 T3 1 ∈ TB := tb_t 41 (by decide +kernel)
theorem iw3_2 : u_lay R3 T3 2 ∈ TB := tb_t 43 (by decide +kernel)
theorem iw3_3 : u_lay R3 T3 3 ∈ TB := tb_t 45 (by decide +kernel)
theorem iw3_4 : u_lay R3 T3 4 ∈ TB := tb_t 47 (by decide +kernel)
theorem iw3_5 : u_lay R3 T3 5 ∈ TB := tb_t 49 (by decide +kernel)
theorem iw3 : ∀ w ∈ u_ws R3 T3 6, w ∈ TB := by
  intro w hw
  obtain ⟨k, hk, rfl⟩ := List.mem_map.mp hw
  have hk := List.mem_range.mp hk
  match k, hk with
  | 0, _ => exact iw3_0
  | 1, _ => exact iw3_1
  | 2, _ => exact iw3_2
  | 3, _ => exact iw3_3
  | 4, _ => exact iw3_4
  | 5, _ => exact iw3_5
  | k + 6, h => exact absurd h (by omega)
theorem inst3 : Cond.instantiable R3 6 ∈ TB := tb_t 27 (by decide +kernel)
def R4 : String := "SandPicture$Text"
def T4 : u_T := fun k => match k with
  | 0 => ("SandPicture$Text", "key", "I", false)
  | 1 => ("SandPicture$Text", "leaves", "I", false)
  | 2 => ("SandPicture$Text", "size", "I", false)
  | _ => ("SandPicture$Text", "codes", "[I", true)
def ty4 : Nat → FieldType := fun k => match k with
  | 0 => .int
  | 1 => .int
  | 2 => .int
  | _ => .array .int
theorem nm4 : ∀ a, a < 4 → ∀ b, b < 4 → a ≠ b → (T4 a).2.1 ≠ (T4 b).2.1 := by decide +kernel
theorem tok4 : ∀ k, k < 4 → parseFieldDescriptor (T4 k).2.2.1 = some (ty4 k) := by decide +kernel
theorem iw4_0 : u_lay R4 T4 0 ∈ TB := tb_t 69 (by decide +kernel)
theorem iw4_1 : u_lay R4 T4 1 ∈ TB := tb_t 71 (by decide +kernel)
theorem iw4_2 : u_lay R4 T4 2 ∈ TB := tb_t 73 (by decide +kernel)
theorem iw4_3 : u_lay R4 T4 3 ∈ TB := tb_t 75 (by decide +kernel)
theorem iw4 : ∀ w ∈ u_ws R4 T4 4, w ∈ TB := by
  intro w hw
  obtain ⟨k, hk, rfl⟩ := List.mem_map.mp hw
  have hk := List.mem_range.mp hk
  match k, hk with
  | 0, _ => exact iw4_0
  | 1, _ => exact iw4_1
  | 2, _ => exact iw4_2
  | 3, _ => exact iw4_3
  | k + 4, h => exact absurd h (by omega)
theorem inst4 : Cond.instantiable R4 4 ∈ TB := tb_t 57 (by decide +kernel)
def R5 : String := "SandPicture"
def T5 : u_T := fun k => match k with
  | 0 => ("SandPicture", "texts", "[LSandPicture$Text;", true)
  | 1 => ("SandPicture", "tape", "LSandPicture$Tape;", true)
  | 2 => ("SandPicture", "now", "LSandPicture$Picture;", true)
  | 3 => ("SandPicture", "image", "LSandPicture$Picture;", true)
  | 4 => ("SandPicture", "thought", "LSandPicture$Picture;", true)
  | 5 => ("SandPicture", "kept", "Z", false)
  | 6 => ("SandPicture", "sheets", "[LSandPicture$Sheet;", true)
  | 7 => ("SandPicture", "slots", "[LSandPicture$Slot;", true)
  | 8 => ("SandPicture", "waiting", "[I", true)
  | _ => ("SandPicture", "waits", "I", false)
def ty5 : Nat → FieldType := fun k => match k with
  | 0 => .array (.object "SandPicture$Text")
  | 1 => .object "SandPicture$Tape"
  | 2 => .object "SandPicture$Picture"
  | 3 => .object "SandPicture$Picture"
  | 4 => .object "SandPicture$Picture"
  | 5 => .boolean
  | 6 => .array (.object "SandPicture$Sheet")
  | 7 => .array (.object "SandPicture$Slot")
  | 8 => .array .int
  | _ => .int
theorem nm5 : ∀ a, a < 10 → ∀ b, b < 10 → a ≠ b → (T5 a).2.1 ≠ (T5 b).2.1 := by decide +kernel
theorem tok5 : ∀ k, k < 10 → parseFieldDescriptor (T5 k).2.2.1 = some (ty5 k) := by decide +kernel
theorem iw5_0 : u_lay R5 T5 0 ∈ TB := tb_t 216 (by decide +kernel)
theorem iw5_1 : u_lay R5 T5 1 ∈ TB := tb_t 218 (by decide +kernel)
theorem iw5_2 : u_lay R5 T5 2 ∈ TB := tb_t 220 (by decide +kernel)
theorem iw5_3 : u_lay R5 T5 3 ∈ TB := tb_t 222 (by decide +kernel)
theorem iw5_4 : u_lay R5 T5 4 ∈ TB := tb_t 224 (by decide +kernel)
theorem iw5_5 : u_lay R5 T5 5 ∈ TB := tb_t 226 (by decide +kernel)
theorem iw5_6 : u_lay R5 T5 6 ∈ TB := tb_t 228 (by decide +kernel)
theorem iw5_7 : u_lay R5 T5 7 ∈ TB := tb_t 230 (by decide +kernel)
theorem iw5_8 : u_lay R5 T5 8 ∈ TB := tb_t 232 (by decide +kernel)
theorem iw5_9 : u_lay R5 T5 9 ∈ TB := tb_t 234 (by decide +kernel)
theorem iw5 : ∀ w ∈ u_ws R5 T5 10, w ∈ TB := by
  intro w hw
  obtain ⟨k, hk, rfl⟩ := List.mem_map.mp hw
  have hk := List.mem_range.mp hk
  match k, hk with
  | 0, _ => exact iw5_0
  | 1, _ => exact iw5_1
  | 2, _ => exact iw5_2
  | 3, _ => exact iw5_3
  | 4, _ => exact iw5_4
  | 5, _ => exact iw5_5
  | 6, _ => exact iw5_6
  | 7, _ => exact iw5_7
  | 8, _ => exact iw5_8
  | 9, _ => exact iw5_9
  | k + 10, h => exact absurd h (by omega)
theorem inst5 : Cond.instantiable R5 10 ∈ TB := tb_t 17 (by decide +kernel)
def R6 : String := "SandPictureModel"
def T6 : u_T := fun k => match k with
  | 0 => ("SandPictureModel", "now", "[I", true)
  | 1 => ("SandPictureModel", "image", "[I", true)
  | 2 => ("SandPictureModel", "aside", "[I", true)
  | 3 => ("SandPictureModel", "hasImage", "Z", false)
  | 4 => ("SandPictureModel", "idle", "I", false)
  | 5 => ("SandPictureModel", "before", "[I", true)
  | 6 => ("SandPictureModel", "tape", "[I", true)
  | 7 => ("SandPictureModel", "taped", "I", false)
  | 8 => ("SandPictureModel", "next", "I", false)
  | 9 => ("SandPictureModel", "from", "I", false)
  | 10 => ("SandPictureModel", "token", "I", false)
  | 11 => ("SandPictureModel", "value", "I", false)
  | 12 => ("SandPictureModel", "ended", "I", false)
  | 13 => ("SandPictureModel", "key", "I", false)
  | 14 => ("SandPictureModel", "keys", "[C", true)
  | 15 => ("SandPictureModel", "keyAt", "[I", true)
  | 16 => ("SandPictureModel", "code", "[I", true)
  | 17 => ("SandPictureModel", "codes", "I", false)
  | 18 => ("SandPictureModel", "atoms", "I", false)
  | 19 => ("SandPictureModel", "waits", "[I", true)
  | 20 => ("SandPictureModel", "held", "I", false)
  | 21 => ("SandPictureModel", "tested", "[Z", true)
  | 22 => ("SandPictureModel", "stack", "[I", true)
  | 23 => ("SandPictureModel", "facts", "[I", true)
  | 24 => ("SandPictureModel", "sorts", "[I", true)
  | 25 => ("SandPictureModel", "sizes", "[I", true)
  | 26 => ("SandPictureModel", "cells", "[I", true)
  | 27 => ("SandPictureModel", "holds", "[I", true)
  | 28 => ("SandPictureModel", "holdsA", "[I", true)
  | 29 => ("SandPictureModel", "holdsB", "[I", true)
  | 30 => ("SandPictureModel", "heldCells", "[I", true)
  | 31 => ("SandPictureModel", "moved", "[I", true)
  | 32 => ("SandPictureModel", "tells", "[I", true)
  | _ => ("SandPictureModel", "waiting", "I", false)
def ty6 : Nat → FieldType := fun k => match k with
  | 0 => .array .int
  | 1 => .array .int
  | 2 => .array .int
  | 3 => .boolean
  | 4 => .int
  | 5 => .array .int
  | 6 => .array .int
  | 7 => .int
  | 8 => .int
  | 9 => .int
  | 10 => .int
  | 11 => .int
  | 12 => .int
  | 13 => .int
  | 14 => .array .char
  | 15 => .array .int
  | 16 => .array .int
  | 17 => .int
  | 18 => .int
  | 19 => .array .int
  | 20 => .int
  | 21 => .array .boolean
  | 22 => .array .int
  | 23 => .array .int
  | 24 => .array .int
  | 25 => .array .int
  | 26 => .array .int
  | 27 => .array .int
  | 28 => .array .int
  | 29 => .array .int
  | 30 => .array .int
  | 31 => .array .int
  | 32 => .array .int
  | _ => .int
theorem nm6 : ∀ a, a < 34 → ∀ b, b < 34 → a ≠ b → (T6 a).2.1 ≠ (T6 b).2.1 := by decide +kernel
theorem tok6 : ∀ k, k < 34 → parseFieldDescriptor (T6 k).2.2.1 = some (ty6 k) := by decide +kernel
theorem iw6_0 : u_lay R6 T6 0 ∈ TB := tb_t 807 (by decide +kernel)
theorem iw6_1 : u_lay R6 T6 1 ∈ TB := tb_t 809 (by decide +kernel)
theorem iw6_2 : u_lay R6 T6 2 ∈ TB := tb_t 811 (by decide +kernel)
theorem iw6_3 : u_lay R6 T6 3 ∈ TB := tb_t 813 (by decide +kernel)
theorem iw6_4 : u_lay R6 T6 4 ∈ TB := tb_t 815 (by decide +kernel)
theorem iw6_5 : u_lay R6 T6 5 ∈ TB := tb_t 817 (by decide +kernel)
theorem iw6_6 : u_lay R6 T6 6 ∈ TB := tb_t 819 (by decide +kernel)
theorem iw6_7 : u_lay R6 T6 7 ∈ TB := tb_t 821 (by decide +kernel)
theorem iw6_8 : u_lay R6 T6 8 ∈ TB := tb_t 823 (by decide +kernel)
theorem iw6_9 : u_lay R6 T6 9 ∈ TB := tb_t 825 (by decide +kernel)
theorem iw6_10 : u_lay R6 T6 10 ∈ TB := tb_t 827 (by decide +kernel)
theorem iw6_11 : u_lay R6 T6 11 ∈ TB := tb_t 829 (by decide +kernel)
theorem iw6_12 : u_lay R6 T6 12 ∈ TB := tb_t 831 (by decide +kernel)
theorem iw6_13 : u_lay R6 T6 13 ∈ TB := tb_t 833 (by decide +kernel)
theorem iw6_14 : u_lay R6 T6 14 ∈ TB := tb_t 835 (by decide +kernel)
theorem iw6_15 : u_lay R6 T6 15 ∈ TB := tb_t 837 (by decide +kernel)
theorem iw6_16 : u_lay R6 T6 16 ∈ TB := tb_t 839 (by decide +kernel)
theorem iw6_17 : u_lay R6 T6 17 ∈ TB := tb_t 841 (by decide +kernel)
theorem iw6_18 : u_lay R6 T6 18 ∈ TB := tb_t 843 (by decide +kernel)
theorem iw6_19 : u_lay R6 T6 19 ∈ TB := tb_t 845 (by decide +kernel)
theorem iw6_20 : u_lay R6 T6 20 ∈ TB := tb_t 847 (by decide +kernel)
theorem iw6_21 : u_lay R6 T6 21 ∈ TB := tb_t 849 (by decide +kernel)
theorem iw6_22 : u_lay R6 T6 22 ∈ TB := tb_t 851 (by decide +kernel)
theorem iw6_23 : u_lay R6 T6 23 ∈ TB := tb_t 853 (by decide +kernel)
theorem iw6_24 : u_lay R6 T6 24 ∈ TB := tb_t 855 (by decide +kernel)
theorem iw6_25 : u_lay R6 T6 25 ∈ TB := tb_t 857 (by decide +kernel)
theorem iw6_26 : u_lay R6 T6 26 ∈ TB := tb_t 859 (by decide +kernel)
theorem iw6_27 : u_lay R6 T6 27 ∈ TB := tb_t 861 (by decide +kernel)
theorem iw6_28 : u_lay R6 T6 28 ∈ TB := tb_t 863 (by decide +kernel)
theorem iw6_29 : u_lay R6 T6 29 ∈ TB := tb_t 865 (by decide +kernel)
theorem iw6_30 : u_lay R6 T6 30 ∈ TB := tb_t 867 (by decide +kernel)
theorem iw6_31 : u_lay R6 T6 31 ∈ TB := tb_t 869 (by decide +kernel)
theorem iw6_32 : u_lay R6 T6 32 ∈ TB := tb_t 871 (by decide +kernel)
theorem iw6_33 : u_lay R6 T6 33 ∈ TB := tb_t 873 (by decide +kernel)
theorem iw6 : ∀ w ∈ u_ws R6 T6 34, w ∈ TB := by
  intro w hw
  obtain ⟨k, hk, rfl⟩ := List.mem_map.mp hw
  have hk := List.mem_range.mp hk
  match k, hk with
  | 0, _ => exact iw6_0
  | 1, _ => exact iw6_1
  | 2, _ => exact iw6_2
  | 3, _ => exact iw6_3
  | 4, _ => exact iw6_4
  | 5, _ => exact iw6_5
  | 6, _ => exact iw6_6
  | 7, _ => exact iw6_7
  | 8, _ => exact iw6_8
  | 9, _ => exact iw6_9
  | 10, _ => exact iw6_10
  | 11, _ => exact iw6_11
  | 12, _ => exact iw6_12
  | 13, _ => exact iw6_13
  | 14, _ => exact iw6_14
  | 15, _ => exact iw6_15
  | 16, _ => exact iw6_16
  | 17, _ => exact iw6_17
  | 18, _ => exact iw6_18
  | 19, _ => exact iw6_19
  | 20, _ => exact iw6_20
  | 21, _ => exact iw6_21
  | 22, _ => exact iw6_22
  | 23, _ => exact iw6_23
  | 24, _ => exact iw6_24
  | 25, _ => exact iw6_25
  | 26, _ => exact iw6_26
  | 27, _ => exact iw6_27
  | 28, _ => exact iw6_28
  | 29, _ => exact iw6_29
  | 30, _ => exact iw6_30
  | 31, _ => exact iw6_31
  | 32, _ => exact iw6_32
  | 33, _ => exact iw6_33
  | k + 34, h => exact absurd h (by omega)
theorem inst6 : Cond.instantiable R6 34 ∈ TB := tb_t 768 (by decide +kernel)
abbrev CL : List vw_C := [(R0, T0, 19), (R1, T1, 3), (R2, T2, 5), (R3, T3, 6), (R4, T4, 4), (R5, T5, 10), (R6, T6, 34)]
def tysOf (cA : Nat → ClassId) : List (ClassId × FieldType) := [(cA 0, .int), (cA 1, .boolean), (cA 2, .char), (cA 3, .object R4), (cA 4, .object R1), (cA 5, .object R2)]
end
section
/-! THE JUDGEMENT J: the machine, in a method's activation X, at pc, with the locals ls and the operand stack st, over any heap that holds the world (sh, mem), comes to X's end. One row an instruction. -/
abbrev cxP (X : Cx) : Program := X.1
abbrev cxL (X : Cx) : Launch := X.2.1
abbrev cxE (X : Cx) : Env := X.2.2.1
abbrev cxR (X : Cx) : Room := X.2.2.2.1
abbrev cxS (X : Cx) : State := X.2.2.2.2.1
abbrev cxM (X : Cx) : MethodId := X.2.2.2.2.2.1
abbrev cxA (X : Cx) : Array Value := X.2.2.2.2.2.2.1
abbrev cxB (X : Cx) : List Frame := X.2.2.2.2.2.2.2.1
abbrev cxT (X : Cx) : Method := X.2.2.2.2.2.2.2.2.1
abbrev cxC (X : Cx) : Code := X.2.2.2.2.2.2.2.2.2.1
abbrev cxN (X : Cx) : Nat := X.2.2.2.2.2.2.2.2.2.2.1.1
abbrev cxO (X : Cx) : Nat := X.2.2.2.2.2.2.2.2.2.2.1.2
abbrev cxQ (X : Cx) : State → Prop := X.2.2.2.2.2.2.2.2.2.2.2
abbrev cxK (X : Cx) (N O : Nat) : Cx := (cxP X, cxL X, cxE X, cxR X, cxS X, cxM X, cxA X, cxB X, cxT X, cxC X, (N, O), cxQ X)
def J (X : Cx) (E : En) (nL pc : Nat) (ls : List (Nat × Value)) (st : List Value) (sh : List Sh) (mem : Mm) : Prop :=
  ∀ (H : Heap) (locs : List Loc) (arr : Array Slot), va_P E.1 CL (wd E sh mem) H → va_S (Ab E) (cxS X).heap H locs → lv_has arr nL ls →
    W (cxP X) (cxL X) (cxE X) (cxR X) (cxS X) (cxM X) (cxA X) (cxB X) (cxT X) (cxC X) H locs (cxN X) (cxO X) (cxQ X) (F0 (cxM X) pc arr st)
def Kn (E : En) (U : State) : Prop := va_K E.1 CL (tysOf E.2.1) U
def kS : List Nat := [4, 4, 4, 3, 3, 2]
def kB : List (List Int32) := [[112, 111, 117, 114], [98, 97, 99, 107], [102, 105, 110, 101], [112, 100, 120], [100, 102, 119], [104, 115]]
def Ks (E : En) (U : State) (H : Heap) : Prop :=
  vk_S 6 kS kB E.2.2.2.1 E.2.2.2.2 (Ab E) U H ∧ (vk_R R3 79 "pour" (E.2.2.2.1 0) U ∧ vk_R R3 81 "back" (E.2.2.2.1 1) U ∧ vk_R R3 83 "fine" (E.2.2.2.1 2) U ∧ vk_R R3 85 "pdx" (E.2.2.2.1 3) U ∧ vk_R R3 87 "dfw" (E.2.2.2.1 4) U ∧ vk_R R3 89 "hs" (E.2.2.2.1 5) U) ∧
  va_Z "java/lang/String" "COMPACT_STRINGS" "Z" (.int 1) (Ab E) U H ∧ va_Zq "jdk/internal/util/Preconditions" "SIOOBE_FORMATTER" "Ljava/util/function/BiFunction;" (Ab E) U H
theorem Ks.warm {E : En} {s U : State} {H0 H : Heap} (h : Ks E s H0) (hW : s.WarmedH U.vm) (hq : ∀ a : Nat, a < H0.size → ¬ Ab E a → H[a]? = H0[a]?) : Ks E U H := by
  obtain ⟨h1, ⟨r0, r1, r2, r3, r4, r5⟩, h3, h4⟩ := h
  exact ⟨(h1.kept hq).moved hW.alike, ⟨r0.warm hW, r1.warm hW, r2.warm hW, r3.warm hW, r4.warm hW, r5.warm hW⟩, (h3.kept hq).moved hW.alike, (h4.kept hq).moved hW.alike⟩
/-- what stands in a method's activation: the machine, its code, its class, the tables' words, the classes, the texts, its room -/
def Std (X : Cx) (E : En) (cc : ByteArray) (own : String) (nL d : Nat) : Prop :=
  (cxP X).tables.exec = Jvm.exec ∧ (cxC X).code = cc ∧ (cxC X).maxLocals = nL ∧ (cxS X).vm.findClass own = some (cxM X).cls ∧ (∀ w ∈ TB, w.before (cxA X) (cxS X) = true) ∧ Kn E (cxS X) ∧ Ks E (cxS X) (cxS X).heap ∧
  (d ≤ (cxR X).frames ∧ 40 * d ≤ (cxR X).locals ∧ cxN X ≤ (cxR X).cells ∧ cxO X ≤ (cxR X).slots)
theorem clw {ci : Nat} {q : vw_C} (h : CL[ci]? = some q) : ∀ w ∈ u_ws q.1 q.2.1 q.2.2, w ∈ TB := by
  match ci, h with
  | 0, h => cases h; exact iw0
  | 1, h => cases h; exact iw1
  | 2, h => cases h; exact iw2
  | 3, h => cases h; exact iw3
  | 4, h => cases h; exact iw4
  | 5, h => cases h; exact iw5
  | 6, h => cases h; exact iw6
  | k + 7, h => simp [CL] at h
theorem clt {ci : Nat} {q : vw_C} (h : CL[ci]? = some q) : ∃ ty : Nat → FieldType, ∀ k, k < q.2.2 → parseFieldDescriptor (q.2.1 k).2.2.1 = some (ty k) := by
  match ci, h with
  | 0, h => cases h; exact ⟨_, tok0⟩
  | 1, h => cases h; exact ⟨_, tok1⟩
  | 2, h => cases h; exact ⟨_, tok2⟩
  | 3, h => cases h; exact ⟨_, tok3⟩
  | 4, h => cases h; exact ⟨_, tok4⟩
  | 5, h => cases h; exact ⟨_, tok5⟩
  | 6, h => cases h; exact ⟨_, tok6⟩
  | k + 7, h => simp [CL] at h
theorem cln {ci : Nat} {q : vw_C} (h : CL[ci]? = some q) : ∀ a, a < q.2.2 → ∀ b, b < q.2.2 → a ≠ b → (q.2.1 a).2.1 ≠ (q.2.1 b).2.1 := by
  match ci, h with
  | 0, h => cases h; exact nm0
  | 1, h => cases h; exact nm1
  | 2, h => cases h; exact nm2
  | 3, h => cases h; exact nm3
  | 4, h => cases h; exact nm4
  | 5, h => cases h; exact nm5
  | 6, h => cases h; exact nm6
  | k + 7, h => simp [CL] at h
/-- a field's link: entry idx of own's pool is place i of class ci -/
def FLk (own : String) (idx ci i : Nat) : Prop := ∃ q : vw_C, CL[ci]? = some q ∧ i < q.2.2 ∧ Cond.fieldLink own idx (q.2.1 i).1 (q.2.1 i).2.1 (q.2.1 i).2.2.1 ∈ TB
/-- ... that is not final, of type ty -/
def FPk (own : String) (idx ci i : Nat) (ty : FieldType) : Prop := ∃ q : vw_C, CL[ci]? = some q ∧ i < q.2.2 ∧ Cond.fieldLink own idx (q.2.1 i).1 (q.2.1 i).2.1 (q.2.1 i).2.2.1 ∈ TB ∧ parseFieldDescriptor (q.2.1 i).2.2.1 = some ty ∧ (q.2.1 i).2.2.2 = false
section JR
variable {X : Cx} {E : En} {cc : ByteArray} {own : String} {nL d pc np tg : Nat} {ls : List (Nat × Value)} {st : List Value} {sh : List Sh} {mem : Mm} {x y v : Int32} {a b : Value}
theorem j_iconst (S : Std X E cc own nL d) {n : Int} (hd : decode cc pc = .ok (.iconst n, 1) ∧ pc + 1 = np) (hv : Int32.ofInt n = v) (k : J X E nL np ls (.int v :: st) sh mem) : J X E nL pc ls st sh mem := by
  obtain ⟨hd, rfl⟩ := hd; exact fun H locs arr hP hS hl => lv_iconst S.1 S.2.1 hd hv (k H locs arr hP hS hl)
theorem j_bipush (S : Std X E cc own nL d) {n : Int} (hd : decode cc pc = .ok (.bipush n, 2) ∧ pc + 2 = np) (hv : (Int8.ofInt n).toInt32 = v) (k : J X E nL np ls (.int v :: st) sh mem) : J X E nL pc ls st sh mem := by
  obtain ⟨hd, rfl⟩ := hd; exact fun H locs arr hP hS hl => lv_bipush S.1 S.2.1 hd hv (k H locs arr hP hS hl)
theorem j_sipush (S : Std X E cc own nL d) {n : Int} (hd : decode cc pc = .ok (.sipush n, 3) ∧ pc + 3 = np) (hv : (Int16.ofInt n).toInt32 = v) (k : J X E nL np ls (.int v :: st) sh mem) : J X E nL pc ls st sh mem := by
  obtain ⟨hd, rfl⟩ := hd; exact fun H locs arr hP hS hl => lv_sipush S.1 S.2.1 hd hv (k H locs arr hP hS hl)
theorem j_ldc (S : Std X E cc own nL d) {i : Nat} (hd : decode cc pc = .ok (.ldc i, 2) ∧ pc + 2 = np) (hw : Cond.constant own i v ∈ TB) (k : J X E nL np ls (.int v :: st) sh mem) : J X E nL pc ls st sh mem := by
  obtain ⟨hd, rfl⟩ := hd; exact fun H locs arr hP hS hl => lv_ldc S.1 S.2.1 S.2.2.2.1 (S.2.2.2.2.1 _ hw) hd (k H locs arr hP hS hl)
theorem j_ldcw (S : Std X E cc own nL d) {i : Nat} (hd : decode cc pc = .ok (.ldc_w i, 3) ∧ pc + 3 = np) (hw : Cond.constant own i v ∈ TB) (k : J X E nL np ls (.int v :: st) sh mem) : J X E nL pc ls st sh mem := by
  obtain ⟨hd, rfl⟩ := hd; exact fun H locs arr hP hS hl => lv_ldcw S.1 S.2.1 S.2.2.2.1 (S.2.2.2.2.1 _ hw) hd (k H locs arr hP hS hl)
theorem j_iload_n (S : Std X E cc own nL d) {f : Fin 4} {i : Nat} (hd : decode cc pc = .ok (.iload_n f, 1) ∧ pc + 1 = np) (q : Nat) (hl : ls[q]? = some (i, .int x)) (hi : (f : Nat) = i) (k : J X E nL np ls (.int x :: st) sh mem) : J X E nL pc ls st sh mem := by
  obtain ⟨hd, rfl⟩ := hd; exact fun H locs arr hP hS h => lv_iload_n S.1 S.2.1 hd hi (lv_at h q hl) (k H locs arr hP hS h)
theorem j_iload (S : Std X E cc own nL d) {i : Nat} (hd : decode cc pc = .ok (.iload i, 2) ∧ pc + 2 = np) (q : Nat) (hl : ls[q]? = some (i, .int x)) (k : J X E nL np ls (.int x :: st) sh mem) : J X E nL pc ls st sh mem := by
  obtain ⟨hd, rfl⟩ := hd; exact fun H locs arr hP hS h => lv_iload S.1 S.2.1 hd (lv_at h q hl) (k H locs arr hP hS h)
theorem j_aload_n (S : Std X E cc own nL d) {f : Fin 4} {i r : Nat} (hd : decode cc pc = .ok (.aload_n f, 1) ∧ pc + 1 = np) (q : Nat) (hl : ls[q]? = some (i, .ref r)) (hi : (f : Nat) = i) (k : J X E nL np ls (.ref r :: st) sh mem) : J X E nL pc ls st sh mem := by
  obtain ⟨hd, rfl⟩ := hd; exact fun H locs arr hP hS h => lv_aload_n S.1 S.2.1 hd hi (lv_at h q hl) (k H locs arr hP hS h)
theorem j_aload (S : Std X E cc own nL d) {i r : Nat} (hd : decode cc pc = .ok (.aload i, 2) ∧ pc + 2 = np) (q : Nat) (hl : ls[q]? = some (i, .ref r)) (k : J X E nL np ls (.ref r :: st) sh mem) : J X E nL pc ls st sh mem := by
  obtain ⟨hd, rfl⟩ := hd; exact fun H locs arr hP hS h => lv_aload S.1 S.2.1 hd (lv_at h q hl) (k H locs arr hP hS h)
theorem j_lload (S : Std X E cc own nL d) {i : Nat} {x : Int64} (hd : decode cc pc = .ok (.lload i, 2) ∧ pc + 2 = np) (q : Nat) (hl : ls[q]? = some (i, .long x)) (k : J X E nL np ls (.long x :: st) sh mem) : J X E nL pc ls st sh mem := by
  obtain ⟨hd, rfl⟩ := hd; exact fun H locs arr hP hS h => lv_lload S.1 S.2.1 hd (lv_at h q hl) (k H locs arr hP hS h)
theorem j_istore_n (S : Std X E cc own nL d) {f : Fin 4} {i : Nat} (hd : decode cc pc = .ok (.istore_n f, 1) ∧ pc + 1 = np) {lv : List (Nat × Value)} (hl : (i, Value.int x) :: ls.filter (fun q => !(q.1 == i) && !(q.1 + 1 == i && q.2.category == 2)) = lv) (hi : (f : Nat) = i ∧ i < nL) (k : J X E nL np lv st sh mem) : J X E nL pc ls (.int x :: st) sh mem := by
  obtain ⟨hd, rfl⟩ := hd; exact fun H locs arr hP hS h => lv_istore_n S.1 S.2.1 hd hi.1 h hi.2 hl (fun arr h => k H locs arr hP hS h)
theorem j_istore (S : Std X E cc own nL d) {i : Nat} (hd : decode cc pc = .ok (.istore i, 2) ∧ pc + 2 = np) {lv : List (Nat × Value)} (hl : (i, Value.int x) :: ls.filter (fun q => !(q.1 == i) && !(q.1 + 1 == i && q.2.category == 2)) = lv) (hi : i < nL) (k : J X E nL np lv st sh mem) : J X E nL pc ls (.int x :: st) sh mem := by
  obtain ⟨hd, rfl⟩ := hd; exact fun H locs arr hP hS h => lv_istore S.1 S.2.1 hd h hi hl (fun arr h => k H locs arr hP hS h)
theorem j_astore_n (S : Std X E cc own nL d) {f : Fin 4} {i r : Nat} (hd : decode cc pc = .ok (.astore_n f, 1) ∧ pc + 1 = np) {lv : List (Nat × Value)} (hl : (i, Value.ref r) :: ls.filter (fun q => !(q.1 == i) && !(q.1 + 1 == i && q.2.category == 2)) = lv) (hi : (f : Nat) = i ∧ i < nL) (k : J X E nL np lv st sh mem) : J X E nL pc ls (.ref r :: st) sh mem := by
  obtain ⟨hd, rfl⟩ := hd; exact fun H locs arr hP hS h => lv_astore_n S.1 S.2.1 hd hi.1 h hi.2 hl (fun arr h => k H locs arr hP hS h)
theorem j_astore (S : Std X E cc own nL d) {i r : Nat} (hd : decode cc pc = .ok (.astore i, 2) ∧ pc + 2 = np) {lv : List (Nat × Value)} (hl : (i, Value.ref r) :: ls.filter (fun q => !(q.1 == i) && !(q.1 + 1 == i && q.2.category == 2)) = lv) (hi : i < nL) (k : J X E nL np lv st sh mem) : J X E nL pc ls (.ref r :: st) sh mem := by
  obtain ⟨hd, rfl⟩ := hd; exact fun H locs arr hP hS h => lv_astore S.1 S.2.1 hd h hi hl (fun arr h => k H locs arr hP hS h)
theorem j_lstore (S : Std X E cc own nL d) {i : Nat} {x : Int64} (hd : decode cc pc = .ok (.lstore i, 2) ∧ pc + 2 = np) {lv : List (Nat × Value)} (hl : (i, Value.long x) :: ls.filter (fun q => !(q.1 == i) && (!(q.1 == i + 1) && !(q.1 + 1 == i && q.2.category == 2))) = lv) (hi : i + 1 < nL) (k : J X E nL np lv st sh mem) : J X E nL pc ls (.long x :: st) sh mem := by
  obtain ⟨hd, rfl⟩ := hd; exact fun H locs arr hP hS h => lv_lstore S.1 S.2.1 hd h hi hl (fun arr h => k H locs arr hP hS h)
theorem j_iinc (S : Std X E cc own nL d) {i : Nat} {n : Int} (hd : decode cc pc = .ok (.iinc i n, 3) ∧ pc + 3 = np) (q : Nat) (hq : ls[q]? = some (i, .int x)) (hv : x + Int32.ofInt n = v) {lv : List (Nat × Value)} (hl : (i, Value.int v) :: ls.filter (fun q => !(q.1 == i) && !(q.1 + 1 == i && q.2.category == 2)) = lv) (hi : i < nL) (k : J X E nL np lv st sh mem) : J X E nL pc ls st sh mem := by
  obtain ⟨hd, rfl⟩ := hd; exact fun H locs arr hP hS h => lv_iinc S.1 S.2.1 hd h hq hv hi hl (fun arr h => k H locs arr hP hS h)
theorem j_locals {lv : List (Nat × Value)} (ks : List Nat) (hl : lv_pick ls ks = lv) (k : J X E nL pc lv st sh mem) : J X E nL pc ls st sh mem := fun H locs arr hP hS h => k H locs arr hP hS (lv_sub h ks hl)
theorem j_iadd (S : Std X E cc own nL d) (hd : decode cc pc = .ok (.iadd, 1) ∧ pc + 1 = np) (k : J X E nL np ls (.int (x + y) :: st) sh mem) : J X E nL pc ls (.int y :: .int x :: st) sh mem := by
  obtain ⟨hd, rfl⟩ := hd; exact fun H locs arr hP hS hl => lv_iadd S.1 S.2.1 hd (k H locs arr hP hS hl)
theorem j_isub (S : Std X E cc own nL d) (hd : decode cc pc = .ok (.isub, 1) ∧ pc + 1 = np) (k : J X E nL np ls (.int (x - y) :: st) sh mem) : J X E nL pc ls (.int y :: .int x :: st) sh mem := by
  obtain ⟨hd, rfl⟩ := hd; exact fun H locs arr hP hS hl => lv_isub S.1 S.2.1 hd (k H locs arr hP hS hl)
theorem j_imul (S : Std X E cc own nL d) (hd : decode cc pc = .ok (.imul, 1) ∧ pc + 1 = np) (k : J X E nL np ls (.int (x * y) :: st) sh mem) : J X E nL pc ls (.int y :: .int x :: st) sh mem := by
  obtain ⟨hd, rfl⟩ := hd; exact fun H locs arr hP hS hl => lv_imul S.1 S.2.1 hd (k H locs arr hP hS hl)
theorem j_iand (S : Std X E cc own nL d) (hd : decode cc pc = .ok (.iand, 1) ∧ pc + 1 = np) (k : J X E nL np ls (.int (x &&& y) :: st) sh mem) : J X E nL pc ls (.int y :: .int x :: st) sh mem := by
  obtain ⟨hd, rfl⟩ := hd; exact fun H locs arr hP hS hl => lv_iand S.1 S.2.1 hd (k H locs arr hP hS hl)
theorem j_ior (S : Std X E cc own nL d) (hd : decode cc pc = .ok (.ior, 1) ∧ pc + 1 = np) (k : J X E nL np ls (.int (x ||| y) :: st) sh mem) : J X E nL pc ls (.int y :: .int x :: st) sh mem := by
  obtain ⟨hd, rfl⟩ := hd; exact fun H locs arr hP hS hl => lv_ior S.1 S.2.1 hd (k H locs arr hP hS hl)
theorem j_idiv (S : Std X E cc own nL d) (hd : decode cc pc = .ok (.idiv, 1) ∧ pc + 1 = np) (hne : ¬ y = 0) (k : J X E nL np ls (.int (x / y) :: st) sh mem) : J X E nL pc ls (.int y :: .int x :: st) sh mem := by
  obtain ⟨hd, rfl⟩ := hd; exact fun H locs arr hP hS hl => lv_idiv S.1 S.2.1 hd hne (k H locs arr hP hS hl)
theorem j_irem (S : Std X E cc own nL d) (hd : decode cc pc = .ok (.irem, 1) ∧ pc + 1 = np) (hne : ¬ y = 0) (k : J X E nL np ls (.int (x - x / y * y) :: st) sh mem) : J X E nL pc ls (.int y :: .int x :: st) sh mem := by
  obtain ⟨hd, rfl⟩ := hd; exact fun H locs arr hP hS hl => lv_irem S.1 S.2.1 hd hne (k H locs arr hP hS hl)
theorem j_ineg (S : Std X E cc own nL d) (hd : decode cc pc = .ok (.ineg, 1) ∧ pc + 1 = np) (k : J X E nL np ls (.int (-x) :: st) sh mem) : J X E nL pc ls (.int x :: st) sh mem := by
  obtain ⟨hd, rfl⟩ := hd; exact fun H locs arr hP hS hl => lv_ineg S.1 S.2.1 hd (k H locs arr hP hS hl)
theorem j_ishl (S : Std X E cc own nL d) (hd : decode cc pc = .ok (.ishl, 1) ∧ pc + 1 = np) (k : J X E nL np ls (.int (x <<< (y &&& 31)) :: st) sh mem) : J X E nL pc ls (.int y :: .int x :: st) sh mem := by
  obtain ⟨hd, rfl⟩ := hd; exact fun H locs arr hP hS hl => lv_ishl S.1 S.2.1 hd (k H locs arr hP hS hl)
theorem j_ishr (S : Std X E cc own nL d) (hd : decode cc pc = .ok (.ishr, 1) ∧ pc + 1 = np) (k : J X E nL np ls (.int (x >>> (y &&& 31)) :: st) sh mem) : J X E nL pc ls (.int y :: .int x :: st) sh mem := by
  obtain ⟨hd, rfl⟩ := hd; exact fun H locs arr hP hS hl => lv_ishr S.1 S.2.1 hd (k H locs arr hP hS hl)
theorem j_iushr (S : Std X E cc own nL d) (hd : decode cc pc = .ok (.iushr, 1) ∧ pc + 1 = np) (k : J X E nL np ls (.int (x.toUInt32 >>> (y.toUInt32 &&& Int32.toUInt32 31)).toInt32 :: st) sh mem) : J X E nL pc ls (.int y :: .int x :: st) sh mem := by
  obtain ⟨hd, rfl⟩ := hd; exact fun H locs arr hP hS hl => lv_iushr S.1 S.2.1 hd rfl (k H locs arr hP hS hl)
theorem j_i2s (S : Std X E cc own nL d) (hd : decode cc pc = .ok (.i2s, 1) ∧ pc + 1 = np) (k : J X E nL np ls (.int x.toInt16.toInt32 :: st) sh mem) : J X E nL pc ls (.int x :: st) sh mem := by
  obtain ⟨hd, rfl⟩ := hd; exact fun H locs arr hP hS hl => lv_i2s S.1 S.2.1 hd rfl (k H locs arr hP hS hl)
theorem j_i2c (S : Std X E cc own nL d) (hd : decode cc pc = .ok (.i2c, 1) ∧ pc + 1 = np) (k : J X E nL np ls (.int (x.toUInt32 % 65536).toInt32 :: st) sh mem) : J X E nL pc ls (.int x :: st) sh mem := by
  obtain ⟨hd, rfl⟩ := hd; exact fun H locs arr hP hS hl => lv_i2c S.1 S.2.1 hd rfl (k H locs arr hP hS hl)
theorem j_i2l (S : Std X E cc own nL d) (hd : decode cc pc = .ok (.i2l, 1) ∧ pc + 1 = np) (k : J X E nL np ls (.long x.toInt64 :: st) sh mem) : J X E nL pc ls (.int x :: st) sh mem := by
  obtain ⟨hd, rfl⟩ := hd; exact fun H locs arr hP hS hl => lv_i2l S.1 S.2.1 hd rfl (k H locs arr hP hS hl)
theorem j_l2i (S : Std X E cc own nL d) {x : Int64} (hd : decode cc pc = .ok (.l2i, 1) ∧ pc + 1 = np) (k : J X E nL np ls (.int x.toInt32 :: st) sh mem) : J X E nL pc ls (.long x :: st) sh mem := by
  obtain ⟨hd, rfl⟩ := hd; exact fun H locs arr hP hS hl => lv_l2i S.1 S.2.1 hd rfl (k H locs arr hP hS hl)
theorem j_lconst (S : Std X E cc own nL d) {n : Fin 2} {v : Int64} (hd : decode cc pc = .ok (.lconst n, 1) ∧ pc + 1 = np) (hv : Int64.ofNat (n : Nat) = v) (k : J X E nL np ls (.long v :: st) sh mem) : J X E nL pc ls st sh mem := by
  obtain ⟨hd, rfl⟩ := hd; exact fun H locs arr hP hS hl => lv_lconst S.1 S.2.1 hd hv (k H locs arr hP hS hl)
theorem j_ladd (S : Std X E cc own nL d) {x y : Int64} (hd : decode cc pc = .ok (.ladd, 1) ∧ pc + 1 = np) (k : J X E nL np ls (.long (x + y) :: st) sh mem) : J X E nL pc ls (.long y :: .long x :: st) sh mem := by
  obtain ⟨hd, rfl⟩ := hd; exact fun H locs arr hP hS hl => lv_ladd S.1 S.2.1 hd (k H locs arr hP hS hl)
theorem j_lsub (S : Std X E cc own nL d) {x y : Int64} (hd : decode cc pc = .ok (.lsub, 1) ∧ pc + 1 = np) (k : J X E nL np ls (.long (x - y) :: st) sh mem) : J X E nL pc ls (.long y :: .long x :: st) sh mem := by
  obtain ⟨hd, rfl⟩ := hd; exact fun H locs arr hP hS hl => lv_lsub S.1 S.2.1 hd (k H locs arr hP hS hl)
theorem j_lneg (S : Std X E cc own nL d) {x : Int64} (hd : decode cc pc = .ok (.lneg, 1) ∧ pc + 1 = np) (k : J X E nL np ls (.long (-x) :: st) sh mem) : J X E nL pc ls (.long x :: st) sh mem := by
  obtain ⟨hd, rfl⟩ := hd; exact fun H locs arr hP hS hl => lv_lneg S.1 S.2.1 hd (k H locs arr hP hS hl)
theorem j_lcmp (S : Std X E cc own nL d) {x y : Int64} (hd : decode cc pc = .ok (.lcmp, 1) ∧ pc + 1 = np) (k : J X E nL np ls (.int (lg_cmp x y) :: st) sh mem) : J X E nL pc ls (.long y :: .long x :: st) sh mem := by
  obtain ⟨hd, rfl⟩ := hd; exact fun H locs arr hP hS hl => W.lcmp S.1 S.2.1 hd (k H locs arr hP hS hl)
theorem j_dup (S : Std X E cc own nL d) (hd : decode cc pc = .ok (.dup, 1) ∧ pc + 1 = np) (ha : a.category = 1) (k : J X E nL np ls (a :: a :: st) sh mem) : J X E nL pc ls (a :: st) sh mem := by
  obtain ⟨hd, rfl⟩ := hd; exact fun H locs arr hP hS hl => lv_dup S.1 S.2.1 hd ha (k H locs arr hP hS hl)
theorem j_dup2 (S : Std X E cc own nL d) (hd : decode cc pc = .ok (.dup2, 1) ∧ pc + 1 = np) (ha : a.category = 1 ∧ b.category = 1) (k : J X E nL np ls (a :: b :: a :: b :: st) sh mem) : J X E nL pc ls (a :: b :: st) sh mem := by
  obtain ⟨hd, rfl⟩ := hd; exact fun H locs arr hP hS hl => lv_dup2_11 S.1 S.2.1 hd ha.1 ha.2 (k H locs arr hP hS hl)
theorem j_pop (S : Std X E cc own nL d) (hd : decode cc pc = .ok (.pop, 1) ∧ pc + 1 = np) (ha : a.category = 1) (k : J X E nL np ls st sh mem) : J X E nL pc ls (a :: st) sh mem := by
  obtain ⟨hd, rfl⟩ := hd; exact fun H locs arr hP hS hl => lv_pop S.1 S.2.1 hd ha (k H locs arr hP hS hl)
theorem j_goto (S : Std X E cc own nL d) {o : Int} (hd : decode cc pc = .ok (.goto o, 3) ∧ (pc : Int) + o = (tg : Int)) (k : J X E nL tg ls st sh mem) : J X E nL pc ls st sh mem :=
  fun H locs arr hP hS hl => lv_goto S.1 S.2.1 hd.1 hd.2 (k H locs arr hP hS hl)
theorem j_if_eq (S : Std X E cc own nL d) {o : Int} (hd : decode cc pc = .ok (.ifCond .eq o, 3) ∧ (pc : Int) + o = (tg : Int) ∧ pc + 3 = np) (k1 : x = 0 → J X E nL tg ls st sh mem) (k2 : ¬ x = 0 → J X E nL np ls st sh mem) : J X E nL pc ls (.int x :: st) sh mem := by
  obtain ⟨hd, ht, rfl⟩ := hd; exact fun H locs arr hP hS hl => lv_if_eq S.1 S.2.1 hd ht (fun c => k1 c H locs arr hP hS hl) (fun c => k2 c H locs arr hP hS hl)
theorem j_if_ne (S : Std X E cc own nL d) {o : Int} (hd : decode cc pc = .ok (.ifCond .ne o, 3) ∧ (pc : Int) + o = (tg : Int) ∧ pc + 3 = np) (k1 : ¬ x = 0 → J X E nL tg ls st sh mem) (k2 : x = 0 → J X E nL np ls st sh mem) : J X E nL pc ls (.int x :: st) sh mem := by
  obtain ⟨hd, ht, rfl⟩ := hd; exact fun H locs arr hP hS hl => lv_if_ne S.1 S.2.1 hd ht (fun c => k1 c H locs arr hP hS hl) (fun c => k2 c H locs arr hP hS hl)
theorem j_if_lt (S : Std X E cc own nL d) {o : Int} (hd : decode cc pc = .ok (.ifCond .lt o, 3) ∧ (pc : Int) + o = (tg : Int) ∧ pc + 3 = np) (k1 : x < 0 → J X E nL tg ls st sh mem) (k2 : ¬ x < 0 → J X E nL np ls st sh mem) : J X E nL pc ls (.int x :: st) sh mem := by
  obtain ⟨hd, ht, rfl⟩ := hd; exact fun H locs arr hP hS hl => lv_if_lt S.1 S.2.1 hd ht (fun c => k1 c H locs arr hP hS hl) (fun c => k2 c H locs arr hP hS hl)
theorem j_if_ge (S : Std X E cc own nL d) {o : Int} (hd : decode cc pc = .ok (.ifCond .ge o, 3) ∧ (pc : Int) + o = (tg : Int) ∧ pc + 3 = np) (k1 : 0 ≤ x → J X E nL tg ls st sh mem) (k2 : ¬ 0 ≤ x → J X E nL np ls st sh mem) : J X E nL pc ls (.int x :: st) sh mem := by
  obtain ⟨hd, ht, rfl⟩ := hd; exact fun H locs arr hP hS hl => lv_if_ge S.1 S.2.1 hd ht (fun c => k1 c H locs arr hP hS hl) (fun c => k2 c H locs arr hP hS hl)
theorem j_if_gt (S : Std X E cc own nL d) {o : Int} (hd : decode cc pc = .ok (.ifCond .gt o, 3) ∧ (pc : Int) + o = (tg : Int) ∧ pc + 3 = np) (k1 : 0 < x → J X E nL tg ls st sh mem) (k2 : ¬ 0 < x → J X E nL np ls st sh mem) : J X E nL pc ls (.int x :: st) sh mem := by
  obtain ⟨hd, ht, rfl⟩ := hd; exact fun H locs arr hP hS hl => lv_if_gt S.1 S.2.1 hd ht (fun c => k1 c H locs arr hP hS hl) (fun c => k2 c H locs arr hP hS hl)
theorem j_if_le (S : Std X E cc own nL d) {o : Int} (hd : decode cc pc = .ok (.ifCond .le o, 3) ∧ (pc : Int) + o = (tg : Int) ∧ pc + 3 = np) (k1 : x ≤ 0 → J X E nL tg ls st sh mem) (k2 : ¬ x ≤ 0 → J X E nL np ls st sh mem) : J X E nL pc ls (.int x :: st) sh mem := by
  obtain ⟨hd, ht, rfl⟩ := hd; exact fun H locs arr hP hS hl => lv_if_le S.1 S.2.1 hd ht (fun c => k1 c H locs arr hP hS hl) (fun c => k2 c H locs arr hP hS hl)
theorem j_icmp_eq (S : Std X E cc own nL d) {o : Int} (hd : decode cc pc = .ok (.if_icmp .eq o, 3) ∧ (pc : Int) + o = (tg : Int) ∧ pc + 3 = np) (k1 : x = y → J X E nL tg ls st sh mem) (k2 : ¬ x = y → J X E nL np ls st sh mem) : J X E nL pc ls (.int y :: .int x :: st) sh mem := by
  obtain ⟨hd, ht, rfl⟩ := hd; exact fun H locs arr hP hS hl => lv_icmp_eq S.1 S.2.1 hd ht (fun c => k1 c H locs arr hP hS hl) (fun c => k2 c H locs arr hP hS hl)
theorem j_icmp_ne (S : Std X E cc own nL d) {o : Int} (hd : decode cc pc = .ok (.if_icmp .ne o, 3) ∧ (pc : Int) + o = (tg : Int) ∧ pc + 3 = np) (k1 : ¬ x = y → J X E nL tg ls st sh mem) (k2 : x = y → J X E nL np ls st sh mem) : J X E nL pc ls (.int y :: .int x :: st) sh mem := by
  obtain ⟨hd, ht, rfl⟩ := hd; exact fun H locs arr hP hS hl => lv_icmp_ne S.1 S.2.1 hd ht (fun c => k1 c H locs arr hP hS hl) (fun c => k2 c H locs arr hP hS hl)
theorem j_icmp_lt (S : Std X E cc own nL d) {o : Int} (hd : decode cc pc = .ok (.if_icmp .lt o, 3) ∧ (pc : Int) + o = (tg : Int) ∧ pc + 3 = np) (k1 : x < y → J X E nL tg ls st sh mem) (k2 : ¬ x < y → J X E nL np ls st sh mem) : J X E nL pc ls (.int y :: .int x :: st) sh mem := by
  obtain ⟨hd, ht, rfl⟩ := hd; exact fun H locs arr hP hS hl => lv_icmp_lt S.1 S.2.1 hd ht (fun c => k1 c H locs arr hP hS hl) (fun c => k2 c H locs arr hP hS hl)
theorem j_icmp_ge (S : Std X E cc own nL d) {o : Int} (hd : decode cc pc = .ok (.if_icmp .ge o, 3) ∧ (pc : Int) + o = (tg : Int) ∧ pc + 3 = np) (k1 : y ≤ x → J X E nL tg ls st sh mem) (k2 : ¬ y ≤ x → J X E nL np ls st sh mem) : J X E nL pc ls (.int y :: .int x :: st) sh mem := by
  obtain ⟨hd, ht, rfl⟩ := hd; exact fun H locs arr hP hS hl => lv_icmp_ge S.1 S.2.1 hd ht (fun c => k1 c H locs arr hP hS hl) (fun c => k2 c H locs arr hP hS hl)
theorem j_icmp_gt (S : Std X E cc own nL d) {o : Int} (hd : decode cc pc = .ok (.if_icmp .gt o, 3) ∧ (pc : Int) + o = (tg : Int) ∧ pc + 3 = np) (k1 : y < x → J X E nL tg ls st sh mem) (k2 : ¬ y < x → J X E nL np ls st sh mem) : J X E nL pc ls (.int y :: .int x :: st) sh mem := by
  obtain ⟨hd, ht, rfl⟩ := hd; exact fun H locs arr hP hS hl => lv_icmp_gt S.1 S.2.1 hd ht (fun c => k1 c H locs arr hP hS hl) (fun c => k2 c H locs arr hP hS hl)
theorem j_icmp_le (S : Std X E cc own nL d) {o : Int} (hd : decode cc pc = .ok (.if_icmp .le o, 3) ∧ (pc : Int) + o = (tg : Int) ∧ pc + 3 = np) (k1 : x ≤ y → J X E nL tg ls st sh mem) (k2 : ¬ x ≤ y → J X E nL np ls st sh mem) : J X E nL pc ls (.int y :: .int x :: st) sh mem := by
  obtain ⟨hd, ht, rfl⟩ := hd; exact fun H locs arr hP hS hl => lv_icmp_le S.1 S.2.1 hd ht (fun c => k1 c H locs arr hP hS hl) (fun c => k2 c H locs arr hP hS hl)
end JR
end
section
section JH
variable {X : Cx} {E : En} {cc : ByteArray} {own : String} {nL d pc np tg : Nat} {ls : List (Nat × Value)} {st : List Value} {sh : List Sh} {mem : Mm} {x y v : Int32}
theorem j_getI (S : Std X E cc own nL d) {idx ci i k : Nat} {sl : List Sl} (hd : decode cc pc = .ok (.getfield idx, 3) ∧ pc + 3 = np) (hf : FLk own idx ci i) (hk : sh[k]? = some (.inl (ci, sl))) (hs : sl[i]? = some none) (kk : J X E nL np ls (.int (mem k i) :: st) sh mem) : J X E nL pc ls (.ref (eb E + k) :: st) sh mem := by
  obtain ⟨hd, rfl⟩ := hd
  obtain ⟨⟨C, T, N⟩, hq, hi, hw⟩ := hf
  exact fun H locs arr hP hS hl => va_get S.1 S.2.1 (C := C) (T := T) (N := N) S.2.2.2.2.1 (clw hq) S.2.2.2.1 S.2.2.2.2.2.1 hP k (wd_at hk) hq i hi (S.2.2.2.2.1 _ hw) (fun _ h => h) (fls_at hs) hd (kk H locs arr hP hS hl)
theorem j_getR (S : Std X E cc own nL d) {idx ci i k t : Nat} {sl : List Sl} (hd : decode cc pc = .ok (.getfield idx, 3) ∧ pc + 3 = np) (hf : FLk own idx ci i) (hk : sh[k]? = some (.inl (ci, sl))) (hs : sl[i]? = some (some (some t))) (kk : J X E nL np ls (.ref (eb E + t) :: st) sh mem) : J X E nL pc ls (.ref (eb E + k) :: st) sh mem := by
  obtain ⟨hd, rfl⟩ := hd
  obtain ⟨⟨C, T, N⟩, hq, hi, hw⟩ := hf
  exact fun H locs arr hP hS hl => va_get S.1 S.2.1 (C := C) (T := T) (N := N) S.2.2.2.2.1 (clw hq) S.2.2.2.1 S.2.2.2.2.2.1 hP k (wd_at hk) hq i hi (S.2.2.2.2.1 _ hw) (fun _ h => h) (fls_at hs) hd (kk H locs arr hP hS hl)
theorem j_put (S : Std X E cc own nL d) {idx ci i k : Nat} {sl : List Sl} {ty : FieldType} (hd : decode cc pc = .ok (.putfield idx, 3) ∧ pc + 3 = np) (hf : FPk own idx ci i ty) (hk : sh[k]? = some (.inl (ci, sl))) (hs : sl[i]? = some none) (hv : narrow ty (.int v) = .int v ∧ fits ty (.int v) = true) (kk : J X E nL np ls st sh (mst mem k i v)) : J X E nL pc ls (.int v :: .ref (eb E + k) :: st) sh mem := by
  obtain ⟨hd, rfl⟩ := hd
  obtain ⟨⟨C, T, N⟩, hq, hi, hw, hty, hfin⟩ := hf
  obtain ⟨ty0, hty0⟩ := clt hq
  refine fun H locs arr hP hS hl => va_put S.1 S.2.1 (C := C) (T := T) (N := N) S.2.2.2.2.1 (clw hq) ty0 hty0 (cln hq) S.2.2.2.1 S.2.2.2.2.2.1 hP (wd_D E sh mem) hS k (wd_at hk) hq i hi (S.2.2.2.2.1 _ hw) (fun _ h => h) hfin hty hv.1 hv.2 (by rw [fls_len]; exact (List.getElem?_eq_some_iff.mp hs).1) hd (fun H1 locs1 hP1 _ hS1 => kk H1 locs1 arr ?_ hS1 hl)
  rw [fls_int hs v] at hP1
  have e := wd_set (E := E) (mem := mem) hk (upd (mem k) i v)
  exact e ▸ hP1
theorem j_putI (S : Std X E cc own nL d) {idx ci i k : Nat} {sl : List Sl} (hd : decode cc pc = .ok (.putfield idx, 3) ∧ pc + 3 = np) (hf : FPk own idx ci i .int) (hk : sh[k]? = some (.inl (ci, sl))) (hs : sl[i]? = some none) (kk : J X E nL np ls st sh (mst mem k i v)) : J X E nL pc ls (.int v :: .ref (eb E + k) :: st) sh mem :=
  j_put S hd hf hk hs ⟨rfl, rfl⟩ kk
theorem tys_at0 (cA : Nat → ClassId) : (tysOf cA)[0]? = some (cA 0, .int) := rfl
theorem j_iald (S : Std X E cc own nL d) {k n : Nat} (hd : decode cc pc = .ok (.iaload, 1) ∧ pc + 1 = np) (hk : sh[k]? = some (.inr (.inl (0, n)))) (hi : inb x n = true) (kk : J X E nL np ls (.int (mem k (ix x)) :: st) sh mem) : J X E nL pc ls (.int x :: .ref (eb E + k) :: st) sh mem := by
  obtain ⟨hd, rfl⟩ := hd
  exact fun H locs arr hP hS hl => va_iald S.1 S.2.1 S.2.2.2.2.2.1 hP k 0 (wd_at hk) rfl (inb_vp hi) hd (kk H locs arr hP hS hl)
theorem j_zald (S : Std X E cc own nL d) {k n : Nat} (hd : decode cc pc = .ok (.baload, 1) ∧ pc + 1 = np) (hk : sh[k]? = some (.inr (.inl (1, n)))) (hi : inb x n = true) (kk : J X E nL np ls (.int (mem k (ix x)) :: st) sh mem) : J X E nL pc ls (.int x :: .ref (eb E + k) :: st) sh mem := by
  obtain ⟨hd, rfl⟩ := hd
  exact fun H locs arr hP hS hl => va_zald S.1 S.2.1 S.2.2.2.2.2.1 hP k 1 (wd_at hk) rfl (inb_vp hi) hd (kk H locs arr hP hS hl)
theorem j_cald (S : Std X E cc own nL d) {k n : Nat} (hd : decode cc pc = .ok (.caload, 1) ∧ pc + 1 = np) (hk : sh[k]? = some (.inr (.inl (2, n)))) (hi : inb x n = true) (kk : J X E nL np ls (.int (mem k (ix x)) :: st) sh mem) : J X E nL pc ls (.int x :: .ref (eb E + k) :: st) sh mem := by
  obtain ⟨hd, rfl⟩ := hd
  exact fun H locs arr hP hS hl => va_cald S.1 S.2.1 S.2.2.2.2.2.1 hP k 2 (wd_at hk) rfl (inb_vp hi) hd (kk H locs arr hP hS hl)
theorem j_iast (S : Std X E cc own nL d) {k n : Nat} (hd : decode cc pc = .ok (.iastore, 1) ∧ pc + 1 = np) (hk : sh[k]? = some (.inr (.inl (0, n)))) (hi : inb x n = true) (kk : J X E nL np ls st sh (mst mem k (ix x) v)) : J X E nL pc ls (.int v :: .int x :: .ref (eb E + k) :: st) sh mem := by
  obtain ⟨hd, rfl⟩ := hd
  refine fun H locs arr hP hS hl => va_iast S.1 S.2.1 S.2.2.2.2.2.1 hP (wd_D E sh mem) hS k 0 (wd_at hk) rfl (inb_vp hi) hd (fun H1 locs1 hP1 _ hS1 => kk H1 locs1 arr ?_ hS1 hl)
  have e := wd_set (E := E) (mem := mem) hk (upd (mem k) (ix x) v)
  exact e ▸ hP1
theorem j_zast (S : Std X E cc own nL d) {k n : Nat} (hd : decode cc pc = .ok (.bastore, 1) ∧ pc + 1 = np) (hk : sh[k]? = some (.inr (.inl (1, n)))) (hi : inb x n = true) (hv : vp_nar .boolean v = v) (kk : J X E nL np ls st sh (mst mem k (ix x) v)) : J X E nL pc ls (.int v :: .int x :: .ref (eb E + k) :: st) sh mem := by
  obtain ⟨hd, rfl⟩ := hd
  refine fun H locs arr hP hS hl => va_zast S.1 S.2.1 S.2.2.2.2.2.1 hP (wd_D E sh mem) hS k 1 (wd_at hk) rfl (inb_vp hi) hd (fun H1 locs1 hP1 _ hS1 => kk H1 locs1 arr ?_ hS1 hl)
  have e := wd_set (E := E) (mem := mem) hk (upd (mem k) (ix x) v)
  rw [hv] at hP1
  exact e ▸ hP1
theorem j_aald (S : Std X E cc own nL d) {k ti t : Nat} {C : String} {l : List (Option Nat)} (hd : decode cc pc = .ok (.aaload, 1) ∧ pc + 1 = np) (hk : sh[k]? = some (.inr (.inr (ti, l)))) (ht : (tysOf E.2.1)[ti]? = some (E.2.1 ti, .object C)) (hi : inb x l.length = true) (hl : l[ix x]? = some (some t)) (kk : J X E nL np ls (.ref (eb E + t) :: st) sh mem) : J X E nL pc ls (.int x :: .ref (eb E + k) :: st) sh mem := by
  obtain ⟨hd, rfl⟩ := hd
  refine fun H locs arr hP hS h => va_aldq S.1 S.2.1 S.2.2.2.2.2.1 hP k ti (wd_at hk) ht (inb_vp hi) hd ?_
  have e : va_rf ((l.getD (ix x) none).map (fun t => E.2.2.1 + t)) = .ref (eb E + t) := by
    rw [List.getD_eq_getElem?_getD, hl]; rfl
  rw [e]
  exact kk H locs arr hP hS h
theorem j_alen (S : Std X E cc own nL d) {k n : Nat} (hd : decode cc pc = .ok (.arraylength, 1) ∧ pc + 1 = np) (hk : sh[k]? = some (.inr (.inl (0, n)))) (hv : Int32.ofNat n = v) (kk : J X E nL np ls (.int v :: st) sh mem) : J X E nL pc ls (.ref (eb E + k) :: st) sh mem := by
  obtain ⟨hd, rfl⟩ := hd
  exact fun H locs arr hP hS hl => va_alen (ty := .int) S.1 S.2.1 S.2.2.2.2.2.1 hP k 0 (wd_at hk) rfl hv hd (kk H locs arr hP hS hl)
theorem j_alenQ (S : Std X E cc own nL d) {k ti : Nat} {l : List (Option Nat)} {ty : FieldType} (hd : decode cc pc = .ok (.arraylength, 1) ∧ pc + 1 = np) (hk : sh[k]? = some (.inr (.inr (ti, l)))) (ht : (tysOf E.2.1)[ti]? = some (E.2.1 ti, ty)) (hv : Int32.ofNat l.length = v) (kk : J X E nL np ls (.int v :: st) sh mem) : J X E nL pc ls (.ref (eb E + k) :: st) sh mem := by
  obtain ⟨hd, rfl⟩ := hd
  exact fun H locs arr hP hS hl => va_alen (ty := ty) S.1 S.2.1 S.2.2.2.2.2.1 hP k ti (wd_at hk) ht hv hd (kk H locs arr hP hS hl)
-- a value gets a name
theorem j_nm {e : Int32} (h : v = e) (k : J X E nL pc ls (.int v :: st) sh mem) : J X E nL pc ls (.int e :: st) sh mem := h ▸ k
theorem j_nmL {v e : Int64} (h : v = e) (k : J X E nL pc ls (.long v :: st) sh mem) : J X E nL pc ls (.long e :: st) sh mem := h ▸ k
theorem j_mem {m2 : Mm} (h : m2 = mem) (k : J X E nL pc ls st sh m2) : J X E nL pc ls st sh mem := h ▸ k
-- switches
theorem j_tabOut (S : Std X E cc own nL d) {dflt lo hi : Int} {offs : Array Int} {len : Nat} (hd : decode cc pc = .ok (.tableswitch dflt lo hi offs, len) ∧ (pc : Int) + dflt = (tg : Int)) (h : x.toInt < lo ∨ hi < x.toInt) (k : J X E nL tg ls st sh mem) : J X E nL pc ls (.int x :: st) sh mem :=
  fun H locs arr hP hS hl => lv_tableOut S.1 S.2.1 hd.1 h hd.2 (k H locs arr hP hS hl)
theorem j_tabIn (S : Std X E cc own nL d) {dflt lo hi off : Int} {offs : Array Int} {len : Nat} (hd : decode cc pc = .ok (.tableswitch dflt lo hi offs, len)) (a : Int32) (hx : x = a) (h : ¬ a.toInt < lo ∧ ¬ hi < a.toInt ∧ offs[(a.toInt - lo).toNat]? = some off ∧ (pc : Int) + off = (tg : Int)) (k : J X E nL tg ls st sh mem) : J X E nL pc ls (.int x :: st) sh mem := by
  subst hx
  exact fun H locs arr hP hS hl => lv_tableIn S.1 S.2.1 hd h.1 h.2.1 h.2.2.1 h.2.2.2 (k H locs arr hP hS hl)
theorem j_look (S : Std X E cc own nL d) {dflt off : Int} {ps : Array (Int × Int)} {len : Nat} (hd : decode cc pc = .ok (.lookupswitch dflt ps, len)) (hp : (ps.toList.zip (ps.toList.drop 1)).all (fun (a, next) => a.1 < next.1) = true) (ho : Op.lookupswitch.offset ps.toList dflt x.toInt = off) (ht : (pc : Int) + off = (tg : Int)) (k : J X E nL tg ls st sh mem) : J X E nL pc ls (.int x :: st) sh mem :=
  fun H locs arr hP hS hl => lv_lookup S.1 S.2.1 hd hp ho ht (k H locs arr hP hS hl)
theorem j_lookE (S : Std X E cc own nL d) {dflt off : Int} {ps : Array (Int × Int)} {len : Nat} (hd : decode cc pc = .ok (.lookupswitch dflt ps, len)) (a : Int32) (hx : x = a) (h : (ps.toList.zip (ps.toList.drop 1)).all (fun (a, next) => a.1 < next.1) = true ∧ Op.lookupswitch.offset ps.toList dflt a.toInt = off ∧ (pc : Int) + off = (tg : Int)) (k : J X E nL tg ls st sh mem) : J X E nL pc ls (.int x :: st) sh mem := by
  subst hx
  exact j_look S hd h.1 h.2.1 h.2.2 k
-- Math
theorem j_mmax (S : Std X E cc own nL d) {idx : Nat} (hd : decode cc pc = .ok (.invokestatic idx, 3) ∧ pc + 3 = np) (h1 : 1 ≤ d) (hw : Cond.methodLink own idx Lib.Math.max.name ∈ TB ∧ Cond.static Lib.Math.max.name ∈ TB ∧ Cond.initialized "java/lang/Math" ∈ TB ∧ Cond.code Lib.Math.max.name Lib.Math.max.code 2 (some .int) ∈ TB) (hc : (st.map fun v => v.category).sum ≤ 8) (k : J X E nL np ls (.int (if x < y then y else x) :: st) sh mem) : J X E nL pc ls (.int y :: .int x :: st) sh mem := by
  obtain ⟨hd, rfl⟩ := hd
  have hR := S.2.2.2.2.2.2.2
  exact fun H locs arr hP hS hl => va_mmax S.1 S.2.1 (S.2.2.1.trans hl.1.symm) S.2.2.2.1 (S.2.2.2.2.1 _ hw.1) (S.2.2.2.2.1 _ hw.2.1) (S.2.2.2.2.1 _ hw.2.2.1) (S.2.2.2.2.1 _ hw.2.2.2) (by omega) (by omega) hR.2.2.1 hR.2.2.2 hd (k H locs arr hP hS hl)
theorem j_mmin (S : Std X E cc own nL d) {idx : Nat} (hd : decode cc pc = .ok (.invokestatic idx, 3) ∧ pc + 3 = np) (h1 : 1 ≤ d) (hw : Cond.methodLink own idx Lib.Math.min.name ∈ TB ∧ Cond.static Lib.Math.min.name ∈ TB ∧ Cond.initialized "java/lang/Math" ∈ TB ∧ Cond.code Lib.Math.min.name Lib.Math.min.code 2 (some .int) ∈ TB) (hc : (st.map fun v => v.category).sum ≤ 8) (k : J X E nL np ls (.int (if y < x then y else x) :: st) sh mem) : J X E nL pc ls (.int y :: .int x :: st) sh mem := by
  obtain ⟨hd, rfl⟩ := hd
  have hR := S.2.2.2.2.2.2.2
  exact fun H locs arr hP hS hl => va_mmin S.1 S.2.1 (S.2.2.1.trans hl.1.symm) S.2.2.2.1 (S.2.2.2.2.1 _ hw.1) (S.2.2.2.2.1 _ hw.2.1) (S.2.2.2.2.1 _ hw.2.2.1) (S.2.2.2.2.1 _ hw.2.2.2) (by omega) (by omega) hR.2.2.1 hR.2.2.2 hd (k H locs arr hP hS hl)
theorem j_mabs (S : Std X E cc own nL d) {idx : Nat} (hd : decode cc pc = .ok (.invokestatic idx, 3) ∧ pc + 3 = np) (h1 : 1 ≤ d) (hw : Cond.methodLink own idx Lib.Math.abs.name ∈ TB ∧ Cond.static Lib.Math.abs.name ∈ TB ∧ Cond.initialized "java/lang/Math" ∈ TB ∧ Cond.code Lib.Math.abs.name Lib.Math.abs.code 1 (some .int) ∈ TB) (hc : (st.map fun v => v.category).sum ≤ 8) (k : J X E nL np ls (.int (if 0 ≤ x then x else 0 - x) :: st) sh mem) : J X E nL pc ls (.int x :: st) sh mem := by
  obtain ⟨hd, rfl⟩ := hd
  have hR := S.2.2.2.2.2.2.2
  exact fun H locs arr hP hS hl => va_mabs S.1 S.2.1 (S.2.2.1.trans hl.1.symm) S.2.2.2.1 (S.2.2.2.2.1 _ hw.1) (S.2.2.2.2.1 _ hw.2.1) (S.2.2.2.2.1 _ hw.2.2.1) (S.2.2.2.2.1 _ hw.2.2.2) (by omega) (by omega) hR.2.2.1 hR.2.2.2 hd (k H locs arr hP hS hl)
-- System.arraycopy between rows of ints
def cpok (a n : Int32) (N : Nat) : Bool := decide (0 ≤ a) && decide (ix a + ix n ≤ N)
theorem j_copy (S : Std X E cc own nL d) {idx k1 k2 n1 n2 : Nat} {sp dp n : Int32} (hd : decode cc pc = .ok (.invokestatic idx, 3) ∧ pc + 3 = np) (h1 : 1 ≤ d) (hw : Cond.methodLink own idx arraycopyName ∈ TB ∧ Cond.native arraycopyName ∈ TB ∧ Cond.static arraycopyName ∈ TB ∧ Cond.initialized "java/lang/System" ∈ TB) (hc : (st.map fun v => v.category).sum ≤ 8)
    (hk1 : sh[k1]? = some (.inr (.inl (0, n1)))) (hk2 : sh[k2]? = some (.inr (.inl (0, n2)))) (hn : 0 ≤ n) (h4 : cpok sp n n1 = true) (h5 : cpok dp n n2 = true) (k : J X E nL np ls st sh (va_up mem k2 (va_cpy (mem k1) (mem k2) (ix sp) (ix dp) (ix n)))) : J X E nL pc ls (.int n :: .int dp :: .ref (eb E + k2) :: .int sp :: .ref (eb E + k1) :: st) sh mem := by
  obtain ⟨hd, rfl⟩ := hd
  have hR := S.2.2.2.2.2.2.2
  have nn : ∀ z : Int32, 0 ≤ z → ¬ z < 0 := fun z h q => by
    rw [Int32.lt_iff_toInt_lt] at q
    have := Int32.le_iff_toInt_le.mp h
    omega
  unfold cpok at h4 h5
  simp only [Bool.and_eq_true, decide_eq_true_eq] at h4 h5
  have hnf : nativeFrameWords "java/lang/System" "arraycopy" 5 ≤ 16 := by decide +kernel
  refine fun H locs arr hP hS hl => va_copyi S.1 S.2.1 (S.2.2.1.trans hl.1.symm) S.2.2.2.1 (S.2.2.2.2.1 _ hw.1) (S.2.2.2.2.1 _ hw.2.1) (S.2.2.2.2.1 _ hw.2.2.1) (S.2.2.2.2.1 _ hw.2.2.2) S.2.2.2.2.2.1 hP (wd_D E sh mem) hS k1 k2 0 0 (wd_at hk1) (wd_at hk2) rfl rfl rfl (nn _ h4.1) (nn _ h5.1) (nn _ hn) h4.2 h5.2 (fun _ _ => rfl) (by omega) (by omega) hd (fun H1 locs1 hP1 _ hS1 => k H1 locs1 arr ?_ hS1 hl)
  have e := wd_set (E := E) (mem := mem) hk2 (va_cpy (mem k1) (mem k2) (ix sp) (ix dp) (ix n))
  exact e ▸ hP1
end JH
end
section
/-! CONTRACTS: a method with depth d of calls under it, from the world (sh, mem), answers r and leaves (sh, mem2). Calls and returns. -/
def rmd (d : Nat) : Room := { frames := d, cells := 0, slots := 0, locals := 40 * d }
def PreC (E : En) (sh : List Sh) (mem : Mm) (U : State) : Prop := va_P E.1 CL (wd E sh mem) U.heap ∧ Kn E U ∧ Ks E U U.heap
def PosC (E : En) (sh : List Sh) (mem : Mm) (t : State) : Prop := va_P E.1 CL (wd E sh mem) t.heap
def CtI (l : Launch) (E : En) (d : Nat) (y : MethodName) (cc : ByteArray) (nL : Nat) (ret : Option FieldType) (av : List Value) (sh : List Sh) (mem : Mm) (r : Int32) (m2 : Mm) : Prop :=
  Met l y (Cond.code y cc nL ret :: TB) (rmd d) (va_Pc av (PreC E sh mem)) (va_Qi (fun (v : Int32) (_ : Unit) => v = r) (fun _ t => PosC E sh m2 t) (Ab E)) 0 0 (Ab E)
def CtL (l : Launch) (E : En) (d : Nat) (y : MethodName) (cc : ByteArray) (nL : Nat) (av : List Value) (sh : List Sh) (mem : Mm) (r : Int64) (m2 : Mm) : Prop :=
  Met l y (Cond.code y cc nL (some .long) :: TB) (rmd d) (va_Pc av (PreC E sh mem)) (va_Ql (fun (v : Int64) (_ : Unit) => v = r) (fun _ t => PosC E sh m2 t) (Ab E)) 0 0 (Ab E)
def CtV (l : Launch) (E : En) (d : Nat) (y : MethodName) (cc : ByteArray) (nL : Nat) (av : List Value) (sh : List Sh) (mem m2 : Mm) : Prop :=
  Met l y (Cond.code y cc nL none :: TB) (rmd d) (va_Pc av (PreC E sh mem)) (va_Qv (fun (_ : Unit) => True) (fun _ t => PosC E sh m2 t) (Ab E)) 0 0 (Ab E)
theorem Ks.same {E : En} {s U : State} {H : Heap} (h : Ks E s H) (hv : U.vm = s.vm) : Ks E U H := by
  obtain ⟨h1, ⟨r0, r1, r2, r3, r4, r5⟩, h3, h4⟩ := h
  have ha : s.vm.Alike U.vm := by rw [hv]; exact Vm.Alike.refl _
  exact ⟨h1.moved ha, ⟨r0.same hv, r1.same hv, r2.same hv, r3.same hv, r4.same hv, r5.same hv⟩, h3.moved ha, h4.moved ha⟩
theorem blindC {E : En} {sh : List Sh} {mem : Mm} {av : List Value} : FrameBlind (va_Pc av (PreC E sh mem)) :=
  fun a U g mk q => ⟨q.1, q.2.1, va_K.moved (u := U) (U := U.calling g mk a) (Vm.Alike.refl U.vm) q.2.2.1, Ks.same (s := U) (U := U.calling g mk a) q.2.2.2 rfl⟩
def isb (v : Int32) : Bool := decide (v = 0) || decide (v = 1)
theorem isb_or {v : Int32} (h : isb v = true) : v = 0 ∨ v = 1 := by
  unfold isb at h
  simpa only [Bool.or_eq_true, decide_eq_true_eq] using h
theorem isb_nf {v : Int32} (h : isb v = true) : narrow .boolean (.int v) = .int v ∧ fits .boolean (.int v) = true := by
  rcases isb_or h with rfl | rfl <;> exact ⟨by decide +kernel, by decide +kernel⟩
theorem isb_vn {v : Int32} (h : isb v = true) : vp_nar .boolean v = v := by
  rcases isb_or h with rfl | rfl <;> decide +kernel
def RetI (X : Cx) (E : En) (cc : ByteArray) (nL : Nat) (sh : List Sh) (r : Int32) (m2 : Mm) : Prop := ∀ (pc : Nat) (ls : List (Nat × Value)), decode cc pc = .ok (.ireturn, 1) → J X E nL pc ls [.int r] sh m2
def RetL (X : Cx) (E : En) (cc : ByteArray) (nL : Nat) (sh : List Sh) (r : Int64) (m2 : Mm) : Prop := ∀ (pc : Nat) (ls : List (Nat × Value)), decode cc pc = .ok (.lreturn, 1) → J X E nL pc ls [.long r] sh m2
def RetV (X : Cx) (E : En) (cc : ByteArray) (nL : Nat) (sh : List Sh) (m2 : Mm) : Prop := ∀ (pc : Nat) (ls : List (Nat × Value)), decode cc pc = .ok (.return_, 1) → J X E nL pc ls [] sh m2
section MK
variable {l : Launch} {E : En} {d : Nat} {y : MethodName} {cc : ByteArray} {nL : Nat} {av : List Value} {sh : List Sh} {mem m2 : Mm} {r : Int32}
theorem mk_CtI (hy : plainName y.cls = true ∧ (lg_sl av).length ≤ nL) (h : ∀ X : Cx, Std X E cc y.cls nL d → cxL X = l → RetI X E cc nL sh r m2 → J X E nL 0 (lv_args 0 av) [] sh mem) : CtI l E d y cc nL (some .int) av sh mem r m2 := by
  refine Met.ofW (cc := cc) (maxL := nL) (ret := some .int) hy.1 rfl ?_
  intro p e s m args below meth c s₁ B hml hv
  obtain ⟨rfl, hP, hK, hKs⟩ := hv
  have hx := B.exec
  have hb := B.bytes
  have hr := B.returns
  have hts := atoms_spec (ws := Cond.code y cc nL (some .int) :: TB) B.pre
  have hown : s.vm.findClass y.cls = some m.cls := findClass_of_methodNamed B.named
  have hlocks := B.notSynchronized
  rw [lg_entry_eq]
  refine h (p, l, e, rmd d, s, m, av.toArray, below, meth, c, (0, 0), MQ below (va_Qi (fun (v : Int32) (_ : Unit) => v = r) (fun _ t => PosC E sh m2 t) (Ab E)) av.toArray s 0 0 (Ab E)) ⟨hx, hb, hml, hown, fun w hw => hts w (List.mem_cons_of_mem _ hw), hK, hKs, Nat.le_refl _, Nat.le_refl _, Nat.le_refl _, Nat.le_refl _⟩ rfl ?_ s.heap [] _ hP va_S.rf (lv_entry av hy.2)
  intro pc ls hd H locs arr hP hS hl
  exact W.iret (v := r) hx hb hr (fun t ht hW => ⟨⟨r, (), rfl, rfl, by show va_P _ _ _ t.heap; rw [ht]; exact hP⟩, hS.F ht⟩) hS.2.2 hd
theorem mk_CtZ (hy : plainName y.cls = true ∧ (lg_sl av).length ≤ nL) (h : ∀ X : Cx, Std X E cc y.cls nL d → cxL X = l → (isb r = true → RetI X E cc nL sh r m2) → J X E nL 0 (lv_args 0 av) [] sh mem) : CtI l E d y cc nL (some .boolean) av sh mem r m2 := by
  refine Met.ofW (cc := cc) (maxL := nL) (ret := some .boolean) hy.1 rfl ?_
  intro p e s m args below meth c s₁ B hml hv
  obtain ⟨rfl, hP, hK, hKs⟩ := hv
  have hx := B.exec
  have hb := B.bytes
  have hr := B.returns
  have hts := atoms_spec (ws := Cond.code y cc nL (some .boolean) :: TB) B.pre
  have hown : s.vm.findClass y.cls = some m.cls := findClass_of_methodNamed B.named
  have hlocks := B.notSynchronized
  rw [lg_entry_eq]
  refine h (p, l, e, rmd d, s, m, av.toArray, below, meth, c, (0, 0), MQ below (va_Qi (fun (v : Int32) (_ : Unit) => v = r) (fun _ t => PosC E sh m2 t) (Ab E)) av.toArray s 0 0 (Ab E)) ⟨hx, hb, hml, hown, fun w hw => hts w (List.mem_cons_of_mem _ hw), hK, hKs, Nat.le_refl _, Nat.le_refl _, Nat.le_refl _, Nat.le_refl _⟩ rfl ?_ s.heap [] _ hP va_S.rf (lv_entry av hy.2)
  intro hz pc ls hd H locs arr hP hS hl
  exact W.zret (v := r) (ty := .boolean) hx hb hr (isb_nf hz).1 (fun t ht hW => ⟨⟨r, (), rfl, rfl, by show va_P _ _ _ t.heap; rw [ht]; exact hP⟩, hS.F ht⟩) hS.2.2 hd
theorem mk_CtL {r : Int64} (hy : plainName y.cls = true ∧ (lg_sl av).length ≤ nL) (h : ∀ X : Cx, Std X E cc y.cls nL d → cxL X = l → RetL X E cc nL sh r m2 → J X E nL 0 (lv_args 0 av) [] sh mem) : CtL l E d y cc nL av sh mem r m2 := by
  refine Met.ofW (cc := cc) (maxL := nL) (ret := some .long) hy.1 rfl ?_
  intro p e s m args below meth c s₁ B hml hv
  obtain ⟨rfl, hP, hK, hKs⟩ := hv
  have hx := B.exec
  have hb := B.bytes
  have hr := B.returns
  have hts := atoms_spec (ws := Cond.code y cc nL (some .long) :: TB) B.pre
  have hown : s.vm.findClass y.cls = some m.cls := findClass_of_methodNamed B.named
  have hlocks := B.notSynchronized
  rw [lg_entry_eq]
  refine h (p, l, e, rmd d, s, m, av.toArray, below, meth, c, (0, 0), MQ below (va_Ql (fun (v : Int64) (_ : Unit) => v = r) (fun _ t => PosC E sh m2 t) (Ab E)) av.toArray s 0 0 (Ab E)) ⟨hx, hb, hml, hown, fun w hw => hts w (List.mem_cons_of_mem _ hw), hK, hKs, Nat.le_refl _, Nat.le_refl _, Nat.le_refl _, Nat.le_refl _⟩ rfl ?_ s.heap [] _ hP va_S.rf (lv_entry av hy.2)
  intro pc ls hd H locs arr hP hS hl
  exact W.lret (v := r) hx hb hr (fun t ht hW => ⟨⟨r, (), rfl, rfl, by show va_P _ _ _ t.heap; rw [ht]; exact hP⟩, hS.F ht⟩) hS.2.2 hd
theorem mk_CtV (hy : plainName y.cls = true ∧ (lg_sl av).length ≤ nL) (h : ∀ X : Cx, Std X E cc y.cls nL d → cxL X = l → RetV X E cc nL sh m2 → J X E nL 0 (lv_args 0 av) [] sh mem) : CtV l E d y cc nL av sh mem m2 := by
  refine Met.ofW (cc := cc) (maxL := nL) (ret := none) hy.1 rfl ?_
  intro p e s m args below meth c s₁ B hml hv
  obtain ⟨rfl, hP, hK, hKs⟩ := hv
  have hx := B.exec
  have hb := B.bytes
  have hr := B.returns
  have hts := atoms_spec (ws := Cond.code y cc nL none :: TB) B.pre
  have hown : s.vm.findClass y.cls = some m.cls := findClass_of_methodNamed B.named
  have hlocks := B.notSynchronized
  rw [lg_entry_eq]
  refine h (p, l, e, rmd d, s, m, av.toArray, below, meth, c, (0, 0), MQ below (va_Qv (fun (_ : Unit) => True) (fun _ t => PosC E sh m2 t) (Ab E)) av.toArray s 0 0 (Ab E)) ⟨hx, hb, hml, hown, fun w hw => hts w (List.mem_cons_of_mem _ hw), hK, hKs, Nat.le_refl _, Nat.le_refl _, Nat.le_refl _, Nat.le_refl _⟩ rfl ?_ s.heap [] _ hP va_S.rf (lv_entry av hy.2)
  intro pc ls hd H locs arr hP hS hl
  exact W.vret hx hb hr (fun t ht hW => ⟨⟨(), rfl, trivial, by show va_P _ _ _ t.heap; rw [ht]; exact hP⟩, hS.F ht⟩) hS.2.2 hd
end MK
/-- a call's links -/
def MV (own : String) (idx : Nat) (y : MethodName) (cc : ByteArray) (nL : Nat) (ret : Option FieldType) (n : Nat) : Prop :=
  (Cond.methodLink own idx y ∈ TB ∧ Cond.instanceMethod y ∈ TB ∧ Cond.selects y.cls y y ∈ TB ∧ Cond.initialized y.cls ∈ TB ∧ Cond.code y cc nL ret ∈ TB) ∧ (y.cls ≠ "java/lang/invoke/MethodHandle" ∧ y.cls ≠ "java/lang/invoke/VarHandle" ∧ (parseMethodDescriptor y.desc).map (fun d => d.parameters.length) = some n) ∧ nL ≤ 21
def MS (own : String) (idx : Nat) (y : MethodName) (cc : ByteArray) (nL : Nat) (ret : Option FieldType) (n : Nat) : Prop :=
  (Cond.methodLink own idx y ∈ TB ∧ Cond.static y ∈ TB ∧ Cond.initialized y.cls ∈ TB ∧ Cond.code y cc nL ret ∈ TB) ∧ (y.cls ≠ "java/lang/invoke/MethodHandle" ∧ y.cls ≠ "java/lang/invoke/VarHandle" ∧ (parseMethodDescriptor y.desc).map (fun d => d.parameters.length) = some n) ∧ nL ≤ 21
section JC
variable {X : Cx} {E : En} {cc : ByteArray} {own : String} {nL d pc np : Nat} {ls : List (Nat × Value)} {st st0 : List Value} {sh : List Sh} {mem m2 : Mm} {r : Int32}
variable {idx k ci n d2 nL2 : Nat} {sl : List Sl} {y : MethodName} {c2 : ByteArray} {ret : Option FieldType} {As : List Value}
theorem cbV (S : Std X E cc own nL d) (hm : MV own idx y c2 nL2 ret n) (hdd : d2 < d) : CallW (cxR X) (cxS X) (cxA X) own y.cls idx y c2 nL2 ret (Cond.code y c2 nL2 ret :: TB) (rmd d2) 0 0 n := by
  obtain ⟨⟨w1, w2, w3, w4, w5⟩, ⟨h1, h2, h3⟩, h4⟩ := hm
  have hR := S.2.2.2.2.2.2.2
  have hT := S.2.2.2.2.1
  refine ⟨⟨rfl, rfl, by show d2 + 1 ≤ _; omega, by show 8 + (nL2 + 11) + 40 * d2 ≤ _; omega, fun w hw a' U hW => ?_, List.mem_cons_self, hT _ w5, hT _ w4, ⟨h1, h2⟩, fun sig h => ?_, hT _ w1⟩, hT _ w2, hT _ w3⟩
  · have hw : w ∈ TB := (List.mem_cons.mp hw).elim (fun e => e ▸ w5) id
    exact word_at hW (tb_good hw) (hT _ hw)
  · rw [h] at h3
    exact (Option.some.inj h3).symm
theorem cbS (S : Std X E cc own nL d) (hm : MS own idx y c2 nL2 ret n) (hdd : d2 < d) : CallB (cxR X) (cxS X) (cxA X) own idx y c2 nL2 ret (Cond.code y c2 nL2 ret :: TB) (rmd d2) 0 0 n ∧ (Cond.static y).before (cxA X) (cxS X) = true := by
  obtain ⟨⟨w1, w2, w4, w5⟩, ⟨h1, h2, h3⟩, h4⟩ := hm
  have hR := S.2.2.2.2.2.2.2
  have hT := S.2.2.2.2.1
  refine ⟨⟨rfl, rfl, by show d2 + 1 ≤ _; omega, by show 8 + (nL2 + 11) + 40 * d2 ≤ _; omega, fun w hw a' U hW => ?_, List.mem_cons_self, hT _ w5, hT _ w4, ⟨h1, h2⟩, fun sig h => ?_, hT _ w1⟩, hT _ w2⟩
  · have hw : w ∈ TB := (List.mem_cons.mp hw).elim (fun e => e ▸ w5) id
    exact word_at hW (tb_good hw) (hT _ hw)
  · rw [h] at h3
    exact (Option.some.inj h3).symm
theorem preV (S : Std X E cc own nL d) {H : Heap} {locs : List Loc} (hP : va_P E.1 CL (wd E sh mem) H) (hS : va_S (Ab E) (cxS X).heap H locs) (hk : sh[k]? = some (.inl (ci, sl))) {q : vw_C} (hc : CL[ci]? = some q) (hq : q.1 = y.cls) : PreV (cxS X) H y.cls (eb E + k) (va_Pc (.ref (eb E + k) :: As) (PreC E sh mem)) As :=
  ⟨blindC, hq ▸ va_recv S.2.2.2.2.2.1 hP hc (wd_at hk), fun U hU hW => ⟨rfl, by rw [hU]; exact hP, va_K.moved hW.alike S.2.2.2.2.2.1, Ks.warm S.2.2.2.2.2.2.1 hW (by rw [hU]; exact hS.2.1)⟩⟩
theorem preS (S : Std X E cc own nL d) {H : Heap} {locs : List Loc} (hP : va_P E.1 CL (wd E sh mem) H) (hS : va_S (Ab E) (cxS X).heap H locs) : PreS (cxS X) H (va_Pc As (PreC E sh mem)) As :=
  ⟨blindC, fun U hU hW => ⟨rfl, by rw [hU]; exact hP, va_K.moved hW.alike S.2.2.2.2.2.1, Ks.warm S.2.2.2.2.2.2.1 hW (by rw [hU]; exact hS.2.1)⟩⟩
theorem j_callVI (S : Std X E cc own nL d) (hd : decode cc pc = .ok (.invokevirtual idx, 3) ∧ pc + 3 = np) (hm : MV own idx y c2 nL2 ret n) (hM : CtI (cxL X) E d2 y c2 nL2 ret (.ref (eb E + k) :: As) sh mem r m2) (hdd : d2 < d) (hk : sh[k]? = some (.inl (ci, sl))) {q : vw_C} (hc : CL[ci]? = some q) (hq : q.1 = y.cls) (hst : st0 = As.reverse ++ .ref (eb E + k) :: st) (hn : As.length = n) (hcat : (st.map fun v => v.category).sum ≤ 8) (kk : J X E nL np ls (.int r :: st) sh m2) : J X E nL pc ls st0 sh mem := by
  obtain ⟨hd, rfl⟩ := hd
  have hR := S.2.2.2.2.2.2.2
  exact fun H locs arr hP hS hl => va_calli (va_runV (As := As) (rest := st) ⟨S.1, S.2.1, S.2.2.1, S.2.2.2.1, S.2.2.2.2.1⟩ hM (cbV S hm hdd) (preV S hP hS hk hc hq) rfl hn hl.1 hst (lv_room hcat) hd ⟨hR.2.2.1, hR.2.2.2⟩) hS (fun _ _ h => h) (fun _ h => h) (fun r1 u t H1 locs1 ht hvm hw hB hz hk1 hS1 => by
    cases hw
    exact kk H1 locs1 arr (ht ▸ hB) hS1 hl)
theorem j_callSI (S : Std X E cc own nL d) (hd : decode cc pc = .ok (.invokestatic idx, 3) ∧ pc + 3 = np) (hm : MS own idx y c2 nL2 ret n) (hM : CtI (cxL X) E d2 y c2 nL2 ret As sh mem r m2) (hdd : d2 < d) (hst : st0 = As.reverse ++ st) (hn : As.length = n) (hcat : (st.map fun v => v.category).sum ≤ 8) (kk : J X E nL np ls (.int r :: st) sh m2) : J X E nL pc ls st0 sh mem := by
  obtain ⟨hd, rfl⟩ := hd
  have hR := S.2.2.2.2.2.2.2
  exact fun H locs arr hP hS hl => va_calli (va_runS (As := As) (rest := st) ⟨S.1, S.2.1, S.2.2.1, S.2.2.2.1, S.2.2.2.2.1⟩ hM (cbS S hm hdd) (preS S hP hS) rfl hn hl.1 hst (lv_room hcat) hd ⟨hR.2.2.1, hR.2.2.2⟩) hS (fun _ _ h => h) (fun _ h => h) (fun r1 u t H1 locs1 ht hvm hw hB hz hk1 hS1 => by
    cases hw
    exact kk H1 locs1 arr (ht ▸ hB) hS1 hl)
theorem j_callVL {r : Int64} (S : Std X E cc own nL d) (hd : decode cc pc = .ok (.invokevirtual idx, 3) ∧ pc + 3 = np) (hm : MV own idx y c2 nL2 (some .long) n) (hM : CtL (cxL X) E d2 y c2 nL2 (.ref (eb E + k) :: As) sh mem r m2) (hdd : d2 < d) (hk : sh[k]? = some (.inl (ci, sl))) {q : vw_C} (hc : CL[ci]? = some q) (hq : q.1 = y.cls) (hst : st0 = As.reverse ++ .ref (eb E + k) :: st) (hn : As.length = n) (hcat : (st.map fun v => v.category).sum ≤ 8) (kk : J X E nL np ls (.long r :: st) sh m2) : J X E nL pc ls st0 sh mem := by
  obtain ⟨hd, rfl⟩ := hd
  have hR := S.2.2.2.2.2.2.2
  exact fun H locs arr hP hS hl => va_calll (va_runV (As := As) (rest := st) ⟨S.1, S.2.1, S.2.2.1, S.2.2.2.1, S.2.2.2.2.1⟩ hM (cbV S hm hdd) (preV S hP hS hk hc hq) rfl hn hl.1 hst (lv_room hcat) hd ⟨hR.2.2.1, hR.2.2.2⟩) hS (fun _ _ h => h) (fun _ h => h) (fun r1 u t H1 locs1 ht hvm hw hB hz hk1 hS1 => by
    cases hw
    exact kk H1 locs1 arr (ht ▸ hB) hS1 hl)
theorem j_callVV (S : Std X E cc own nL d) (hd : decode cc pc = .ok (.invokevirtual idx, 3) ∧ pc + 3 = np) (hm : MV own idx y c2 nL2 none n) (hM : CtV (cxL X) E d2 y c2 nL2 (.ref (eb E + k) :: As) sh mem m2) (hdd : d2 < d) (hk : sh[k]? = some (.inl (ci, sl))) {q : vw_C} (hc : CL[ci]? = some q) (hq : q.1 = y.cls) (hst : st0 = As.reverse ++ .ref (eb E + k) :: st) (hn : As.length = n) (hcat : (st.map fun v => v.category).sum ≤ 8) (kk : J X E nL np ls st sh m2) : J X E nL pc ls st0 sh mem := by
  obtain ⟨hd, rfl⟩ := hd
  have hR := S.2.2.2.2.2.2.2
  exact fun H locs arr hP hS hl => va_callv (va_runV (As := As) (rest := st) ⟨S.1, S.2.1, S.2.2.1, S.2.2.2.1, S.2.2.2.2.1⟩ hM (cbV S hm hdd) (preV S hP hS hk hc hq) rfl hn hl.1 hst (lv_room hcat) hd ⟨hR.2.2.1, hR.2.2.2⟩) hS (fun _ _ h => h) (fun _ h => h) (fun u t H1 locs1 ht hvm hw hB hz hk1 hS1 => kk H1 locs1 arr (ht ▸ hB) hS1 hl)
theorem j_callSV (S : Std X E cc own nL d) (hd : decode cc pc = .ok (.invokestatic idx, 3) ∧ pc + 3 = np) (hm : MS own idx y c2 nL2 none n) (hM : CtV (cxL X) E d2 y c2 nL2 As sh mem m2) (hdd : d2 < d) (hst : st0 = As.reverse ++ st) (hn : As.length = n) (hcat : (st.map fun v => v.category).sum ≤ 8) (kk : J X E nL np ls st sh m2) : J X E nL pc ls st0 sh mem := by
  obtain ⟨hd, rfl⟩ := hd
  have hR := S.2.2.2.2.2.2.2
  exact fun H locs arr hP hS hl => va_callv (va_runS (As := As) (rest := st) ⟨S.1, S.2.1, S.2.2.1, S.2.2.2.1, S.2.2.2.2.1⟩ hM (cbS S hm hdd) (preS S hP hS) rfl hn hl.1 hst (lv_room hcat) hd ⟨hR.2.2.1, hR.2.2.2⟩) hS (fun _ _ h => h) (fun _ h => h) (fun u t H1 locs1 ht hvm hw hB hz hk1 hS1 => kk H1 locs1 arr (ht ▸ hB) hS1 hl)
end JC
-- how the printed functions are taken apart
def lt {α β : Type} (e : α) (f : α → Option β) : Option β := f e
theorem ltE {α β : Type} {e : α} {f : α → Option β} {z : β} (h : lt e f = some z) : ∃ x, x = e ∧ f x = some z := ⟨e, rfl, h⟩
theorem gdE {α : Type} {c : Prop} [Decidable c] {a : Option α} {z : α} (h : (if c then a else none) = some z) : c ∧ a = some z := by
  by_cases hc : c
  · exact ⟨hc, by rw [if_pos hc] at h; exact h⟩
  · rw [if_neg hc] at h; cases h
def bp {α β : Type} (o : Option α) (f : α → Option β) : Option β := match o with
  | none => none
  | some x => f x
theorem bpE {α β : Type} {o : Option α} {f : α → Option β} {z : β} (h : bp o f = some z) : ∃ x, o = some x ∧ f x = some z := by
  cases o with
  | none => cases h
  | some x => exact ⟨x, rfl, h⟩
def bd {α β : Type} (o : Option (α × Mm)) (f : α → Mm → Option β) : Option β := match o with
  | none => none
  | some x => f x.1 x.2
theorem bdE {α β : Type} {o : Option (α × Mm)} {f : α → Mm → Option β} {z : β} (h : bd o f = some z) : ∃ x m, o = some (x, m) ∧ f x m = some z := by
  cases o with
  | none => cases h
  | some x => exact ⟨x.1, x.2, rfl, h⟩
theorem ifT {α : Type} {c : Prop} [Decidable c] {a b z : α} (hc : c) (h : (if c then a else b) = z) : a = z := by rw [if_pos hc] at h; exact h
theorem ifF {α : Type} {c : Prop} [Decidable c] {a b z : α} (hc : ¬ c) (h : (if c then a else b) = z) : b = z := by rw [if_neg hc] at h; exact h
end
