
theorem mv_R3_91 : MV R3 91 ⟨"java/lang/String", "length", "()I"⟩ prog_12_method_54_code 1 (some .int) 0 := ⟨⟨tb_t 524 (by decide +kernel), tb_t 525 (by decide +kernel), tb_t 526 (by decide +kernel), tb_t 11 (by decide +kernel), tb_t 527 (by decide +kernel)⟩, ⟨by decide, by decide, by decide +kernel⟩, by decide⟩
theorem mv_R3_96 : MV R3 96 ⟨"java/lang/String", "charAt", "(I)C"⟩ prog_12_method_56_code 2 (some .char) 1 := ⟨⟨tb_t 534 (by decide +kernel), tb_t 535 (by decide +kernel), tb_t 536 (by decide +kernel), tb_t 11 (by decide +kernel), tb_t 537 (by decide +kernel)⟩, ⟨by decide, by decide, by decide +kernel⟩, by decide⟩
theorem mv_R3_124 : MV R3 124 ⟨"java/lang/String", "indexOf", "(I)I"⟩ prog_12_method_79_code 2 (some .int) 1 := ⟨⟨tb_t 594 (by decide +kernel), tb_t 595 (by decide +kernel), tb_t 596 (by decide +kernel), tb_t 11 (by decide +kernel), tb_t 597 (by decide +kernel)⟩, ⟨by decide, by decide, by decide +kernel⟩, by decide⟩
theorem mv_RJS_335 : MV RJS 335 ⟨"java/lang/String", "coder", "()B"⟩ prog_12_method_152_code 1 (some .byte) 0 := ⟨⟨tb_t 528 (by decide +kernel), tb_t 529 (by decide +kernel), tb_t 530 (by decide +kernel), tb_t 11 (by decide +kernel), tb_t 531 (by decide +kernel)⟩, ⟨by decide, by decide, by decide +kernel⟩, by decide⟩
theorem mv_RJS_492 : MV RJS 492 ⟨"java/lang/String", "isLatin1", "()Z"⟩ prog_12_method_154_code 1 (some .boolean) 0 := ⟨⟨tb_t 538 (by decide +kernel), tb_t 539 (by decide +kernel), tb_t 540 (by decide +kernel), tb_t 11 (by decide +kernel), tb_t 541 (by decide +kernel)⟩, ⟨by decide, by decide, by decide +kernel⟩, by decide⟩
theorem ms_RJS_495 : MS RJS 495 ⟨"java/lang/StringLatin1", "charAt", "([BI)C"⟩ prog_13_method_2_code 2 (some .char) 2 := ⟨⟨tb_t 542 (by decide +kernel), tb_t 543 (by decide +kernel), tb_t 12 (by decide +kernel), tb_t 544 (by decide +kernel)⟩, ⟨by decide, by decide, by decide +kernel⟩, by decide⟩
theorem mv_RJS_505 : MV RJS 505 ⟨"java/lang/String", "length", "()I"⟩ prog_12_method_54_code 1 (some .int) 0 := ⟨⟨tb_t 602 (by decide +kernel), tb_t 525 (by decide +kernel), tb_t 526 (by decide +kernel), tb_t 11 (by decide +kernel), tb_t 527 (by decide +kernel)⟩, ⟨by decide, by decide, by decide +kernel⟩, by decide⟩
theorem mv_RJS_633 : MV RJS 633 ⟨"java/lang/String", "indexOf", "(II)I"⟩ prog_12_method_80_code 3 (some .int) 2 := ⟨⟨tb_t 598 (by decide +kernel), tb_t 599 (by decide +kernel), tb_t 600 (by decide +kernel), tb_t 11 (by decide +kernel), tb_t 601 (by decide +kernel)⟩, ⟨by decide, by decide, by decide +kernel⟩, by decide⟩
theorem ms_RJS_637 : MS RJS 637 ⟨"java/lang/StringLatin1", "indexOf", "([BIII)I"⟩ prog_13_method_22_code 4 (some .int) 4 := ⟨⟨tb_t 603 (by decide +kernel), tb_t 604 (by decide +kernel), tb_t 12 (by decide +kernel), tb_t 605 (by decide +kernel)⟩, ⟨by decide, by decide, by decide +kernel⟩, by decide⟩
theorem ms_RJS_1059 : MS RJS 1059 ⟨"jdk/internal/util/Preconditions", "checkIndex", "(IILjava/util/function/BiFunction;)I"⟩ prog_16_method_11_code 3 (some .int) 3 := ⟨⟨tb_t 550 (by decide +kernel), tb_t 551 (by decide +kernel), tb_t 13 (by decide +kernel), tb_t 552 (by decide +kernel)⟩, ⟨by decide, by decide, by decide +kernel⟩, by decide⟩
theorem ms_RJS_1062 : MS RJS 1062 ⟨"jdk/internal/util/Preconditions", "checkFromToIndex", "(IIILjava/util/function/BiFunction;)I"⟩ prog_16_method_12_code 4 (some .int) 4 := ⟨⟨tb_t 629 (by decide +kernel), tb_t 630 (by decide +kernel), tb_t 13 (by decide +kernel), tb_t 631 (by decide +kernel)⟩, ⟨by decide, by decide, by decide +kernel⟩, by decide⟩
theorem ms_RJL_9 : MS RJL 9 ⟨"java/lang/String", "checkIndex", "(II)V"⟩ prog_12_method_155_code 2 none 2 := ⟨⟨tb_t 545 (by decide +kernel), tb_t 546 (by decide +kernel), tb_t 11 (by decide +kernel), tb_t 547 (by decide +kernel)⟩, ⟨by decide, by decide, by decide +kernel⟩, by decide⟩
theorem mm_RJL_38 : Cond.methodLink RJL 38 Lib.Math.min.name ∈ TB ∧ Cond.static Lib.Math.min.name ∈ TB ∧ Cond.initialized "java/lang/Math" ∈ TB ∧ Cond.code Lib.Math.min.name Lib.Math.min.code 2 (some .int) ∈ TB := ⟨tb_t 610 (by decide +kernel), tb_t 291 (by decide +kernel), tb_t 9 (by decide +kernel), tb_t 292 (by decide +kernel)⟩
theorem ms_RJL_88 : MS RJL 88 ⟨"java/lang/StringLatin1", "canEncode", "(I)Z"⟩ prog_13_method_4_code 1 (some .boolean) 1 := ⟨⟨tb_t 606 (by decide +kernel), tb_t 607 (by decide +kernel), tb_t 12 (by decide +kernel), tb_t 608 (by decide +kernel)⟩, ⟨by decide, by decide, by decide +kernel⟩, by decide⟩
theorem mm_RJL_92 : Cond.methodLink RJL 92 Lib.Math.max.name ∈ TB ∧ Cond.static Lib.Math.max.name ∈ TB ∧ Cond.initialized "java/lang/Math" ∈ TB ∧ Cond.code Lib.Math.max.name Lib.Math.max.code 2 (some .int) ∈ TB := ⟨tb_t 609 (by decide +kernel), tb_t 294 (by decide +kernel), tb_t 9 (by decide +kernel), tb_t 295 (by decide +kernel)⟩
theorem ms_RJL_95 : MS RJL 95 ⟨"java/lang/StringLatin1", "indexOfChar", "([BIII)I"⟩ prog_13_method_23_code 6 (some .int) 4 := ⟨⟨tb_t 611 (by decide +kernel), tb_t 612 (by decide +kernel), tb_t 12 (by decide +kernel), tb_t 613 (by decide +kernel)⟩, ⟨by decide, by decide, by decide +kernel⟩, by decide⟩
theorem gs_RJS_38 : Cond.fieldLink RJS 38 "java/lang/String" "COMPACT_STRINGS" "Z" ∈ TB := tb_t 532 (by decide +kernel)
theorem gs_RJS_1053 : Cond.fieldLink RJS 1053 "jdk/internal/util/Preconditions" "SIOOBE_FORMATTER" "Ljava/util/function/BiFunction;" ∈ TB := tb_t 548 (by decide +kernel)
theorem gs_RJS_9 : Cond.fieldLink RJS 9 "java/lang/String" "value" "[B" ∈ TB := tb_t 1224 (by decide +kernel)
theorem gs_RJS_15 : Cond.fieldLink RJS 15 "java/lang/String" "coder" "B" ∈ TB := tb_t 1225 (by decide +kernel)
def y_JS_coder : MethodName := ⟨"java/lang/String", "coder", "()B"⟩
theorem D_JS_coder_0 : decode prog_12_method_152_code 0 = .ok (.getstatic 38, 3) ∧ 0 + 3 = 3 := by decide +kernel
theorem D_JS_coder_3 : decode prog_12_method_152_code 3 = .ok (.ifCond .eq 10, 3) ∧ ((3 : Nat) : Int) + 10 = ((13 : Nat) : Int) ∧ 3 + 3 = 6 := by decide +kernel
theorem D_JS_coder_6 : decode prog_12_method_152_code 6 = .ok (.aload_n 0, 1) ∧ 6 + 1 = 7 := by decide +kernel
theorem D_JS_coder_7 : decode prog_12_method_152_code 7 = .ok (.getfield 15, 3) ∧ 7 + 3 = 10 := by decide +kernel
theorem D_JS_coder_10 : decode prog_12_method_152_code 10 = .ok (.goto 4, 3) ∧ ((10 : Nat) : Int) + 4 = ((14 : Nat) : Int) := by decide +kernel
theorem D_JS_coder_14 : decode prog_12_method_152_code 14 = .ok (.ireturn, 1) := by decide +kernel
def f_JS_coder (p : Nat) (mem : Mm) : Option (Int32) := some 0
theorem c_JS_coder (l : Launch) (E : En) (p : Nat) (hp : p < 6) {mem : Mm} {r : Int32} (h : f_JS_coder p mem = some r) : CtI l E 0 y_JS_coder prog_12_method_152_code 1 (some .byte) [.ref (ek E p)] SH mem r mem := by
  refine mk_CtY ⟨by decide, (Nat.le_of_ble_eq_true rfl)⟩ (fun X S hl hR => ?_)
  have S : Std X E prog_12_method_152_code RJS 1 0 := S
  show J X E 1 0 [(0, .ref (ek E p))] [] SH mem
  unfold f_JS_coder at h
  refine j_gets1 S D_JS_coder_0 gs_RJS_38 ?_
  refine j_if_eq S D_JS_coder_3 (fun c_ => absurd c_ (by decide +kernel)) (fun _ => ?_)
  refine j_aload_n S D_JS_coder_6 0 rfl rfl ?_
  refine j_strC S D_JS_coder_7 gs_RJS_15 hp ?_
  refine j_goto S D_JS_coder_10 ?_
  exact rtIY hR h rfl _ _ D_JS_coder_14

def y_JS_isLatin1 : MethodName := ⟨"java/lang/String", "isLatin1", "()Z"⟩
theorem D_JS_isLatin1_0 : decode prog_12_method_154_code 0 = .ok (.getstatic 38, 3) ∧ 0 + 3 = 3 := by decide +kernel
theorem D_JS_isLatin1_3 : decode prog_12_method_154_code 3 = .ok (.ifCond .eq 14, 3) ∧ ((3 : Nat) : Int) + 14 = ((17 : Nat) : Int) ∧ 3 + 3 = 6 := by decide +kernel
theorem D_JS_isLatin1_6 : decode prog_12_method_154_code 6 = .ok (.aload_n 0, 1) ∧ 6 + 1 = 7 := by decide +kernel
theorem D_JS_isLatin1_7 : decode prog_12_method_154_code 7 = .ok (.getfield 15, 3) ∧ 7 + 3 = 10 := by decide +kernel
theorem D_JS_isLatin1_10 : decode prog_12_method_154_code 10 = .ok (.ifCond .ne 7, 3) ∧ ((10 : Nat) : Int) + 7 = ((17 : Nat) : Int) ∧ 10 + 3 = 13 := by decide +kernel
theorem D_JS_isLatin1_13 : decode prog_12_method_154_code 13 = .ok (.iconst 1, 1) ∧ 13 + 1 = 14 := by decide +kernel
theorem D_JS_isLatin1_14 : decode prog_12_method_154_code 14 = .ok (.goto 4, 3) ∧ ((14 : Nat) : Int) + 4 = ((18 : Nat) : Int) := by decide +kernel
theorem D_JS_isLatin1_18 : decode prog_12_method_154_code 18 = .ok (.ireturn, 1) := by decide +kernel
def f_JS_isLatin1 (p : Nat) (mem : Mm) : Option (Int32) := some 1
theorem c_JS_isLatin1 (l : Launch) (E : En) (p : Nat) (hp : p < 6) {mem : Mm} {r : Int32} (h : f_JS_isLatin1 p mem = some r) : CtI l E 0 y_JS_isLatin1 prog_12_method_154_code 1 (some .boolean) [.ref (ek E p)] SH mem r mem := by
  refine mk_CtZ ⟨by decide, (Nat.le_of_ble_eq_true rfl)⟩ (fun X S hl hR => ?_)
  have S : Std X E prog_12_method_154_code RJS 1 0 := S
  show J X E 1 0 [(0, .ref (ek E p))] [] SH mem
  unfold f_JS_isLatin1 at h
  refine j_gets1 S D_JS_isLatin1_0 gs_RJS_38 ?_
  refine j_if_eq S D_JS_isLatin1_3 (fun c_ => absurd c_ (by decide +kernel)) (fun _ => ?_)
  refine j_aload_n S D_JS_isLatin1_6 0 rfl rfl ?_
  refine j_strC S D_JS_isLatin1_7 gs_RJS_15 hp ?_
  refine j_if_ne S D_JS_isLatin1_10 (fun c_ => absurd c_ (by decide +kernel)) (fun _ => ?_)
  refine j_iconst S D_JS_isLatin1_13 ci_1 ?_
  refine j_goto S D_JS_isLatin1_14 ?_
  exact rtIZ hR h isb1 _ _ D_JS_isLatin1_18

def y_JS_length : MethodName := ⟨"java/lang/String", "length", "()I"⟩
theorem D_JS_length_0 : decode prog_12_method_54_code 0 = .ok (.aload_n 0, 1) ∧ 0 + 1 = 1 := by decide +kernel
theorem D_JS_length_1 : decode prog_12_method_54_code 1 = .ok (.getfield 9, 3) ∧ 1 + 3 = 4 := by decide +kernel
theorem D_JS_length_4 : decode prog_12_method_54_code 4 = .ok (.arraylength, 1) ∧ 4 + 1 = 5 := by decide +kernel
theorem D_JS_length_5 : decode prog_12_method_54_code 5 = .ok (.aload_n 0, 1) ∧ 5 + 1 = 6 := by decide +kernel
theorem D_JS_length_6 : decode prog_12_method_54_code 6 = .ok (.invokevirtual 335, 3) ∧ 6 + 3 = 9 := by decide +kernel
theorem D_JS_length_9 : decode prog_12_method_54_code 9 = .ok (.ishr, 1) ∧ 9 + 1 = 10 := by decide +kernel
theorem D_JS_length_10 : decode prog_12_method_54_code 10 = .ok (.ireturn, 1) := by decide +kernel
def f_JS_length (p : Nat) (mem : Mm) : Option (Int32) := bp (f_JS_coder p mem) fun r_6 => some ((Int32.ofNat (sN p)) >>> (r_6 &&& 31))
theorem c_JS_length (l : Launch) (E : En) (p : Nat) (hp : p < 6) {mem : Mm} {r : Int32} (h : f_JS_length p mem = some r) : CtI l E 1 y_JS_length prog_12_method_54_code 1 (some .int) [.ref (ek E p)] SH mem r mem := by
  refine mk_CtI ⟨by decide, (Nat.le_of_ble_eq_true rfl)⟩ (fun X S hl hR => ?_)
  have S : Std X E prog_12_method_54_code RJS 1 1 := S
  show J X E 1 0 [(0, .ref (ek E p))] [] SH mem
  unfold f_JS_length at h
  refine j_aload_n S D_JS_length_0 0 rfl rfl ?_
  refine j_strV S D_JS_length_1 gs_RJS_9 hp ?_
  refine j_slen S D_JS_length_4 hp ?_
  refine j_aload_n S D_JS_length_5 0 rfl rfl ?_
  obtain ⟨r_6, e_6, h⟩ := bpE h
  refine j_callTI (As := []) S D_JS_length_6 mv_RJS_335 (c_JS_coder (cxL X) E p hp e_6) (by decide) hp rfl rfl rfl (Nat.le_of_ble_eq_true rfl) ?_
  refine j_ishr S D_JS_length_9 ?_
  exact rtI hR h _ _ D_JS_length_10

def y_JP_checkIndex : MethodName := ⟨"jdk/internal/util/Preconditions", "checkIndex", "(IILjava/util/function/BiFunction;)I"⟩
theorem D_JP_checkIndex_0 : decode prog_16_method_11_code 0 = .ok (.iload_n 0, 1) ∧ 0 + 1 = 1 := by decide +kernel
theorem D_JP_checkIndex_1 : decode prog_16_method_11_code 1 = .ok (.ifCond .lt 8, 3) ∧ ((1 : Nat) : Int) + 8 = ((9 : Nat) : Int) ∧ 1 + 3 = 4 := by decide +kernel
theorem D_JP_checkIndex_4 : decode prog_16_method_11_code 4 = .ok (.iload_n 0, 1) ∧ 4 + 1 = 5 := by decide +kernel
theorem D_JP_checkIndex_5 : decode prog_16_method_11_code 5 = .ok (.iload_n 1, 1) ∧ 5 + 1 = 6 := by decide +kernel
theorem D_JP_checkIndex_6 : decode prog_16_method_11_code 6 = .ok (.if_icmp .lt 10, 3) ∧ ((6 : Nat) : Int) + 10 = ((16 : Nat) : Int) ∧ 6 + 3 = 9 := by decide +kernel
theorem D_JP_checkIndex_16 : decode prog_16_method_11_code 16 = .ok (.iload_n 0, 1) ∧ 16 + 1 = 17 := by decide +kernel
theorem D_JP_checkIndex_17 : decode prog_16_method_11_code 17 = .ok (.ireturn, 1) := by decide +kernel
def f_JP_checkIndex (a1 : Int32) (a2 : Int32) : Option (Int32) := if a1 < 0 then none else if a1 < a2 then some a1 else none
theorem c_JP_checkIndex (l : Launch) (E : En) (a1 : Int32) (a2 : Int32) (o1 : Value) (ho1 : o1.category = 1) {mem : Mm} {r : Int32} (h : f_JP_checkIndex a1 a2 = some r) : CtI l E 0 y_JP_checkIndex prog_16_method_11_code 3 (some .int) [.int a1, .int a2, o1] SH mem r mem := by
  refine mk_CtI ⟨by decide, lenW ho1⟩ (fun X S hl hR => ?_)
  have S : Std X E prog_16_method_11_code RJP 3 0 := S
  show J X E 3 0 [(0, .int a1), (1, .int a2), (2, o1)] [] SH mem
  unfold f_JP_checkIndex at h
  refine j_iload_n S D_JP_checkIndex_0 0 rfl rfl ?_
  refine j_if_lt S D_JP_checkIndex_1 (fun c_1 => ?_) (fun c_1 => ?_)
  · have h := ifT c_1 h
    cases h
  · have h := ifF c_1 h
    refine j_iload_n S D_JP_checkIndex_4 0 rfl rfl ?_
    refine j_iload_n S D_JP_checkIndex_5 1 rfl rfl ?_
    refine j_icmp_lt S D_JP_checkIndex_6 (fun c_6 => ?_) (fun c_6 => ?_)
    · have h := ifT c_6 h
      refine j_iload_n S D_JP_checkIndex_16 0 rfl rfl ?_
      exact rtI hR h _ _ D_JP_checkIndex_17
    · have h := ifF c_6 h
      cases h

def y_JS_checkIndex : MethodName := ⟨"java/lang/String", "checkIndex", "(II)V"⟩
theorem D_JS_checkIndex_0 : decode prog_12_method_155_code 0 = .ok (.iload_n 0, 1) ∧ 0 + 1 = 1 := by decide +kernel
theorem D_JS_checkIndex_1 : decode prog_12_method_155_code 1 = .ok (.iload_n 1, 1) ∧ 1 + 1 = 2 := by decide +kernel
theorem D_JS_checkIndex_2 : decode prog_12_method_155_code 2 = .ok (.getstatic 1053, 3) ∧ 2 + 3 = 5 := by decide +kernel
theorem D_JS_checkIndex_5 : decode prog_12_method_155_code 5 = .ok (.invokestatic 1059, 3) ∧ 5 + 3 = 8 := by decide +kernel
theorem D_JS_checkIndex_8 : decode prog_12_method_155_code 8 = .ok (.pop, 1) ∧ 8 + 1 = 9 := by decide +kernel
theorem D_JS_checkIndex_9 : decode prog_12_method_155_code 9 = .ok (.return_, 1) := by decide +kernel
def f_JS_checkIndex (a1 : Int32) (a2 : Int32) : Option (Unit) := bp (f_JP_checkIndex a1 a2) fun r_5 => some ()
theorem c_JS_checkIndex (l : Launch) (E : En) (a1 : Int32) (a2 : Int32) {mem : Mm}  (h : f_JS_checkIndex a1 a2 = some ()) : CtV l E 1 y_JS_checkIndex prog_12_method_155_code 2 [.int a1, .int a2] SH mem mem := by
  refine mk_CtV ⟨by decide, (Nat.le_of_ble_eq_true rfl)⟩ (fun X S hl hR => ?_)
  have S : Std X E prog_12_method_155_code RJS 2 1 := S
  show J X E 2 0 [(0, .int a1), (1, .int a2)] [] SH mem
  unfold f_JS_checkIndex at h
  refine j_iload_n S D_JS_checkIndex_0 0 rfl rfl ?_
  refine j_iload_n S D_JS_checkIndex_1 1 rfl rfl ?_
  refine j_getsQ S D_JS_checkIndex_2 gs_RJS_1053 (fun w_2 hw_2 => ?_)
  obtain ⟨r_5, e_5, h⟩ := bpE h
  refine j_callSI (As := [.int a1, .int a2, w_2]) S D_JS_checkIndex_5 ms_RJS_1059 (c_JP_checkIndex (cxL X) E a1 a2 w_2 hw_2 (mem := mem) e_5) (by decide) rfl rfl (Nat.le_of_ble_eq_true rfl) ?_
  refine j_pop S D_JS_checkIndex_8 rfl ?_
  exact hR _ _ D_JS_checkIndex_9

def y_JL_charAt : MethodName := ⟨"java/lang/StringLatin1", "charAt", "([BI)C"⟩
theorem D_JL_charAt_0 : decode prog_13_method_2_code 0 = .ok (.iload_n 1, 1) ∧ 0 + 1 = 1 := by decide +kernel
theorem D_JL_charAt_1 : decode prog_13_method_2_code 1 = .ok (.aload_n 0, 1) ∧ 1 + 1 = 2 := by decide +kernel
theorem D_JL_charAt_2 : decode prog_13_method_2_code 2 = .ok (.arraylength, 1) ∧ 2 + 1 = 3 := by decide +kernel
theorem D_JL_charAt_3 : decode prog_13_method_2_code 3 = .ok (.invokestatic 9, 3) ∧ 3 + 3 = 6 := by decide +kernel
theorem D_JL_charAt_6 : decode prog_13_method_2_code 6 = .ok (.aload_n 0, 1) ∧ 6 + 1 = 7 := by decide +kernel
theorem D_JL_charAt_7 : decode prog_13_method_2_code 7 = .ok (.iload_n 1, 1) ∧ 7 + 1 = 8 := by decide +kernel
theorem D_JL_charAt_8 : decode prog_13_method_2_code 8 = .ok (.baload, 1) ∧ 8 + 1 = 9 := by decide +kernel
theorem D_JL_charAt_9 : decode prog_13_method_2_code 9 = .ok (.sipush 255, 3) ∧ 9 + 3 = 12 := by decide +kernel
theorem D_JL_charAt_12 : decode prog_13_method_2_code 12 = .ok (.iand, 1) ∧ 12 + 1 = 13 := by decide +kernel
theorem D_JL_charAt_13 : decode prog_13_method_2_code 13 = .ok (.i2c, 1) ∧ 13 + 1 = 14 := by decide +kernel
theorem D_JL_charAt_14 : decode prog_13_method_2_code 14 = .ok (.ireturn, 1) := by decide +kernel
def f_JL_charAt (o1 : Nat) (a2 : Int32) : Option (Int32) := bp (f_JS_checkIndex a2 (Int32.ofNat (sN o1))) fun r_3 => if inb a2 (sN o1) = true then some ((((sB o1 (ix a2)) &&& 255).toUInt32 % 65536).toInt32) else none
theorem c_JL_charAt (l : Launch) (E : En) (o1 : Nat) (ho1 : o1 < 6) (a2 : Int32) {mem : Mm} {r : Int32} (h : f_JL_charAt o1 a2 = some r) : CtI l E 2 y_JL_charAt prog_13_method_2_code 2 (some .char) [.ref (ev E o1), .int a2] SH mem r mem := by
  refine mk_CtY ⟨by decide, (Nat.le_of_ble_eq_true rfl)⟩ (fun X S hl hR => ?_)
  have S : Std X E prog_13_method_2_code RJL 2 2 := S
  show J X E 2 0 [(0, .ref (ev E o1)), (1, .int a2)] [] SH mem
  unfold f_JL_charAt at h
  refine j_iload_n S D_JL_charAt_0 1 rfl rfl ?_
  refine j_aload_n S D_JL_charAt_1 0 rfl rfl ?_
  refine j_slen S D_JL_charAt_2 ho1 ?_
  obtain ⟨r_3, e_3, h⟩ := bpE h
  refine j_callSV (As := [.int a2, .int (Int32.ofNat (sN o1))]) S D_JL_charAt_3 ms_RJL_9 (c_JS_checkIndex (cxL X) E a2 (Int32.ofNat (sN o1)) (mem := mem) e_3) (by decide) rfl rfl (Nat.le_of_ble_eq_true rfl) ?_
  refine j_aload_n S D_JL_charAt_6 0 rfl rfl ?_
  refine j_iload_n S D_JL_charAt_7 1 rfl rfl ?_
  obtain ⟨g_8, h⟩ := gdE h
  refine j_sbald S D_JL_charAt_8 ho1 g_8 ?_
  refine j_sipush S D_JL_charAt_9 cs_255 ?_
  refine j_iand S D_JL_charAt_12 ?_
  refine j_i2c S D_JL_charAt_13 ?_
  exact rtIY hR h (pk_nc _) _ _ D_JL_charAt_14

def y_JS_charAt : MethodName := ⟨"java/lang/String", "charAt", "(I)C"⟩
theorem D_JS_charAt_0 : decode prog_12_method_56_code 0 = .ok (.aload_n 0, 1) ∧ 0 + 1 = 1 := by decide +kernel
theorem D_JS_charAt_1 : decode prog_12_method_56_code 1 = .ok (.invokevirtual 492, 3) ∧ 1 + 3 = 4 := by decide +kernel
theorem D_JS_charAt_4 : decode prog_12_method_56_code 4 = .ok (.ifCond .eq 12, 3) ∧ ((4 : Nat) : Int) + 12 = ((16 : Nat) : Int) ∧ 4 + 3 = 7 := by decide +kernel
theorem D_JS_charAt_7 : decode prog_12_method_56_code 7 = .ok (.aload_n 0, 1) ∧ 7 + 1 = 8 := by decide +kernel
theorem D_JS_charAt_8 : decode prog_12_method_56_code 8 = .ok (.getfield 9, 3) ∧ 8 + 3 = 11 := by decide +kernel
theorem D_JS_charAt_11 : decode prog_12_method_56_code 11 = .ok (.iload_n 1, 1) ∧ 11 + 1 = 12 := by decide +kernel
theorem D_JS_charAt_12 : decode prog_12_method_56_code 12 = .ok (.invokestatic 495, 3) ∧ 12 + 3 = 15 := by decide +kernel
theorem D_JS_charAt_15 : decode prog_12_method_56_code 15 = .ok (.ireturn, 1) := by decide +kernel
def f_JS_charAt (p : Nat) (a1 : Int32) (mem : Mm) : Option (Int32) := bp (f_JS_isLatin1 p mem) fun r_1 => if r_1 = 0 then none else bp (f_JL_charAt p a1) fun r_12 => if isc r_12 = true then some r_12 else none
theorem c_JS_charAt (l : Launch) (E : En) (p : Nat) (hp : p < 6) (a1 : Int32) {mem : Mm} {r : Int32} (h : f_JS_charAt p a1 mem = some r) : CtI l E 3 y_JS_charAt prog_12_method_56_code 2 (some .char) [.ref (ek E p), .int a1] SH mem r mem := by
  refine mk_CtY ⟨by decide, (Nat.le_of_ble_eq_true rfl)⟩ (fun X S hl hR => ?_)
  have S : Std X E prog_12_method_56_code RJS 2 3 := S
  show J X E 2 0 [(0, .ref (ek E p)), (1, .int a1)] [] SH mem
  unfold f_JS_charAt at h
  refine j_aload_n S D_JS_charAt_0 0 rfl rfl ?_
  obtain ⟨r_1, e_1, h⟩ := bpE h
  refine j_callTI (As := []) S D_JS_charAt_1 mv_RJS_492 (c_JS_isLatin1 (cxL X) E p hp e_1) (by decide) hp rfl rfl rfl (Nat.le_of_ble_eq_true rfl) ?_
  refine j_if_eq S D_JS_charAt_4 (fun c_4 => ?_) (fun c_4 => ?_)
  · have h := ifT c_4 h
    cases h
  · have h := ifF c_4 h
    refine j_aload_n S D_JS_charAt_7 0 rfl rfl ?_
    refine j_strV S D_JS_charAt_8 gs_RJS_9 hp ?_
    refine j_iload_n S D_JS_charAt_11 1 rfl rfl ?_
    obtain ⟨r_12, e_12, h⟩ := bpE h
    refine j_callSI (As := [.ref (ev E p), .int a1]) S D_JS_charAt_12 ms_RJS_495 (c_JL_charAt (cxL X) E p hp a1 (mem := mem) e_12) (by decide) rfl rfl (Nat.le_of_ble_eq_true rfl) ?_
    obtain ⟨z_15, h⟩ := gdE h
    exact rtIY hR h (isc_n z_15) _ _ D_JS_charAt_15

def y_JL_canEncode : MethodName := ⟨"java/lang/StringLatin1", "canEncode", "(I)Z"⟩
theorem D_JL_canEncode_0 : decode prog_13_method_4_code 0 = .ok (.iload_n 0, 1) ∧ 0 + 1 = 1 := by decide +kernel
theorem D_JL_canEncode_15 : decode prog_13_method_4_code 15 = .ok (.iconst 0, 1) ∧ 15 + 1 = 16 := by decide +kernel
theorem D_JL_canEncode_4 : decode prog_13_method_4_code 4 = .ok (.iload_n 0, 1) ∧ 4 + 1 = 5 := by decide +kernel
theorem D_JL_canEncode_5 : decode prog_13_method_4_code 5 = .ok (.sipush 255, 3) ∧ 5 + 3 = 8 := by decide +kernel
theorem D_JL_canEncode_11 : decode prog_13_method_4_code 11 = .ok (.iconst 1, 1) ∧ 11 + 1 = 12 := by decide +kernel
theorem D_JL_canEncode_12 : decode prog_13_method_4_code 12 = .ok (.goto 4, 3) ∧ ((12 : Nat) : Int) + 4 = ((16 : Nat) : Int) := by decide +kernel
theorem D_JL_canEncode_8 : decode prog_13_method_4_code 8 = .ok (.if_icmp .gt 7, 3) ∧ ((8 : Nat) : Int) + 7 = ((15 : Nat) : Int) ∧ 8 + 3 = 11 := by decide +kernel
theorem D_JL_canEncode_1 : decode prog_13_method_4_code 1 = .ok (.ifCond .lt 14, 3) ∧ ((1 : Nat) : Int) + 14 = ((15 : Nat) : Int) ∧ 1 + 3 = 4 := by decide +kernel
theorem D_JL_canEncode_16 : decode prog_13_method_4_code 16 = .ok (.ireturn, 1) := by decide +kernel
def f_JL_canEncode (a1 : Int32) : Option (Int32) := some (if a1 < 0 then (0 : Int32) else if 255 < a1 then (0 : Int32) else 1)
theorem c_JL_canEncode (l : Launch) (E : En) (a1 : Int32) {mem : Mm} {r : Int32} (h : f_JL_canEncode a1 = some r) : CtI l E 0 y_JL_canEncode prog_13_method_4_code 1 (some .boolean) [.int a1] SH mem r mem := by
  refine mk_CtZ ⟨by decide, (Nat.le_of_ble_eq_true rfl)⟩ (fun X S hl hR => ?_)
  have S : Std X E prog_13_method_4_code RJL 1 0 := S
  show J X E 1 0 [(0, .int a1)] [] SH mem
  unfold f_JL_canEncode at h
  refine j_iload_n S D_JL_canEncode_0 0 rfl rfl ?_
  refine j_dia (P := J X E 1 16 [(0, .int a1)] [.int (if a1 < 0 then (0 : Int32) else if 255 < a1 then (0 : Int32) else 1)] SH mem) (fun hj => ?_) ?_
  · refine j_if_lt S D_JL_canEncode_1 (fun c_1 => ?_) (fun c_1 => ?_)
    · refine j_iconst S D_JL_canEncode_15 ci_0 ?_
      exact j_jnT hj c_1
    · refine j_iload_n S D_JL_canEncode_4 0 rfl rfl ?_
      refine j_sipush S D_JL_canEncode_5 cs_255 ?_
      refine j_dia (P := J X E 1 16 [(0, .int a1)] [.int (if 255 < a1 then (0 : Int32) else 1)] SH mem) (fun hj => ?_) ?_
      · refine j_icmp_gt S D_JL_canEncode_8 (fun c_8 => ?_) (fun c_8 => ?_)
        · refine j_iconst S D_JL_canEncode_15 ci_0 ?_
          exact j_jnT hj c_8
        · refine j_iconst S D_JL_canEncode_11 ci_1 ?_
          refine j_goto S D_JL_canEncode_12 ?_
          exact j_jnF hj c_8
      exact j_jnF hj c_1
  exact rtIZ hR h (isb_ite isb0 (isb_ite isb0 isb1)) _ _ D_JL_canEncode_16

def y_JL_indexOfChar : MethodName := ⟨"java/lang/StringLatin1", "indexOfChar", "([BIII)I"⟩
theorem D_JL_indexOfChar_0 : decode prog_13_method_23_code 0 = .ok (.iload_n 1, 1) ∧ 0 + 1 = 1 := by decide +kernel
theorem D_JL_indexOfChar_1 : decode prog_13_method_23_code 1 = .ok (.i2b, 1) ∧ 1 + 1 = 2 := by decide +kernel
theorem D_JL_indexOfChar_2 : decode prog_13_method_23_code 2 = .ok (.istore 4, 2) ∧ 2 + 2 = 4 := by decide +kernel
theorem D_JL_indexOfChar_4 : decode prog_13_method_23_code 4 = .ok (.iload_n 2, 1) ∧ 4 + 1 = 5 := by decide +kernel
theorem D_JL_indexOfChar_5 : decode prog_13_method_23_code 5 = .ok (.istore 5, 2) ∧ 5 + 2 = 7 := by decide +kernel
theorem D_JL_indexOfChar_7 : decode prog_13_method_23_code 7 = .ok (.iload 5, 2) ∧ 7 + 2 = 9 := by decide +kernel
theorem D_JL_indexOfChar_9 : decode prog_13_method_23_code 9 = .ok (.iload_n 3, 1) ∧ 9 + 1 = 10 := by decide +kernel
theorem D_JL_indexOfChar_10 : decode prog_13_method_23_code 10 = .ok (.if_icmp .ge 21, 3) ∧ ((10 : Nat) : Int) + 21 = ((31 : Nat) : Int) ∧ 10 + 3 = 13 := by decide +kernel
theorem D_JL_indexOfChar_31 : decode prog_13_method_23_code 31 = .ok (.iconst (-1), 1) ∧ 31 + 1 = 32 := by decide +kernel
theorem D_JL_indexOfChar_32 : decode prog_13_method_23_code 32 = .ok (.ireturn, 1) := by decide +kernel
theorem D_JL_indexOfChar_13 : decode prog_13_method_23_code 13 = .ok (.aload_n 0, 1) ∧ 13 + 1 = 14 := by decide +kernel
theorem D_JL_indexOfChar_14 : decode prog_13_method_23_code 14 = .ok (.iload 5, 2) ∧ 14 + 2 = 16 := by decide +kernel
theorem D_JL_indexOfChar_16 : decode prog_13_method_23_code 16 = .ok (.baload, 1) ∧ 16 + 1 = 17 := by decide +kernel
theorem D_JL_indexOfChar_17 : decode prog_13_method_23_code 17 = .ok (.iload 4, 2) ∧ 17 + 2 = 19 := by decide +kernel
theorem D_JL_indexOfChar_19 : decode prog_13_method_23_code 19 = .ok (.if_icmp .ne 6, 3) ∧ ((19 : Nat) : Int) + 6 = ((25 : Nat) : Int) ∧ 19 + 3 = 22 := by decide +kernel
theorem D_JL_indexOfChar_25 : decode prog_13_method_23_code 25 = .ok (.iinc 5 1, 3) ∧ 25 + 3 = 28 := by decide +kernel
theorem D_JL_indexOfChar_28 : decode prog_13_method_23_code 28 = .ok (.goto (-21), 3) ∧ ((28 : Nat) : Int) + (-21) = ((7 : Nat) : Int) := by decide +kernel
theorem D_JL_indexOfChar_22 : decode prog_13_method_23_code 22 = .ok (.iload 5, 2) ∧ 22 + 2 = 24 := by decide +kernel
theorem D_JL_indexOfChar_24 : decode prog_13_method_23_code 24 = .ok (.ireturn, 1) := by decide +kernel
def f_JL_indexOfChar_L7 (o1 : Nat) : Nat → Int32 → Int32 → Int32 → Int32 → Int32 → Mm → Option Int32
  | 0, _, _, _, _, _, _ => none
  | n + 1, b1, b2, b3, b4, b5, mem => if b3 ≤ b5 then some (-1) else if inb b5 (sN o1) = true then if sB o1 (ix b5) = b4 then some b5 else f_JL_indexOfChar_L7 o1 n b1 b2 b3 b4 (b5 + 1) mem else none
def f_JL_indexOfChar (N : Nat) (o1 : Nat) (a2 : Int32) (a3 : Int32) (a4 : Int32) (mem : Mm) : Option (Int32) := f_JL_indexOfChar_L7 o1 N a2 a3 a4 a2.toInt8.toInt32 a3 mem
theorem L_JL_indexOfChar_7 {X : Cx} {E : En} (S : Std X E prog_13_method_23_code RJL 6 0) (o1 : Nat) (ho1 : o1 < 6) {r : Int32} {mem : Mm} (hR : RetI X E prog_13_method_23_code 6 SH r mem) : ∀ (n : Nat) (b1 : Int32) (b2 : Int32) (b3 : Int32) (b4 : Int32) (b5 : Int32), f_JL_indexOfChar_L7 o1 n b1 b2 b3 b4 b5 mem = some r → J X E 6 7 [(0, .ref (ev E o1)), (1, .int b1), (2, .int b2), (3, .int b3), (4, .int b4), (5, .int b5)] [] SH mem := by
  intro n
  induction n with
  | zero =>
    intro b1 b2 b3 b4 b5 h; cases h
  | succ n ih =>
    intro b1 b2 b3 b4 b5 h
    rw [f_JL_indexOfChar_L7] at h
    refine j_iload S D_JL_indexOfChar_7 5 rfl ?_
    refine j_iload_n S D_JL_indexOfChar_9 3 rfl rfl ?_
    refine j_icmp_ge S D_JL_indexOfChar_10 (fun c_10 => ?_) (fun c_10 => ?_)
    · have h := ifT c_10 h
      refine j_iconst S D_JL_indexOfChar_31 ci_m1 ?_
      exact rtI hR h _ _ D_JL_indexOfChar_32
    · have h := ifF c_10 h
      refine j_aload_n S D_JL_indexOfChar_13 0 rfl rfl ?_
      refine j_iload S D_JL_indexOfChar_14 5 rfl ?_
      obtain ⟨g_16, h⟩ := gdE h
      refine j_sbald S D_JL_indexOfChar_16 ho1 g_16 ?_
      refine j_iload S D_JL_indexOfChar_17 4 rfl ?_
      refine j_icmp_ne S D_JL_indexOfChar_19 (fun c_19 => ?_) (fun c_19 => ?_)
      · have h := ifF c_19 h
        refine j_iinc S D_JL_indexOfChar_25 5 rfl (congrArg (fun z => b5 + z) ci_1) (lv := [(5, .int (b5 + 1)), (0, .ref (ev E o1)), (1, .int b1), (2, .int b2), (3, .int b3), (4, .int b4)]) rfl (Nat.le_of_ble_eq_true rfl) ?_
        refine j_goto S D_JL_indexOfChar_28 ?_
        refine j_locals [1, 2, 3, 4, 5, 0] rfl (ih b1 b2 b3 b4 (b5 + 1) h)
      · have h := ifT c_19 h
        refine j_iload S D_JL_indexOfChar_22 5 rfl ?_
        exact rtI hR h _ _ D_JL_indexOfChar_24
theorem c_JL_indexOfChar (l : Launch) (E : En) (N : Nat) (o1 : Nat) (ho1 : o1 < 6) (a2 : Int32) (a3 : Int32) (a4 : Int32) {mem : Mm} {r : Int32} (h : f_JL_indexOfChar N o1 a2 a3 a4 mem = some r) : CtI l E 0 y_JL_indexOfChar prog_13_method_23_code 6 (some .int) [.ref (ev E o1), .int a2, .int a3, .int a4] SH mem r mem := by
  refine mk_CtI ⟨by decide, (Nat.le_of_ble_eq_true rfl)⟩ (fun X S hl hR => ?_)
  have S : Std X E prog_13_method_23_code RJL 6 0 := S
  show J X E 6 0 [(0, .ref (ev E o1)), (1, .int a2), (2, .int a3), (3, .int a4)] [] SH mem
  unfold f_JL_indexOfChar at h
  refine j_iload_n S D_JL_indexOfChar_0 1 rfl rfl ?_
  refine j_i2b S D_JL_indexOfChar_1 ?_
  refine j_istore S D_JL_indexOfChar_2 (lv := [(4, .int a2.toInt8.toInt32), (0, .ref (ev E o1)), (1, .int a2), (2, .int a3), (3, .int a4)]) rfl (Nat.le_of_ble_eq_true rfl) ?_
  refine j_iload_n S D_JL_indexOfChar_4 3 rfl rfl ?_
  refine j_istore S D_JL_indexOfChar_5 (lv := [(5, .int a3), (4, .int a2.toInt8.toInt32), (0, .ref (ev E o1)), (1, .int a2), (2, .int a3), (3, .int a4)]) rfl (Nat.le_of_ble_eq_true rfl) ?_
  refine j_locals [2, 3, 4, 5, 1, 0] rfl ?_
  exact L_JL_indexOfChar_7 S o1 ho1 hR N a2 a3 a4 a2.toInt8.toInt32 a3 h

def y_JL_indexOf : MethodName := ⟨"java/lang/StringLatin1", "indexOf", "([BIII)I"⟩
theorem D_JL_indexOf_0 : decode prog_13_method_22_code 0 = .ok (.iload_n 1, 1) ∧ 0 + 1 = 1 := by decide +kernel
theorem D_JL_indexOf_1 : decode prog_13_method_22_code 1 = .ok (.invokestatic 88, 3) ∧ 1 + 3 = 4 := by decide +kernel
theorem D_JL_indexOf_4 : decode prog_13_method_22_code 4 = .ok (.ifCond .ne 5, 3) ∧ ((4 : Nat) : Int) + 5 = ((9 : Nat) : Int) ∧ 4 + 3 = 7 := by decide +kernel
theorem D_JL_indexOf_9 : decode prog_13_method_22_code 9 = .ok (.iload_n 2, 1) ∧ 9 + 1 = 10 := by decide +kernel
theorem D_JL_indexOf_10 : decode prog_13_method_22_code 10 = .ok (.iconst 0, 1) ∧ 10 + 1 = 11 := by decide +kernel
theorem D_JL_indexOf_11 : decode prog_13_method_22_code 11 = .ok (.invokestatic 92, 3) ∧ 11 + 3 = 14 := by decide +kernel
theorem D_JL_indexOf_14 : decode prog_13_method_22_code 14 = .ok (.istore_n 2, 1) ∧ 14 + 1 = 15 := by decide +kernel
theorem D_JL_indexOf_15 : decode prog_13_method_22_code 15 = .ok (.iload_n 3, 1) ∧ 15 + 1 = 16 := by decide +kernel
theorem D_JL_indexOf_16 : decode prog_13_method_22_code 16 = .ok (.aload_n 0, 1) ∧ 16 + 1 = 17 := by decide +kernel
theorem D_JL_indexOf_17 : decode prog_13_method_22_code 17 = .ok (.arraylength, 1) ∧ 17 + 1 = 18 := by decide +kernel
theorem D_JL_indexOf_18 : decode prog_13_method_22_code 18 = .ok (.invokestatic 38, 3) ∧ 18 + 3 = 21 := by decide +kernel
theorem D_JL_indexOf_21 : decode prog_13_method_22_code 21 = .ok (.istore_n 3, 1) ∧ 21 + 1 = 22 := by decide +kernel
theorem D_JL_indexOf_22 : decode prog_13_method_22_code 22 = .ok (.iload_n 2, 1) ∧ 22 + 1 = 23 := by decide +kernel
theorem D_JL_indexOf_23 : decode prog_13_method_22_code 23 = .ok (.iload_n 3, 1) ∧ 23 + 1 = 24 := by decide +kernel
theorem D_JL_indexOf_24 : decode prog_13_method_22_code 24 = .ok (.if_icmp .lt 5, 3) ∧ ((24 : Nat) : Int) + 5 = ((29 : Nat) : Int) ∧ 24 + 3 = 27 := by decide +kernel
theorem D_JL_indexOf_29 : decode prog_13_method_22_code 29 = .ok (.aload_n 0, 1) ∧ 29 + 1 = 30 := by decide +kernel
theorem D_JL_indexOf_30 : decode prog_13_method_22_code 30 = .ok (.iload_n 1, 1) ∧ 30 + 1 = 31 := by decide +kernel
theorem D_JL_indexOf_31 : decode prog_13_method_22_code 31 = .ok (.iload_n 2, 1) ∧ 31 + 1 = 32 := by decide +kernel
theorem D_JL_indexOf_32 : decode prog_13_method_22_code 32 = .ok (.iload_n 3, 1) ∧ 32 + 1 = 33 := by decide +kernel
theorem D_JL_indexOf_33 : decode prog_13_method_22_code 33 = .ok (.invokestatic 95, 3) ∧ 33 + 3 = 36 := by decide +kernel
theorem D_JL_indexOf_36 : decode prog_13_method_22_code 36 = .ok (.ireturn, 1) := by decide +kernel
theorem D_JL_indexOf_27 : decode prog_13_method_22_code 27 = .ok (.iconst (-1), 1) ∧ 27 + 1 = 28 := by decide +kernel
theorem D_JL_indexOf_28 : decode prog_13_method_22_code 28 = .ok (.ireturn, 1) := by decide +kernel
theorem D_JL_indexOf_7 : decode prog_13_method_22_code 7 = .ok (.iconst (-1), 1) ∧ 7 + 1 = 8 := by decide +kernel
theorem D_JL_indexOf_8 : decode prog_13_method_22_code 8 = .ok (.ireturn, 1) := by decide +kernel
def f_JL_indexOf (N : Nat) (o1 : Nat) (a2 : Int32) (a3 : Int32) (a4 : Int32) (mem : Mm) : Option (Int32) := bp (f_JL_canEncode a2) fun r_1 => if r_1 = 0 then some (-1) else lt (if a3 < 0 then 0 else a3) fun x_14 => lt (if (Int32.ofNat (sN o1)) < a4 then Int32.ofNat (sN o1) else a4) fun x_21 => if x_14 < x_21 then bp (f_JL_indexOfChar N o1 a2 x_14 x_21 mem) fun r_33 => some r_33 else some (-1)
theorem c_JL_indexOf (l : Launch) (E : En) (N : Nat) (o1 : Nat) (ho1 : o1 < 6) (a2 : Int32) (a3 : Int32) (a4 : Int32) {mem : Mm} {r : Int32} (h : f_JL_indexOf N o1 a2 a3 a4 mem = some r) : CtI l E 1 y_JL_indexOf prog_13_method_22_code 4 (some .int) [.ref (ev E o1), .int a2, .int a3, .int a4] SH mem r mem := by
  refine mk_CtI ⟨by decide, (Nat.le_of_ble_eq_true rfl)⟩ (fun X S hl hR => ?_)
  have S : Std X E prog_13_method_22_code RJL 4 1 := S
  show J X E 4 0 [(0, .ref (ev E o1)), (1, .int a2), (2, .int a3), (3, .int a4)] [] SH mem
  unfold f_JL_indexOf at h
  refine j_iload_n S D_JL_indexOf_0 1 rfl rfl ?_
  obtain ⟨r_1, e_1, h⟩ := bpE h
  refine j_callSI (As := [.int a2]) S D_JL_indexOf_1 ms_RJL_88 (c_JL_canEncode (cxL X) E a2 (mem := mem) e_1) (by decide) rfl rfl (Nat.le_of_ble_eq_true rfl) ?_
  refine j_if_ne S D_JL_indexOf_4 (fun c_4 => ?_) (fun c_4 => ?_)
  · have h := ifF c_4 h
    refine j_iload_n S D_JL_indexOf_9 2 rfl rfl ?_
    refine j_iconst S D_JL_indexOf_10 ci_0 ?_
    refine j_mmax S D_JL_indexOf_11 (by decide) mm_RJL_92 (Nat.le_of_ble_eq_true rfl) ?_
    obtain ⟨x_14, hx_14, h⟩ := ltE h
    refine j_nm hx_14 ?_
    refine j_istore_n S D_JL_indexOf_14 (lv := [(2, .int x_14), (0, .ref (ev E o1)), (1, .int a2), (3, .int a4)]) rfl ⟨rfl, (Nat.le_of_ble_eq_true rfl)⟩ ?_
    refine j_iload_n S D_JL_indexOf_15 3 rfl rfl ?_
    refine j_aload_n S D_JL_indexOf_16 1 rfl rfl ?_
    refine j_slen S D_JL_indexOf_17 ho1 ?_
    refine j_mmin S D_JL_indexOf_18 (by decide) mm_RJL_38 (Nat.le_of_ble_eq_true rfl) ?_
    obtain ⟨x_21, hx_21, h⟩ := ltE h
    refine j_nm hx_21 ?_
    refine j_istore_n S D_JL_indexOf_21 (lv := [(3, .int x_21), (2, .int x_14), (0, .ref (ev E o1)), (1, .int a2)]) rfl ⟨rfl, (Nat.le_of_ble_eq_true rfl)⟩ ?_
    refine j_iload_n S D_JL_indexOf_22 1 rfl rfl ?_
    refine j_iload_n S D_JL_indexOf_23 0 rfl rfl ?_
    refine j_icmp_lt S D_JL_indexOf_24 (fun c_24 => ?_) (fun c_24 => ?_)
    · have h := ifT c_24 h
      refine j_aload_n S D_JL_indexOf_29 2 rfl rfl ?_
      refine j_iload_n S D_JL_indexOf_30 3 rfl rfl ?_
      refine j_iload_n S D_JL_indexOf_31 1 rfl rfl ?_
      refine j_iload_n S D_JL_indexOf_32 0 rfl rfl ?_
      obtain ⟨r_33, e_33, h⟩ := bpE h
      refine j_callSI (As := [.ref (ev E o1), .int a2, .int x_14, .int x_21]) S D_JL_indexOf_33 ms_RJL_95 (c_JL_indexOfChar (cxL X) E N o1 ho1 a2 x_14 x_21 e_33) (by decide) rfl rfl (Nat.le_of_ble_eq_true rfl) ?_
      exact rtI hR h _ _ D_JL_indexOf_36
    · have h := ifF c_24 h
      refine j_iconst S D_JL_indexOf_27 ci_m1 ?_
      exact rtI hR h _ _ D_JL_indexOf_28
  · have h := ifT c_4 h
    refine j_iconst S D_JL_indexOf_7 ci_m1 ?_
    exact rtI hR h _ _ D_JL_indexOf_8

def y_JS_indexOf2 : MethodName := ⟨"java/lang/String", "indexOf", "(II)I"⟩
theorem D_JS_indexOf2_0 : decode prog_12_method_80_code 0 = .ok (.aload_n 0, 1) ∧ 0 + 1 = 1 := by decide +kernel
theorem D_JS_indexOf2_1 : decode prog_12_method_80_code 1 = .ok (.invokevirtual 492, 3) ∧ 1 + 3 = 4 := by decide +kernel
theorem D_JS_indexOf2_4 : decode prog_12_method_80_code 4 = .ok (.ifCond .eq 19, 3) ∧ ((4 : Nat) : Int) + 19 = ((23 : Nat) : Int) ∧ 4 + 3 = 7 := by decide +kernel
theorem D_JS_indexOf2_7 : decode prog_12_method_80_code 7 = .ok (.aload_n 0, 1) ∧ 7 + 1 = 8 := by decide +kernel
theorem D_JS_indexOf2_8 : decode prog_12_method_80_code 8 = .ok (.getfield 9, 3) ∧ 8 + 3 = 11 := by decide +kernel
theorem D_JS_indexOf2_11 : decode prog_12_method_80_code 11 = .ok (.iload_n 1, 1) ∧ 11 + 1 = 12 := by decide +kernel
theorem D_JS_indexOf2_12 : decode prog_12_method_80_code 12 = .ok (.iload_n 2, 1) ∧ 12 + 1 = 13 := by decide +kernel
theorem D_JS_indexOf2_13 : decode prog_12_method_80_code 13 = .ok (.aload_n 0, 1) ∧ 13 + 1 = 14 := by decide +kernel
theorem D_JS_indexOf2_14 : decode prog_12_method_80_code 14 = .ok (.invokevirtual 505, 3) ∧ 14 + 3 = 17 := by decide +kernel
theorem D_JS_indexOf2_17 : decode prog_12_method_80_code 17 = .ok (.invokestatic 637, 3) ∧ 17 + 3 = 20 := by decide +kernel
theorem D_JS_indexOf2_20 : decode prog_12_method_80_code 20 = .ok (.goto 16, 3) ∧ ((20 : Nat) : Int) + 16 = ((36 : Nat) : Int) := by decide +kernel
theorem D_JS_indexOf2_36 : decode prog_12_method_80_code 36 = .ok (.ireturn, 1) := by decide +kernel
def f_JS_indexOf2 (N : Nat) (p : Nat) (a1 : Int32) (a2 : Int32) (mem : Mm) : Option (Int32) := bp (f_JS_isLatin1 p mem) fun r_1 => if r_1 = 0 then none else bp (f_JS_length p mem) fun r_14 => bp (f_JL_indexOf N p a1 a2 r_14 mem) fun r_17 => some r_17
theorem c_JS_indexOf2 (l : Launch) (E : En) (N : Nat) (p : Nat) (hp : p < 6) (a1 : Int32) (a2 : Int32) {mem : Mm} {r : Int32} (h : f_JS_indexOf2 N p a1 a2 mem = some r) : CtI l E 2 y_JS_indexOf2 prog_12_method_80_code 3 (some .int) [.ref (ek E p), .int a1, .int a2] SH mem r mem := by
  refine mk_CtI ⟨by decide, (Nat.le_of_ble_eq_true rfl)⟩ (fun X S hl hR => ?_)
  have S : Std X E prog_12_method_80_code RJS 3 2 := S
  show J X E 3 0 [(0, .ref (ek E p)), (1, .int a1), (2, .int a2)] [] SH mem
  unfold f_JS_indexOf2 at h
  refine j_aload_n S D_JS_indexOf2_0 0 rfl rfl ?_
  obtain ⟨r_1, e_1, h⟩ := bpE h
  refine j_callTI (As := []) S D_JS_indexOf2_1 mv_RJS_492 (c_JS_isLatin1 (cxL X) E p hp e_1) (by decide) hp rfl rfl rfl (Nat.le_of_ble_eq_true rfl) ?_
  refine j_if_eq S D_JS_indexOf2_4 (fun c_4 => ?_) (fun c_4 => ?_)
  · have h := ifT c_4 h
    cases h
  · have h := ifF c_4 h
    refine j_aload_n S D_JS_indexOf2_7 0 rfl rfl ?_
    refine j_strV S D_JS_indexOf2_8 gs_RJS_9 hp ?_
    refine j_iload_n S D_JS_indexOf2_11 1 rfl rfl ?_
    refine j_iload_n S D_JS_indexOf2_12 2 rfl rfl ?_
    refine j_aload_n S D_JS_indexOf2_13 0 rfl rfl ?_
    obtain ⟨r_14, e_14, h⟩ := bpE h
    refine j_callTI (As := []) S D_JS_indexOf2_14 mv_RJS_505 (c_JS_length (cxL X) E p hp e_14) (by decide) hp rfl rfl rfl (Nat.le_of_ble_eq_true rfl) ?_
    obtain ⟨r_17, e_17, h⟩ := bpE h
    refine j_callSI (As := [.ref (ev E p), .int a1, .int a2, .int r_14]) S D_JS_indexOf2_17 ms_RJS_637 (c_JL_indexOf (cxL X) E N p hp a1 a2 r_14 e_17) (by decide) rfl rfl (Nat.le_of_ble_eq_true rfl) ?_
    refine j_goto S D_JS_indexOf2_20 ?_
    exact rtI hR h _ _ D_JS_indexOf2_36

def y_JS_indexOf : MethodName := ⟨"java/lang/String", "indexOf", "(I)I"⟩
theorem D_JS_indexOf_0 : decode prog_12_method_79_code 0 = .ok (.aload_n 0, 1) ∧ 0 + 1 = 1 := by decide +kernel
theorem D_JS_indexOf_1 : decode prog_12_method_79_code 1 = .ok (.iload_n 1, 1) ∧ 1 + 1 = 2 := by decide +kernel
theorem D_JS_indexOf_2 : decode prog_12_method_79_code 2 = .ok (.iconst 0, 1) ∧ 2 + 1 = 3 := by decide +kernel
theorem D_JS_indexOf_3 : decode prog_12_method_79_code 3 = .ok (.invokevirtual 633, 3) ∧ 3 + 3 = 6 := by decide +kernel
theorem D_JS_indexOf_6 : decode prog_12_method_79_code 6 = .ok (.ireturn, 1) := by decide +kernel
def f_JS_indexOf (N : Nat) (p : Nat) (a1 : Int32) (mem : Mm) : Option (Int32) := bp (f_JS_indexOf2 N p a1 0 mem) fun r_3 => some r_3
theorem c_JS_indexOf (l : Launch) (E : En) (N : Nat) (p : Nat) (hp : p < 6) (a1 : Int32) {mem : Mm} {r : Int32} (h : f_JS_indexOf N p a1 mem = some r) : CtI l E 3 y_JS_indexOf prog_12_method_79_code 2 (some .int) [.ref (ek E p), .int a1] SH mem r mem := by
  refine mk_CtI ⟨by decide, (Nat.le_of_ble_eq_true rfl)⟩ (fun X S hl hR => ?_)
  have S : Std X E prog_12_method_79_code RJS 2 3 := S
  show J X E 2 0 [(0, .ref (ek E p)), (1, .int a1)] [] SH mem
  unfold f_JS_indexOf at h
  refine j_aload_n S D_JS_indexOf_0 0 rfl rfl ?_
  refine j_iload_n S D_JS_indexOf_1 1 rfl rfl ?_
  refine j_iconst S D_JS_indexOf_2 ci_0 ?_
  obtain ⟨r_3, e_3, h⟩ := bpE h
  refine j_callTI (As := [.int a1, .int 0]) S D_JS_indexOf_3 mv_RJS_633 (c_JS_indexOf2 (cxL X) E N p hp a1 0 e_3) (by decide) hp rfl rfl rfl (Nat.le_of_ble_eq_true rfl) ?_
  exact rtI hR h _ _ D_JS_indexOf_6

def y_T_keyWord : MethodName := ⟨"SandPicture$Tape", "keyWord", "(I)Ljava/lang/String;"⟩
theorem D_T_keyWord_0 : decode prog_6_method_10_code 0 = .ok (.iload_n 0, 1) ∧ 0 + 1 = 1 := by decide +kernel
theorem D_T_keyWord_1 : decode prog_6_method_10_code 1 = .ok (.ifCond .ne 8, 3) ∧ ((1 : Nat) : Int) + 8 = ((9 : Nat) : Int) ∧ 1 + 3 = 4 := by decide +kernel
theorem D_T_keyWord_9 : decode prog_6_method_10_code 9 = .ok (.iload_n 0, 1) ∧ 9 + 1 = 10 := by decide +kernel
theorem D_T_keyWord_10 : decode prog_6_method_10_code 10 = .ok (.iconst 1, 1) ∧ 10 + 1 = 11 := by decide +kernel
theorem D_T_keyWord_11 : decode prog_6_method_10_code 11 = .ok (.if_icmp .ne 8, 3) ∧ ((11 : Nat) : Int) + 8 = ((19 : Nat) : Int) ∧ 11 + 3 = 14 := by decide +kernel
theorem D_T_keyWord_19 : decode prog_6_method_10_code 19 = .ok (.ldc 83, 2) ∧ 19 + 2 = 21 := by decide +kernel
theorem D_T_keyWord_21 : decode prog_6_method_10_code 21 = .ok (.areturn, 1) := by decide +kernel
theorem D_T_keyWord_14 : decode prog_6_method_10_code 14 = .ok (.ldc 81, 2) ∧ 14 + 2 = 16 := by decide +kernel
theorem D_T_keyWord_16 : decode prog_6_method_10_code 16 = .ok (.goto 5, 3) ∧ ((16 : Nat) : Int) + 5 = ((21 : Nat) : Int) := by decide +kernel
theorem D_T_keyWord_4 : decode prog_6_method_10_code 4 = .ok (.ldc 79, 2) ∧ 4 + 2 = 6 := by decide +kernel
theorem D_T_keyWord_6 : decode prog_6_method_10_code 6 = .ok (.goto 15, 3) ∧ ((6 : Nat) : Int) + 15 = ((21 : Nat) : Int) := by decide +kernel
def f_T_keyWord (a1 : Int32) : Option (Nat) := if a1 = 0 then some 0 else if a1 = 1 then some 1 else some 2
theorem c_T_keyWord (l : Launch) (E : En) (a1 : Int32) {mem : Mm} {r : Nat} (h : f_T_keyWord a1 = some r) : CtR l E 0 y_T_keyWord prog_6_method_10_code 1 (some (.object "java/lang/String")) [.int a1] SH mem r := by
  refine mk_CtR ⟨by decide, (Nat.le_of_ble_eq_true rfl)⟩ (fun X S hl hR => ?_)
  have S : Std X E prog_6_method_10_code R3 1 0 := S
  show J X E 1 0 [(0, .int a1)] [] SH mem
  unfold f_T_keyWord at h
  refine j_iload_n S D_T_keyWord_0 0 rfl rfl ?_
  refine j_if_ne S D_T_keyWord_1 (fun c_1 => ?_) (fun c_1 => ?_)
  · have h := ifF c_1 h
    refine j_iload_n S D_T_keyWord_9 0 rfl rfl ?_
    refine j_iconst S D_T_keyWord_10 ci_1 ?_
    refine j_icmp_ne S D_T_keyWord_11 (fun c_11 => ?_) (fun c_11 => ?_)
    · have h := ifF c_11 h
      refine j_ldcS S D_T_keyWord_19 (i := 2) S.2.2.2.2.2.2.1.2.1.2.2.1 ?_
      exact rtR hR h _ _ D_T_keyWord_21
    · have h := ifT c_11 h
      refine j_ldcS S D_T_keyWord_14 (i := 1) S.2.2.2.2.2.2.1.2.1.2.1 ?_
      refine j_goto S D_T_keyWord_16 ?_
      exact rtR hR h _ _ D_T_keyWord_21
  · have h := ifT c_1 h
    refine j_ldcS S D_T_keyWord_4 (i := 0) S.2.2.2.2.2.2.1.2.1.1 ?_
    refine j_goto S D_T_keyWord_6 ?_
    exact rtR hR h _ _ D_T_keyWord_21
theorem hstr_T_keyWord {a : Int32} {r : Nat} (h : f_T_keyWord a = some r) : r < 6 := by
  unfold f_T_keyWord at h
  by_cases h1 : a = 0
  · rw [if_pos h1] at h; cases h; decide
  · rw [if_neg h1] at h
    by_cases h2 : a = 1
    · rw [if_pos h2] at h; cases h; decide
    · rw [if_neg h2] at h; cases h; decide

def y_T_namesOf : MethodName := ⟨"SandPicture$Tape", "namesOf", "(I)Ljava/lang/String;"⟩
theorem D_T_namesOf_0 : decode prog_6_method_11_code 0 = .ok (.iload_n 0, 1) ∧ 0 + 1 = 1 := by decide +kernel
theorem D_T_namesOf_1 : decode prog_6_method_11_code 1 = .ok (.ifCond .ne 8, 3) ∧ ((1 : Nat) : Int) + 8 = ((9 : Nat) : Int) ∧ 1 + 3 = 4 := by decide +kernel
theorem D_T_namesOf_9 : decode prog_6_method_11_code 9 = .ok (.iload_n 0, 1) ∧ 9 + 1 = 10 := by decide +kernel
theorem D_T_namesOf_10 : decode prog_6_method_11_code 10 = .ok (.iconst 1, 1) ∧ 10 + 1 = 11 := by decide +kernel
theorem D_T_namesOf_11 : decode prog_6_method_11_code 11 = .ok (.if_icmp .ne 8, 3) ∧ ((11 : Nat) : Int) + 8 = ((19 : Nat) : Int) ∧ 11 + 3 = 14 := by decide +kernel
theorem D_T_namesOf_19 : decode prog_6_method_11_code 19 = .ok (.ldc 89, 2) ∧ 19 + 2 = 21 := by decide +kernel
theorem D_T_namesOf_21 : decode prog_6_method_11_code 21 = .ok (.areturn, 1) := by decide +kernel
theorem D_T_namesOf_14 : decode prog_6_method_11_code 14 = .ok (.ldc 87, 2) ∧ 14 + 2 = 16 := by decide +kernel
theorem D_T_namesOf_16 : decode prog_6_method_11_code 16 = .ok (.goto 5, 3) ∧ ((16 : Nat) : Int) + 5 = ((21 : Nat) : Int) := by decide +kernel
theorem D_T_namesOf_4 : decode prog_6_method_11_code 4 = .ok (.ldc 85, 2) ∧ 4 + 2 = 6 := by decide +kernel
theorem D_T_namesOf_6 : decode prog_6_method_11_code 6 = .ok (.goto 15, 3) ∧ ((6 : Nat) : Int) + 15 = ((21 : Nat) : Int) := by decide +kernel
def f_T_namesOf (a1 : Int32) : Option (Nat) := if a1 = 0 then some 3 else if a1 = 1 then some 4 else some 5
theorem c_T_namesOf (l : Launch) (E : En) (a1 : Int32) {mem : Mm} {r : Nat} (h : f_T_namesOf a1 = some r) : CtR l E 0 y_T_namesOf prog_6_method_11_code 1 (some (.object "java/lang/String")) [.int a1] SH mem r := by
  refine mk_CtR ⟨by decide, (Nat.le_of_ble_eq_true rfl)⟩ (fun X S hl hR => ?_)
  have S : Std X E prog_6_method_11_code R3 1 0 := S
  show J X E 1 0 [(0, .int a1)] [] SH mem
  unfold f_T_namesOf at h
  refine j_iload_n S D_T_namesOf_0 0 rfl rfl ?_
  refine j_if_ne S D_T_namesOf_1 (fun c_1 => ?_) (fun c_1 => ?_)
  · have h := ifF c_1 h
    refine j_iload_n S D_T_namesOf_9 0 rfl rfl ?_
    refine j_iconst S D_T_namesOf_10 ci_1 ?_
    refine j_icmp_ne S D_T_namesOf_11 (fun c_11 => ?_) (fun c_11 => ?_)
    · have h := ifF c_11 h
      refine j_ldcS S D_T_namesOf_19 (i := 5) S.2.2.2.2.2.2.1.2.1.2.2.2.2.2 ?_
      exact rtR hR h _ _ D_T_namesOf_21
    · have h := ifT c_11 h
      refine j_ldcS S D_T_namesOf_14 (i := 4) S.2.2.2.2.2.2.1.2.1.2.2.2.2.1 ?_
      refine j_goto S D_T_namesOf_16 ?_
      exact rtR hR h _ _ D_T_namesOf_21
  · have h := ifT c_1 h
    refine j_ldcS S D_T_namesOf_4 (i := 3) S.2.2.2.2.2.2.1.2.1.2.2.2.1 ?_
    refine j_goto S D_T_namesOf_6 ?_
    exact rtR hR h _ _ D_T_namesOf_21
theorem hstr_T_namesOf {a : Int32} {r : Nat} (h : f_T_namesOf a = some r) : r < 6 := by
  unfold f_T_namesOf at h
  by_cases h1 : a = 0
  · rw [if_pos h1] at h; cases h; decide
  · rw [if_neg h1] at h
    by_cases h2 : a = 1
    · rw [if_pos h2] at h; cases h; decide
    · rw [if_neg h2] at h; cases h; decide

def y_T_wordIs : MethodName := ⟨"SandPicture$Tape", "wordIs", "(Ljava/lang/String;)Z"⟩
theorem D_T_wordIs_0 : decode prog_6_method_12_code 0 = .ok (.aload_n 0, 1) ∧ 0 + 1 = 1 := by decide +kernel
theorem D_T_wordIs_1 : decode prog_6_method_12_code 1 = .ok (.getfield 22, 3) ∧ 1 + 3 = 4 := by decide +kernel
theorem D_T_wordIs_4 : decode prog_6_method_12_code 4 = .ok (.aload_n 0, 1) ∧ 4 + 1 = 5 := by decide +kernel
theorem D_T_wordIs_5 : decode prog_6_method_12_code 5 = .ok (.getfield 19, 3) ∧ 5 + 3 = 8 := by decide +kernel
theorem D_T_wordIs_8 : decode prog_6_method_12_code 8 = .ok (.isub, 1) ∧ 8 + 1 = 9 := by decide +kernel
theorem D_T_wordIs_9 : decode prog_6_method_12_code 9 = .ok (.aload_n 1, 1) ∧ 9 + 1 = 10 := by decide +kernel
theorem D_T_wordIs_10 : decode prog_6_method_12_code 10 = .ok (.invokevirtual 91, 3) ∧ 10 + 3 = 13 := by decide +kernel
theorem D_T_wordIs_13 : decode prog_6_method_12_code 13 = .ok (.if_icmp .eq 5, 3) ∧ ((13 : Nat) : Int) + 5 = ((18 : Nat) : Int) ∧ 13 + 3 = 16 := by decide +kernel
theorem D_T_wordIs_18 : decode prog_6_method_12_code 18 = .ok (.iconst 0, 1) ∧ 18 + 1 = 19 := by decide +kernel
theorem D_T_wordIs_19 : decode prog_6_method_12_code 19 = .ok (.istore_n 2, 1) ∧ 19 + 1 = 20 := by decide +kernel
theorem D_T_wordIs_20 : decode prog_6_method_12_code 20 = .ok (.iload_n 2, 1) ∧ 20 + 1 = 21 := by decide +kernel
theorem D_T_wordIs_21 : decode prog_6_method_12_code 21 = .ok (.aload_n 1, 1) ∧ 21 + 1 = 22 := by decide +kernel
theorem D_T_wordIs_22 : decode prog_6_method_12_code 22 = .ok (.invokevirtual 91, 3) ∧ 22 + 3 = 25 := by decide +kernel
theorem D_T_wordIs_25 : decode prog_6_method_12_code 25 = .ok (.if_icmp .ge 30, 3) ∧ ((25 : Nat) : Int) + 30 = ((55 : Nat) : Int) ∧ 25 + 3 = 28 := by decide +kernel
theorem D_T_wordIs_55 : decode prog_6_method_12_code 55 = .ok (.iconst 1, 1) ∧ 55 + 1 = 56 := by decide +kernel
theorem D_T_wordIs_56 : decode prog_6_method_12_code 56 = .ok (.ireturn, 1) := by decide +kernel
theorem D_T_wordIs_28 : decode prog_6_method_12_code 28 = .ok (.aload_n 0, 1) ∧ 28 + 1 = 29 := by decide +kernel
theorem D_T_wordIs_29 : decode prog_6_method_12_code 29 = .ok (.getfield 15, 3) ∧ 29 + 3 = 32 := by decide +kernel
theorem D_T_wordIs_32 : decode prog_6_method_12_code 32 = .ok (.aload_n 0, 1) ∧ 32 + 1 = 33 := by decide +kernel
theorem D_T_wordIs_33 : decode prog_6_method_12_code 33 = .ok (.getfield 19, 3) ∧ 33 + 3 = 36 := by decide +kernel
theorem D_T_wordIs_36 : decode prog_6_method_12_code 36 = .ok (.iload_n 2, 1) ∧ 36 + 1 = 37 := by decide +kernel
theorem D_T_wordIs_37 : decode prog_6_method_12_code 37 = .ok (.iadd, 1) ∧ 37 + 1 = 38 := by decide +kernel
theorem D_T_wordIs_38 : decode prog_6_method_12_code 38 = .ok (.iaload, 1) ∧ 38 + 1 = 39 := by decide +kernel
theorem D_T_wordIs_39 : decode prog_6_method_12_code 39 = .ok (.aload_n 1, 1) ∧ 39 + 1 = 40 := by decide +kernel
theorem D_T_wordIs_40 : decode prog_6_method_12_code 40 = .ok (.iload_n 2, 1) ∧ 40 + 1 = 41 := by decide +kernel
theorem D_T_wordIs_41 : decode prog_6_method_12_code 41 = .ok (.invokevirtual 96, 3) ∧ 41 + 3 = 44 := by decide +kernel
theorem D_T_wordIs_44 : decode prog_6_method_12_code 44 = .ok (.if_icmp .eq 5, 3) ∧ ((44 : Nat) : Int) + 5 = ((49 : Nat) : Int) ∧ 44 + 3 = 47 := by decide +kernel
theorem D_T_wordIs_49 : decode prog_6_method_12_code 49 = .ok (.iinc 2 1, 3) ∧ 49 + 3 = 52 := by decide +kernel
theorem D_T_wordIs_52 : decode prog_6_method_12_code 52 = .ok (.goto (-32), 3) ∧ ((52 : Nat) : Int) + (-32) = ((20 : Nat) : Int) := by decide +kernel
theorem D_T_wordIs_47 : decode prog_6_method_12_code 47 = .ok (.iconst 0, 1) ∧ 47 + 1 = 48 := by decide +kernel
theorem D_T_wordIs_48 : decode prog_6_method_12_code 48 = .ok (.ireturn, 1) := by decide +kernel
theorem D_T_wordIs_16 : decode prog_6_method_12_code 16 = .ok (.iconst 0, 1) ∧ 16 + 1 = 17 := by decide +kernel
theorem D_T_wordIs_17 : decode prog_6_method_12_code 17 = .ok (.ireturn, 1) := by decide +kernel
def f_T_wordIs_L20 (o1 : Nat) : Nat → Int32 → Mm → Option Int32
  | 0, _, _ => none
  | n + 1, b2, mem => bp (f_JS_length o1 mem) fun r_22 => if r_22 ≤ b2 then some 1 else if inb ((mem 2 2) + b2) 96 = true then bp (f_JS_charAt o1 b2 mem) fun r_41 => if mem 3 (ix ((mem 2 2) + b2)) = r_41 then f_T_wordIs_L20 o1 n (b2 + 1) mem else some 0 else none
def f_T_wordIs (N : Nat) (o1 : Nat) (mem : Mm) : Option (Int32) := bp (f_JS_length o1 mem) fun r_10 => if (mem 2 3) - (mem 2 2) = r_10 then f_T_wordIs_L20 o1 N 0 mem else some 0
theorem L_T_wordIs_20 {X : Cx} {E : En} (S : Std X E prog_6_method_12_code R3 3 4) (o1 : Nat) (ho1 : o1 < 6) {r : Int32} {mem : Mm} (hR : isb r = true → RetI X E prog_6_method_12_code 3 SH r mem) : ∀ (n : Nat) (b2 : Int32), f_T_wordIs_L20 o1 n b2 mem = some r → J X E 3 20 [(0, .ref (eb E + 2)), (1, .ref (ek E o1)), (2, .int b2)] [] SH mem := by
  intro n
  induction n with
  | zero =>
    intro b2 h; cases h
  | succ n ih =>
    intro b2 h
    rw [f_T_wordIs_L20] at h
    refine j_iload_n S D_T_wordIs_20 2 rfl rfl ?_
    refine j_aload_n S D_T_wordIs_21 1 rfl rfl ?_
    obtain ⟨r_22, e_22, h⟩ := bpE h
    refine j_callTI (As := []) S D_T_wordIs_22 mv_R3_91 (c_JS_length (cxL X) E o1 ho1 e_22) (by decide) ho1 rfl rfl rfl (Nat.le_of_ble_eq_true rfl) ?_
    refine j_icmp_ge S D_T_wordIs_25 (fun c_25 => ?_) (fun c_25 => ?_)
    · have h := ifT c_25 h
      refine j_iconst S D_T_wordIs_55 ci_1 ?_
      exact rtIZ hR h isb1 _ _ D_T_wordIs_56
    · have h := ifF c_25 h
      refine j_aload_n S D_T_wordIs_28 0 rfl rfl ?_
      refine j_getR S D_T_wordIs_29 fl_R3_15 sh_Tape rfl ?_
      refine j_aload_n S D_T_wordIs_32 0 rfl rfl ?_
      refine j_getI S D_T_wordIs_33 fl_R3_19 sh_Tape rfl ?_
      refine j_iload_n S D_T_wordIs_36 2 rfl rfl ?_
      refine j_iadd S D_T_wordIs_37 ?_
      obtain ⟨g_38, h⟩ := gdE h
      refine j_iald S D_T_wordIs_38 sh_3 g_38 ?_
      refine j_aload_n S D_T_wordIs_39 1 rfl rfl ?_
      refine j_iload_n S D_T_wordIs_40 2 rfl rfl ?_
      obtain ⟨r_41, e_41, h⟩ := bpE h
      refine j_callTI (As := [.int b2]) S D_T_wordIs_41 mv_R3_96 (c_JS_charAt (cxL X) E o1 ho1 b2 e_41) (by decide) ho1 rfl rfl rfl (Nat.le_of_ble_eq_true rfl) ?_
      refine j_icmp_eq S D_T_wordIs_44 (fun c_44 => ?_) (fun c_44 => ?_)
      · have h := ifT c_44 h
        refine j_iinc S D_T_wordIs_49 2 rfl (congrArg (fun z => b2 + z) ci_1) (lv := [(2, .int (b2 + 1)), (0, .ref (eb E + 2)), (1, .ref (ek E o1))]) rfl (Nat.le_of_ble_eq_true rfl) ?_
        refine j_goto S D_T_wordIs_52 ?_
        refine j_locals [1, 2, 0] rfl (ih (b2 + 1) h)
      · have h := ifF c_44 h
        refine j_iconst S D_T_wordIs_47 ci_0 ?_
        exact rtIZ hR h isb0 _ _ D_T_wordIs_48
theorem c_T_wordIs (l : Launch) (E : En) (N : Nat) (o1 : Nat) (ho1 : o1 < 6) {mem : Mm} {r : Int32} (h : f_T_wordIs N o1 mem = some r) : CtI l E 4 y_T_wordIs prog_6_method_12_code 3 (some .boolean) [.ref (eb E + 2), .ref (ek E o1)] SH mem r mem := by
  refine mk_CtZ ⟨by decide, (Nat.le_of_ble_eq_true rfl)⟩ (fun X S hl hR => ?_)
  have S : Std X E prog_6_method_12_code R3 3 4 := S
  show J X E 3 0 [(0, .ref (eb E + 2)), (1, .ref (ek E o1))] [] SH mem
  unfold f_T_wordIs at h
  refine j_aload_n S D_T_wordIs_0 0 rfl rfl ?_
  refine j_getI S D_T_wordIs_1 fl_R3_22 sh_Tape rfl ?_
  refine j_aload_n S D_T_wordIs_4 0 rfl rfl ?_
  refine j_getI S D_T_wordIs_5 fl_R3_19 sh_Tape rfl ?_
  refine j_isub S D_T_wordIs_8 ?_
  refine j_aload_n S D_T_wordIs_9 1 rfl rfl ?_
  obtain ⟨r_10, e_10, h⟩ := bpE h
  refine j_callTI (As := []) S D_T_wordIs_10 mv_R3_91 (c_JS_length (cxL X) E o1 ho1 e_10) (by decide) ho1 rfl rfl rfl (Nat.le_of_ble_eq_true rfl) ?_
  refine j_icmp_eq S D_T_wordIs_13 (fun c_13 => ?_) (fun c_13 => ?_)
  · have h := ifT c_13 h
    refine j_iconst S D_T_wordIs_18 ci_0 ?_
    refine j_istore_n S D_T_wordIs_19 (lv := [(2, .int 0), (0, .ref (eb E + 2)), (1, .ref (ek E o1))]) rfl ⟨rfl, (Nat.le_of_ble_eq_true rfl)⟩ ?_
    refine j_locals [1, 2, 0] rfl ?_
    exact L_T_wordIs_20 S o1 ho1 hR N 0 h
  · have h := ifF c_13 h
    refine j_iconst S D_T_wordIs_16 ci_0 ?_
    exact rtIZ hR h isb0 _ _ D_T_wordIs_17

def y_T_readKey : MethodName := ⟨"SandPicture$Tape", "readKey", "(LSandPicture$Text;)V"⟩
theorem D_T_readKey_0 : decode prog_6_method_9_code 0 = .ok (.iconst 0, 1) ∧ 0 + 1 = 1 := by decide +kernel
theorem D_T_readKey_1 : decode prog_6_method_9_code 1 = .ok (.istore_n 2, 1) ∧ 1 + 1 = 2 := by decide +kernel
theorem D_T_readKey_2 : decode prog_6_method_9_code 2 = .ok (.iload_n 2, 1) ∧ 2 + 1 = 3 := by decide +kernel
theorem D_T_readKey_3 : decode prog_6_method_9_code 3 = .ok (.iconst 3, 1) ∧ 3 + 1 = 4 := by decide +kernel
theorem D_T_readKey_4 : decode prog_6_method_9_code 4 = .ok (.if_icmp .ge 30, 3) ∧ ((4 : Nat) : Int) + 30 = ((34 : Nat) : Int) ∧ 4 + 3 = 7 := by decide +kernel
theorem D_T_readKey_34 : decode prog_6_method_9_code 34 = .ok (.aload_n 0, 1) ∧ 34 + 1 = 35 := by decide +kernel
theorem D_T_readKey_35 : decode prog_6_method_9_code 35 = .ok (.invokevirtual 52, 3) ∧ 35 + 3 = 38 := by decide +kernel
theorem D_T_readKey_38 : decode prog_6_method_9_code 38 = .ok (.return_, 1) := by decide +kernel
theorem D_T_readKey_7 : decode prog_6_method_9_code 7 = .ok (.aload_n 0, 1) ∧ 7 + 1 = 8 := by decide +kernel
theorem D_T_readKey_8 : decode prog_6_method_9_code 8 = .ok (.iload_n 2, 1) ∧ 8 + 1 = 9 := by decide +kernel
theorem D_T_readKey_9 : decode prog_6_method_9_code 9 = .ok (.invokestatic 68, 3) ∧ 9 + 3 = 12 := by decide +kernel
theorem D_T_readKey_12 : decode prog_6_method_9_code 12 = .ok (.invokevirtual 72, 3) ∧ 12 + 3 = 15 := by decide +kernel
theorem D_T_readKey_15 : decode prog_6_method_9_code 15 = .ok (.ifCond .eq 13, 3) ∧ ((15 : Nat) : Int) + 13 = ((28 : Nat) : Int) ∧ 15 + 3 = 18 := by decide +kernel
theorem D_T_readKey_28 : decode prog_6_method_9_code 28 = .ok (.iinc 2 1, 3) ∧ 28 + 3 = 31 := by decide +kernel
theorem D_T_readKey_31 : decode prog_6_method_9_code 31 = .ok (.goto (-29), 3) ∧ ((31 : Nat) : Int) + (-29) = ((2 : Nat) : Int) := by decide +kernel
theorem D_T_readKey_18 : decode prog_6_method_9_code 18 = .ok (.aload_n 1, 1) ∧ 18 + 1 = 19 := by decide +kernel
theorem D_T_readKey_19 : decode prog_6_method_9_code 19 = .ok (.iload_n 2, 1) ∧ 19 + 1 = 20 := by decide +kernel
theorem D_T_readKey_20 : decode prog_6_method_9_code 20 = .ok (.putfield 76, 3) ∧ 20 + 3 = 23 := by decide +kernel
theorem D_T_readKey_23 : decode prog_6_method_9_code 23 = .ok (.aload_n 0, 1) ∧ 23 + 1 = 24 := by decide +kernel
theorem D_T_readKey_24 : decode prog_6_method_9_code 24 = .ok (.invokevirtual 37, 3) ∧ 24 + 3 = 27 := by decide +kernel
theorem D_T_readKey_27 : decode prog_6_method_9_code 27 = .ok (.return_, 1) := by decide +kernel
def f_T_readKey_L2 (N : Nat) (o1 : Nat) : Nat → Int32 → Mm → Option Mm
  | 0, _, _ => none
  | n + 1, b2, mem => if 3 ≤ b2 then bp (f_T_fail mem) fun m_35 => some m_35 else bp (f_T_keyWord b2) fun r_9 => bp (f_T_wordIs N r_9 mem) fun r_12 => if r_12 = 0 then f_T_readKey_L2 N o1 n (b2 + 1) mem else lt (mst mem o1 0 b2) fun m_20 => bp (f_T_step N m_20) fun m_24 => some m_24
def f_T_readKey (N : Nat) (o1 : Nat) (mem : Mm) : Option (Mm) := f_T_readKey_L2 N o1 N 0 mem
theorem L_T_readKey_2 {X : Cx} {E : En} (S : Std X E prog_6_method_9_code R3 3 5) (N : Nat) (o1 : Nat) (ho1 : isTxt o1) {m2 : Mm} (hR : RetV X E prog_6_method_9_code 3 SH m2) : ∀ (n : Nat) (b2 : Int32) (mem : Mm), f_T_readKey_L2 N o1 n b2 mem = some m2 → J X E 3 2 [(0, .ref (eb E + 2)), (1, .ref (eb E + o1)), (2, .int b2)] [] SH mem := by
  intro n
  induction n with
  | zero =>
    intro b2 mem h; cases h
  | succ n ih =>
    intro b2 mem h
    rw [f_T_readKey_L2] at h
    refine j_iload_n S D_T_readKey_2 2 rfl rfl ?_
    refine j_iconst S D_T_readKey_3 ci_3 ?_
    refine j_icmp_ge S D_T_readKey_4 (fun c_4 => ?_) (fun c_4 => ?_)
    · have h := ifT c_4 h
      refine j_aload_n S D_T_readKey_34 0 rfl rfl ?_
      obtain ⟨m_35, e_35, h⟩ := bpE h
      refine j_callVV (As := []) S D_T_readKey_35 mv_R3_52 (c_T_fail (cxL X) E e_35) (by decide) sh_Tape rfl rfl rfl rfl (Nat.le_of_ble_eq_true rfl) ?_
      exact rtV hR h _ _ D_T_readKey_38
    · have h := ifF c_4 h
      refine j_aload_n S D_T_readKey_7 0 rfl rfl ?_
      refine j_iload_n S D_T_readKey_8 2 rfl rfl ?_
      obtain ⟨r_9, e_9, h⟩ := bpE h
      refine j_callSR (As := [.int b2]) S D_T_readKey_9 ms_R3_68 (c_T_keyWord (cxL X) E b2 (mem := mem) e_9) (by decide) rfl rfl (Nat.le_of_ble_eq_true rfl) ?_
      obtain ⟨r_12, e_12, h⟩ := bpE h
      refine j_callVI (As := [.ref (ek E r_9)]) S D_T_readKey_12 mv_R3_72 (c_T_wordIs (cxL X) E N r_9 (hstr_T_keyWord e_9) e_12) (by decide) sh_Tape rfl rfl rfl rfl (Nat.le_of_ble_eq_true rfl) ?_
      refine j_if_eq S D_T_readKey_15 (fun c_15 => ?_) (fun c_15 => ?_)
      · have h := ifT c_15 h
        refine j_iinc S D_T_readKey_28 2 rfl (congrArg (fun z => b2 + z) ci_1) (lv := [(2, .int (b2 + 1)), (0, .ref (eb E + 2)), (1, .ref (eb E + o1))]) rfl (Nat.le_of_ble_eq_true rfl) ?_
        refine j_goto S D_T_readKey_31 ?_
        refine j_locals [1, 2, 0] rfl (ih (b2 + 1) mem h)
      · have h := ifF c_15 h
        refine j_aload_n S D_T_readKey_18 1 rfl rfl ?_
        refine j_iload_n S D_T_readKey_19 2 rfl rfl ?_
        obtain ⟨m_20, hm_20, h⟩ := ltE h
        refine j_putI S D_T_readKey_20 fp_R3_76 (sh_txt ho1) rfl ?_
        refine j_mem hm_20 ?_
        refine j_aload_n S D_T_readKey_23 0 rfl rfl ?_
        obtain ⟨m_24, e_24, h⟩ := bpE h
        refine j_callVV (As := []) S D_T_readKey_24 mv_R3_37 (c_T_step (cxL X) E N e_24) (by decide) sh_Tape rfl rfl rfl rfl (Nat.le_of_ble_eq_true rfl) ?_
        exact rtV hR h _ _ D_T_readKey_27
theorem c_T_readKey (l : Launch) (E : En) (N : Nat) (o1 : Nat) (ho1 : isTxt o1) {mem : Mm} {m2 : Mm} (h : f_T_readKey N o1 mem = some m2) : CtV l E 5 y_T_readKey prog_6_method_9_code 3 [.ref (eb E + 2), .ref (eb E + o1)] SH mem m2 := by
  refine mk_CtV ⟨by decide, (Nat.le_of_ble_eq_true rfl)⟩ (fun X S hl hR => ?_)
  have S : Std X E prog_6_method_9_code R3 3 5 := S
  show J X E 3 0 [(0, .ref (eb E + 2)), (1, .ref (eb E + o1))] [] SH mem
  unfold f_T_readKey at h
  refine j_iconst S D_T_readKey_0 ci_0 ?_
  refine j_istore_n S D_T_readKey_1 (lv := [(2, .int 0), (0, .ref (eb E + 2)), (1, .ref (eb E + o1))]) rfl ⟨rfl, (Nat.le_of_ble_eq_true rfl)⟩ ?_
  refine j_locals [1, 2, 0] rfl ?_
  exact L_T_readKey_2 S N o1 ho1 hR N 0 mem h

def y_T_readName : MethodName := ⟨"SandPicture$Tape", "readName", "(LSandPicture$Text;)V"⟩
theorem D_T_readName_0 : decode prog_6_method_17_code 0 = .ok (.aload_n 1, 1) ∧ 0 + 1 = 1 := by decide +kernel
theorem D_T_readName_1 : decode prog_6_method_17_code 1 = .ok (.getfield 76, 3) ∧ 1 + 3 = 4 := by decide +kernel
theorem D_T_readName_4 : decode prog_6_method_17_code 4 = .ok (.invokestatic 121, 3) ∧ 4 + 3 = 7 := by decide +kernel
theorem D_T_readName_7 : decode prog_6_method_17_code 7 = .ok (.aload_n 0, 1) ∧ 7 + 1 = 8 := by decide +kernel
theorem D_T_readName_8 : decode prog_6_method_17_code 8 = .ok (.invokevirtual 48, 3) ∧ 8 + 3 = 11 := by decide +kernel
theorem D_T_readName_11 : decode prog_6_method_17_code 11 = .ok (.i2c, 1) ∧ 11 + 1 = 12 := by decide +kernel
theorem D_T_readName_12 : decode prog_6_method_17_code 12 = .ok (.invokevirtual 124, 3) ∧ 12 + 3 = 15 := by decide +kernel
theorem D_T_readName_15 : decode prog_6_method_17_code 15 = .ok (.istore_n 2, 1) ∧ 15 + 1 = 16 := by decide +kernel
theorem D_T_readName_16 : decode prog_6_method_17_code 16 = .ok (.aload_n 0, 1) ∧ 16 + 1 = 17 := by decide +kernel
theorem D_T_readName_17 : decode prog_6_method_17_code 17 = .ok (.getfield 25, 3) ∧ 17 + 3 = 20 := by decide +kernel
theorem D_T_readName_20 : decode prog_6_method_17_code 20 = .ok (.ifCond .ne 20, 3) ∧ ((20 : Nat) : Int) + 20 = ((40 : Nat) : Int) ∧ 20 + 3 = 23 := by decide +kernel
theorem D_T_readName_40 : decode prog_6_method_17_code 40 = .ok (.aload_n 0, 1) ∧ 40 + 1 = 41 := by decide +kernel
theorem D_T_readName_41 : decode prog_6_method_17_code 41 = .ok (.invokevirtual 52, 3) ∧ 41 + 3 = 44 := by decide +kernel
theorem D_T_readName_44 : decode prog_6_method_17_code 44 = .ok (.return_, 1) := by decide +kernel
theorem D_T_readName_23 : decode prog_6_method_17_code 23 = .ok (.aload_n 0, 1) ∧ 23 + 1 = 24 := by decide +kernel
theorem D_T_readName_24 : decode prog_6_method_17_code 24 = .ok (.getfield 22, 3) ∧ 24 + 3 = 27 := by decide +kernel
theorem D_T_readName_27 : decode prog_6_method_17_code 27 = .ok (.aload_n 0, 1) ∧ 27 + 1 = 28 := by decide +kernel
theorem D_T_readName_28 : decode prog_6_method_17_code 28 = .ok (.getfield 19, 3) ∧ 28 + 3 = 31 := by decide +kernel
theorem D_T_readName_31 : decode prog_6_method_17_code 31 = .ok (.isub, 1) ∧ 31 + 1 = 32 := by decide +kernel
theorem D_T_readName_32 : decode prog_6_method_17_code 32 = .ok (.iconst 1, 1) ∧ 32 + 1 = 33 := by decide +kernel
theorem D_T_readName_33 : decode prog_6_method_17_code 33 = .ok (.if_icmp .ne 7, 3) ∧ ((33 : Nat) : Int) + 7 = ((40 : Nat) : Int) ∧ 33 + 3 = 36 := by decide +kernel
theorem D_T_readName_36 : decode prog_6_method_17_code 36 = .ok (.iload_n 2, 1) ∧ 36 + 1 = 37 := by decide +kernel
theorem D_T_readName_37 : decode prog_6_method_17_code 37 = .ok (.ifCond .ge 8, 3) ∧ ((37 : Nat) : Int) + 8 = ((45 : Nat) : Int) ∧ 37 + 3 = 40 := by decide +kernel
theorem D_T_readName_45 : decode prog_6_method_17_code 45 = .ok (.aload_n 1, 1) ∧ 45 + 1 = 46 := by decide +kernel
theorem D_T_readName_46 : decode prog_6_method_17_code 46 = .ok (.iload_n 2, 1) ∧ 46 + 1 = 47 := by decide +kernel
theorem D_T_readName_47 : decode prog_6_method_17_code 47 = .ok (.invokevirtual 128, 3) ∧ 47 + 3 = 50 := by decide +kernel
theorem D_T_readName_50 : decode prog_6_method_17_code 50 = .ok (.aload_n 0, 1) ∧ 50 + 1 = 51 := by decide +kernel
theorem D_T_readName_51 : decode prog_6_method_17_code 51 = .ok (.invokevirtual 37, 3) ∧ 51 + 3 = 54 := by decide +kernel
theorem D_T_readName_54 : decode prog_6_method_17_code 54 = .ok (.return_, 1) := by decide +kernel
def f_T_readName (N : Nat) (o1 : Nat) (mem : Mm) : Option (Mm) := bp (f_T_namesOf (mem o1 0)) fun r_4 => bp (f_T_here mem) fun r_8 => bp (f_JS_indexOf N r_4 ((r_8.toUInt32 % 65536).toInt32) mem) fun r_12 => if mem 2 4 = 0 then if (mem 2 3) - (mem 2 2) = 1 then if 0 ≤ r_12 then bp (f_X_addName o1 r_12 mem) fun m_47 => bp (f_T_step N m_47) fun m_51 => some m_51 else bp (f_T_fail mem) fun m_41 => some m_41 else bp (f_T_fail mem) fun m_41 => some m_41 else bp (f_T_fail mem) fun m_41 => some m_41
theorem c_T_readName (l : Launch) (E : En) (N : Nat) (o1 : Nat) (ho1 : isTxt o1) {mem : Mm} {m2 : Mm} (h : f_T_readName N o1 mem = some m2) : CtV l E 4 y_T_readName prog_6_method_17_code 3 [.ref (eb E + 2), .ref (eb E + o1)] SH mem m2 := by
  refine mk_CtV ⟨by decide, (Nat.le_of_ble_eq_true rfl)⟩ (fun X S hl hR => ?_)
  have S : Std X E prog_6_method_17_code R3 3 4 := S
  show J X E 3 0 [(0, .ref (eb E + 2)), (1, .ref (eb E + o1))] [] SH mem
  unfold f_T_readName at h
  refine j_aload_n S D_T_readName_0 1 rfl rfl ?_
  refine j_getI S D_T_readName_1 fl_R3_76 (sh_txt ho1) rfl ?_
  obtain ⟨r_4, e_4, h⟩ := bpE h
  refine j_callSR (As := [.int (mem o1 0)]) S D_T_readName_4 ms_R3_121 (c_T_namesOf (cxL X) E (mem o1 0) (mem := mem) e_4) (by decide) rfl rfl (Nat.le_of_ble_eq_true rfl) ?_
  refine j_aload_n S D_T_readName_7 0 rfl rfl ?_
  obtain ⟨r_8, e_8, h⟩ := bpE h
  refine j_callVI (As := []) S D_T_readName_8 mv_R3_48 (c_T_here (cxL X) E e_8) (by decide) sh_Tape rfl rfl rfl rfl (Nat.le_of_ble_eq_true rfl) ?_
  refine j_i2c S D_T_readName_11 ?_
  obtain ⟨r_12, e_12, h⟩ := bpE h
  refine j_callTI (As := [.int ((r_8.toUInt32 % 65536).toInt32)]) S D_T_readName_12 mv_R3_124 (c_JS_indexOf (cxL X) E N r_4 (hstr_T_namesOf e_4) ((r_8.toUInt32 % 65536).toInt32) e_12) (by decide) (hstr_T_namesOf e_4) rfl rfl rfl (Nat.le_of_ble_eq_true rfl) ?_
  refine j_istore_n S D_T_readName_15 (lv := [(2, .int r_12), (0, .ref (eb E + 2)), (1, .ref (eb E + o1))]) rfl ⟨rfl, (Nat.le_of_ble_eq_true rfl)⟩ ?_
  refine j_aload_n S D_T_readName_16 1 rfl rfl ?_
  refine j_getI S D_T_readName_17 fl_R3_25 sh_Tape rfl ?_
  refine j_if_ne S D_T_readName_20 (fun c_20 => ?_) (fun c_20 => ?_)
  · have h := ifF c_20 h
    refine j_aload_n S D_T_readName_40 1 rfl rfl ?_
    obtain ⟨m_41, e_41, h⟩ := bpE h
    refine j_callVV (As := []) S D_T_readName_41 mv_R3_52 (c_T_fail (cxL X) E e_41) (by decide) sh_Tape rfl rfl rfl rfl (Nat.le_of_ble_eq_true rfl) ?_
    exact rtV hR h _ _ D_T_readName_44
  · have h := ifT c_20 h
    refine j_aload_n S D_T_readName_23 1 rfl rfl ?_
    refine j_getI S D_T_readName_24 fl_R3_22 sh_Tape rfl ?_
    refine j_aload_n S D_T_readName_27 1 rfl rfl ?_
    refine j_getI S D_T_readName_28 fl_R3_19 sh_Tape rfl ?_
    refine j_isub S D_T_readName_31 ?_
    refine j_iconst S D_T_readName_32 ci_1 ?_
    refine j_icmp_ne S D_T_readName_33 (fun c_33 => ?_) (fun c_33 => ?_)
    · have h := ifF c_33 h
      refine j_aload_n S D_T_readName_40 1 rfl rfl ?_
      obtain ⟨m_41, e_41, h⟩ := bpE h
      refine j_callVV (As := []) S D_T_readName_41 mv_R3_52 (c_T_fail (cxL X) E e_41) (by decide) sh_Tape rfl rfl rfl rfl (Nat.le_of_ble_eq_true rfl) ?_
      exact rtV hR h _ _ D_T_readName_44
    · have h := ifT c_33 h
      refine j_iload_n S D_T_readName_36 0 rfl rfl ?_
      refine j_if_ge S D_T_readName_37 (fun c_37 => ?_) (fun c_37 => ?_)
      · have h := ifT c_37 h
        refine j_aload_n S D_T_readName_45 2 rfl rfl ?_
        refine j_iload_n S D_T_readName_46 0 rfl rfl ?_
        obtain ⟨m_47, e_47, h⟩ := bpE h
        refine j_callVV (As := [.int r_12]) S D_T_readName_47 mv_R3_128 (c_X_addName (cxL X) E o1 ho1 r_12 e_47) (by decide) (sh_txt ho1) rfl rfl rfl rfl (Nat.le_of_ble_eq_true rfl) ?_
        refine j_aload_n S D_T_readName_50 1 rfl rfl ?_
        obtain ⟨m_51, e_51, h⟩ := bpE h
        refine j_callVV (As := []) S D_T_readName_51 mv_R3_37 (c_T_step (cxL X) E N e_51) (by decide) sh_Tape rfl rfl rfl rfl (Nat.le_of_ble_eq_true rfl) ?_
        exact rtV hR h _ _ D_T_readName_54
      · have h := ifF c_37 h
        refine j_aload_n S D_T_readName_40 1 rfl rfl ?_
        obtain ⟨m_41, e_41, h⟩ := bpE h
        refine j_callVV (As := []) S D_T_readName_41 mv_R3_52 (c_T_fail (cxL X) E e_41) (by decide) sh_Tape rfl rfl rfl rfl (Nat.le_of_ble_eq_true rfl) ?_
        exact rtV hR h _ _ D_T_readName_44
