def y_M_spills : MethodName := ⟨"SandPictureModel", "spills", "(II)I"⟩
theorem D_M_spills_0 : decode prog_9_method_15_code 0 = .ok (.aload_n 0, 1) ∧ 0 + 1 = 1 := by decide +kernel
theorem D_M_spills_1 : decode prog_9_method_15_code 1 = .ok (.iload_n 1, 1) ∧ 1 + 1 = 2 := by decide +kernel
theorem D_M_spills_2 : decode prog_9_method_15_code 2 = .ok (.iconst 0, 1) ∧ 2 + 1 = 3 := by decide +kernel
theorem D_M_spills_3 : decode prog_9_method_15_code 3 = .ok (.invokevirtual 93, 3) ∧ 3 + 3 = 6 := by decide +kernel
theorem D_M_spills_6 : decode prog_9_method_15_code 6 = .ok (.istore_n 3, 1) ∧ 6 + 1 = 7 := by decide +kernel
theorem D_M_spills_7 : decode prog_9_method_15_code 7 = .ok (.iload_n 3, 1) ∧ 7 + 1 = 8 := by decide +kernel
theorem D_M_spills_8 : decode prog_9_method_15_code 8 = .ok (.iconst 2, 1) ∧ 8 + 1 = 9 := by decide +kernel
theorem D_M_spills_19 : decode prog_9_method_15_code 19 = .ok (.iload_n 3, 1) ∧ 19 + 1 = 20 := by decide +kernel
theorem D_M_spills_20 : decode prog_9_method_15_code 20 = .ok (.iconst 4, 1) ∧ 20 + 1 = 21 := by decide +kernel
theorem D_M_spills_41 : decode prog_9_method_15_code 41 = .ok (.iconst 0, 1) ∧ 41 + 1 = 42 := by decide +kernel
theorem D_M_spills_24 : decode prog_9_method_15_code 24 = .ok (.iload_n 2, 1) ∧ 24 + 1 = 25 := by decide +kernel
theorem D_M_spills_25 : decode prog_9_method_15_code 25 = .ok (.bipush 10, 2) ∧ 25 + 2 = 27 := by decide +kernel
theorem D_M_spills_27 : decode prog_9_method_15_code 27 = .ok (.idiv, 1) ∧ 27 + 1 = 28 := by decide +kernel
theorem D_M_spills_28 : decode prog_9_method_15_code 28 = .ok (.iload_n 2, 1) ∧ 28 + 1 = 29 := by decide +kernel
theorem D_M_spills_36 : decode prog_9_method_15_code 36 = .ok (.iconst 0, 1) ∧ 36 + 1 = 37 := by decide +kernel
theorem D_M_spills_32 : decode prog_9_method_15_code 32 = .ok (.iconst 1, 1) ∧ 32 + 1 = 33 := by decide +kernel
theorem D_M_spills_33 : decode prog_9_method_15_code 33 = .ok (.goto 4, 3) ∧ ((33 : Nat) : Int) + 4 = ((37 : Nat) : Int) := by decide +kernel
theorem D_M_spills_29 : decode prog_9_method_15_code 29 = .ok (.ifCond .le 7, 3) ∧ ((29 : Nat) : Int) + 7 = ((36 : Nat) : Int) ∧ 29 + 3 = 32 := by decide +kernel
theorem D_M_spills_37 : decode prog_9_method_15_code 37 = .ok (.iadd, 1) ∧ 37 + 1 = 38 := by decide +kernel
theorem D_M_spills_38 : decode prog_9_method_15_code 38 = .ok (.goto 4, 3) ∧ ((38 : Nat) : Int) + 4 = ((42 : Nat) : Int) := by decide +kernel
theorem D_M_spills_21 : decode prog_9_method_15_code 21 = .ok (.if_icmp .ne 20, 3) ∧ ((21 : Nat) : Int) + 20 = ((41 : Nat) : Int) ∧ 21 + 3 = 24 := by decide +kernel
theorem D_M_spills_12 : decode prog_9_method_15_code 12 = .ok (.iload_n 2, 1) ∧ 12 + 1 = 13 := by decide +kernel
theorem D_M_spills_13 : decode prog_9_method_15_code 13 = .ok (.bipush 10, 2) ∧ 13 + 2 = 15 := by decide +kernel
theorem D_M_spills_15 : decode prog_9_method_15_code 15 = .ok (.idiv, 1) ∧ 15 + 1 = 16 := by decide +kernel
theorem D_M_spills_16 : decode prog_9_method_15_code 16 = .ok (.goto 26, 3) ∧ ((16 : Nat) : Int) + 26 = ((42 : Nat) : Int) := by decide +kernel
theorem D_M_spills_9 : decode prog_9_method_15_code 9 = .ok (.if_icmp .ne 10, 3) ∧ ((9 : Nat) : Int) + 10 = ((19 : Nat) : Int) ∧ 9 + 3 = 12 := by decide +kernel
theorem D_M_spills_42 : decode prog_9_method_15_code 42 = .ok (.ireturn, 1) := by decide +kernel
def f_M_spills (a1 : Int32) (a2 : Int32) (mem : Mm) : Option (Int32) := bp (f_M_of a1 0 mem) fun r_3 => some (if r_3 = 2 then a2 / 10 else if r_3 = 4 then (a2 / 10) + (if a2 ≤ 0 then (0 : Int32) else 1) else 0)
theorem c_M_spills (l : Launch) (E : En) (a1 : Int32) (a2 : Int32) {mem : Mm} {r : Int32} (h : f_M_spills a1 a2 mem = some r) : CtI l E 1 y_M_spills prog_9_method_15_code 4 (some .int) [.ref (eb E + 91), .int a1, .int a2] SH mem r mem := by
  refine mk_CtI ⟨by decide, (Nat.le_of_ble_eq_true rfl)⟩ (fun X S hl hR => ?_)
  have S : Std X E prog_9_method_15_code R6 4 1 := S
  show J X E 4 0 [(0, .ref (eb E + 91)), (1, .int a1), (2, .int a2)] [] SH mem
  unfold f_M_spills at h
  refine j_aload_n S D_M_spills_0 0 rfl rfl ?_
  refine j_iload_n S D_M_spills_1 1 rfl rfl ?_
  refine j_iconst S D_M_spills_2 ci_0 ?_
  obtain ⟨r_3, e_3, h⟩ := bpE h
  refine j_callVI (As := [.int a1, .int 0]) S D_M_spills_3 mv_R6_93 (c_M_of (cxL X) E a1 0 e_3) (by decide) sh_Mod rfl rfl rfl rfl (Nat.le_of_ble_eq_true rfl) ?_
  refine j_istore_n S D_M_spills_6 (lv := [(3, .int r_3), (0, .ref (eb E + 91)), (1, .int a1), (2, .int a2)]) rfl ⟨rfl, (Nat.le_of_ble_eq_true rfl)⟩ ?_
  refine j_iload_n S D_M_spills_7 0 rfl rfl ?_
  refine j_iconst S D_M_spills_8 ci_2 ?_
  refine j_dia (P := J X E 4 42 [(3, .int r_3), (0, .ref (eb E + 91)), (1, .int a1), (2, .int a2)] [.int (if r_3 = 2 then a2 / 10 else if r_3 = 4 then (a2 / 10) + (if a2 ≤ 0 then (0 : Int32) else 1) else 0)] SH mem) (fun hj => ?_) ?_
  · refine j_icmp_ne S D_M_spills_9 (fun c_9 => ?_) (fun c_9 => ?_)
    · refine j_iload_n S D_M_spills_19 0 rfl rfl ?_
      refine j_iconst S D_M_spills_20 ci_4 ?_
      refine j_dia (P := J X E 4 42 [(3, .int r_3), (0, .ref (eb E + 91)), (1, .int a1), (2, .int a2)] [.int (if r_3 = 4 then (a2 / 10) + (if a2 ≤ 0 then (0 : Int32) else 1) else 0)] SH mem) (fun hj => ?_) ?_
      · refine j_icmp_ne S D_M_spills_21 (fun c_21 => ?_) (fun c_21 => ?_)
        · refine j_iconst S D_M_spills_41 ci_0 ?_
          exact j_jnF hj c_21
        · refine j_iload_n S D_M_spills_24 3 rfl rfl ?_
          refine j_bipush S D_M_spills_25 cb_10 ?_
          refine j_idiv S D_M_spills_27 nz_10 ?_
          refine j_iload_n S D_M_spills_28 3 rfl rfl ?_
          refine j_dia (P := J X E 4 37 [(3, .int r_3), (0, .ref (eb E + 91)), (1, .int a1), (2, .int a2)] [.int (if a2 ≤ 0 then (0 : Int32) else 1), .int (a2 / 10)] SH mem) (fun hj => ?_) ?_
          · refine j_if_le S D_M_spills_29 (fun c_29 => ?_) (fun c_29 => ?_)
            · refine j_iconst S D_M_spills_36 ci_0 ?_
              exact j_jnT hj c_29
            · refine j_iconst S D_M_spills_32 ci_1 ?_
              refine j_goto S D_M_spills_33 ?_
              exact j_jnF hj c_29
          refine j_iadd S D_M_spills_37 ?_
          refine j_goto S D_M_spills_38 ?_
          exact j_jnT hj c_21
      exact j_jnF hj c_9
    · refine j_iload_n S D_M_spills_12 3 rfl rfl ?_
      refine j_bipush S D_M_spills_13 cb_10 ?_
      refine j_idiv S D_M_spills_15 nz_10 ?_
      refine j_goto S D_M_spills_16 ?_
      exact j_jnT hj c_9
  exact rtI hR h _ _ D_M_spills_42

def y_M_adds : MethodName := ⟨"SandPictureModel", "adds", "(II)I"⟩
theorem D_M_adds_0 : decode prog_9_method_16_code 0 = .ok (.aload_n 0, 1) ∧ 0 + 1 = 1 := by decide +kernel
theorem D_M_adds_1 : decode prog_9_method_16_code 1 = .ok (.iload_n 1, 1) ∧ 1 + 1 = 2 := by decide +kernel
theorem D_M_adds_2 : decode prog_9_method_16_code 2 = .ok (.iconst 0, 1) ∧ 2 + 1 = 3 := by decide +kernel
theorem D_M_adds_3 : decode prog_9_method_16_code 3 = .ok (.invokevirtual 93, 3) ∧ 3 + 3 = 6 := by decide +kernel
theorem D_M_adds_6 : decode prog_9_method_16_code 6 = .ok (.iconst 5, 1) ∧ 6 + 1 = 7 := by decide +kernel
theorem D_M_adds_7 : decode prog_9_method_16_code 7 = .ok (.if_icmp .eq 12, 3) ∧ ((7 : Nat) : Int) + 12 = ((19 : Nat) : Int) ∧ 7 + 3 = 10 := by decide +kernel
theorem D_M_adds_19 : decode prog_9_method_16_code 19 = .ok (.iconst 1, 1) ∧ 19 + 1 = 20 := by decide +kernel
theorem D_M_adds_20 : decode prog_9_method_16_code 20 = .ok (.goto 4, 3) ∧ ((20 : Nat) : Int) + 4 = ((24 : Nat) : Int) := by decide +kernel
theorem D_M_adds_24 : decode prog_9_method_16_code 24 = .ok (.ireturn, 1) := by decide +kernel
theorem D_M_adds_10 : decode prog_9_method_16_code 10 = .ok (.aload_n 0, 1) ∧ 10 + 1 = 11 := by decide +kernel
theorem D_M_adds_11 : decode prog_9_method_16_code 11 = .ok (.iload_n 1, 1) ∧ 11 + 1 = 12 := by decide +kernel
theorem D_M_adds_12 : decode prog_9_method_16_code 12 = .ok (.iload_n 2, 1) ∧ 12 + 1 = 13 := by decide +kernel
theorem D_M_adds_13 : decode prog_9_method_16_code 13 = .ok (.invokevirtual 116, 3) ∧ 13 + 3 = 16 := by decide +kernel
theorem D_M_adds_23 : decode prog_9_method_16_code 23 = .ok (.iconst 0, 1) ∧ 23 + 1 = 24 := by decide +kernel
theorem D_M_adds_16 : decode prog_9_method_16_code 16 = .ok (.ifCond .le 7, 3) ∧ ((16 : Nat) : Int) + 7 = ((23 : Nat) : Int) ∧ 16 + 3 = 19 := by decide +kernel
def f_M_adds (a1 : Int32) (a2 : Int32) (mem : Mm) : Option (Int32) := bp (f_M_of a1 0 mem) fun r_3 => if r_3 = 5 then some 1 else bp (f_M_spills a1 a2 mem) fun r_13 => some (if r_13 ≤ 0 then (0 : Int32) else 1)
theorem c_M_adds (l : Launch) (E : En) (a1 : Int32) (a2 : Int32) {mem : Mm} {r : Int32} (h : f_M_adds a1 a2 mem = some r) : CtI l E 2 y_M_adds prog_9_method_16_code 3 (some .int) [.ref (eb E + 91), .int a1, .int a2] SH mem r mem := by
  refine mk_CtI ⟨by decide, (Nat.le_of_ble_eq_true rfl)⟩ (fun X S hl hR => ?_)
  have S : Std X E prog_9_method_16_code R6 3 2 := S
  show J X E 3 0 [(0, .ref (eb E + 91)), (1, .int a1), (2, .int a2)] [] SH mem
  unfold f_M_adds at h
  refine j_aload_n S D_M_adds_0 0 rfl rfl ?_
  refine j_iload_n S D_M_adds_1 1 rfl rfl ?_
  refine j_iconst S D_M_adds_2 ci_0 ?_
  obtain ⟨r_3, e_3, h⟩ := bpE h
  refine j_callVI (As := [.int a1, .int 0]) S D_M_adds_3 mv_R6_93 (c_M_of (cxL X) E a1 0 e_3) (by decide) sh_Mod rfl rfl rfl rfl (Nat.le_of_ble_eq_true rfl) ?_
  refine j_iconst S D_M_adds_6 ci_5 ?_
  refine j_icmp_eq S D_M_adds_7 (fun c_7 => ?_) (fun c_7 => ?_)
  · have h := ifT c_7 h
    refine j_iconst S D_M_adds_19 ci_1 ?_
    refine j_goto S D_M_adds_20 ?_
    exact rtI hR h _ _ D_M_adds_24
  · have h := ifF c_7 h
    refine j_aload_n S D_M_adds_10 0 rfl rfl ?_
    refine j_iload_n S D_M_adds_11 1 rfl rfl ?_
    refine j_iload_n S D_M_adds_12 2 rfl rfl ?_
    obtain ⟨r_13, e_13, h⟩ := bpE h
    refine j_callVI (As := [.int a1, .int a2]) S D_M_adds_13 mv_R6_116 (c_M_spills (cxL X) E a1 a2 e_13) (by decide) sh_Mod rfl rfl rfl rfl (Nat.le_of_ble_eq_true rfl) ?_
    refine j_dia (P := J X E 3 24 [(0, .ref (eb E + 91)), (1, .int a1), (2, .int a2)] [.int (if r_13 ≤ 0 then (0 : Int32) else 1)] SH mem) (fun hj => ?_) ?_
    · refine j_if_le S D_M_adds_16 (fun c_16 => ?_) (fun c_16 => ?_)
      · refine j_iconst S D_M_adds_23 ci_0 ?_
        exact j_jnT hj c_16
      · refine j_iconst S D_M_adds_19 ci_1 ?_
        refine j_goto S D_M_adds_20 ?_
        exact j_jnF hj c_16
    exact rtI hR h _ _ D_M_adds_24

def y_M_does : MethodName := ⟨"SandPictureModel", "does", "(III)I"⟩
theorem D_M_does_0 : decode prog_9_method_17_code 0 = .ok (.aload_n 0, 1) ∧ 0 + 1 = 1 := by decide +kernel
theorem D_M_does_1 : decode prog_9_method_17_code 1 = .ok (.iload_n 1, 1) ∧ 1 + 1 = 2 := by decide +kernel
theorem D_M_does_2 : decode prog_9_method_17_code 2 = .ok (.invokevirtual 97, 3) ∧ 2 + 3 = 5 := by decide +kernel
theorem D_M_does_5 : decode prog_9_method_17_code 5 = .ok (.ifCond .eq 32, 3) ∧ ((5 : Nat) : Int) + 32 = ((37 : Nat) : Int) ∧ 5 + 3 = 8 := by decide +kernel
theorem D_M_does_37 : decode prog_9_method_17_code 37 = .ok (.ldc 87, 2) ∧ 37 + 2 = 39 := by decide +kernel
theorem D_M_does_39 : decode prog_9_method_17_code 39 = .ok (.ireturn, 1) := by decide +kernel
theorem D_M_does_8 : decode prog_9_method_17_code 8 = .ok (.iload_n 2, 1) ∧ 8 + 1 = 9 := by decide +kernel
theorem D_M_does_9 : decode prog_9_method_17_code 9 = .ok (.iconst 0, 1) ∧ 9 + 1 = 10 := by decide +kernel
theorem D_M_does_10 : decode prog_9_method_17_code 10 = .ok (.iconst 2, 1) ∧ 10 + 1 = 11 := by decide +kernel
theorem D_M_does_11 : decode prog_9_method_17_code 11 = .ok (.invokestatic 79, 3) ∧ 11 + 3 = 14 := by decide +kernel
theorem D_M_does_14 : decode prog_9_method_17_code 14 = .ok (.ifCond .eq 23, 3) ∧ ((14 : Nat) : Int) + 23 = ((37 : Nat) : Int) ∧ 14 + 3 = 17 := by decide +kernel
theorem D_M_does_17 : decode prog_9_method_17_code 17 = .ok (.iload_n 3, 1) ∧ 17 + 1 = 18 := by decide +kernel
theorem D_M_does_18 : decode prog_9_method_17_code 18 = .ok (.iconst 0, 1) ∧ 18 + 1 = 19 := by decide +kernel
theorem D_M_does_19 : decode prog_9_method_17_code 19 = .ok (.iload_n 2, 1) ∧ 19 + 1 = 20 := by decide +kernel
theorem D_M_does_28 : decode prog_9_method_17_code 28 = .ok (.sipush 999, 3) ∧ 28 + 3 = 31 := by decide +kernel
theorem D_M_does_23 : decode prog_9_method_17_code 23 = .ok (.bipush 9, 2) ∧ 23 + 2 = 25 := by decide +kernel
theorem D_M_does_25 : decode prog_9_method_17_code 25 = .ok (.goto 6, 3) ∧ ((25 : Nat) : Int) + 6 = ((31 : Nat) : Int) := by decide +kernel
theorem D_M_does_20 : decode prog_9_method_17_code 20 = .ok (.ifCond .ne 8, 3) ∧ ((20 : Nat) : Int) + 8 = ((28 : Nat) : Int) ∧ 20 + 3 = 23 := by decide +kernel
theorem D_M_does_31 : decode prog_9_method_17_code 31 = .ok (.invokestatic 79, 3) ∧ 31 + 3 = 34 := by decide +kernel
theorem D_M_does_34 : decode prog_9_method_17_code 34 = .ok (.ifCond .ne 6, 3) ∧ ((34 : Nat) : Int) + 6 = ((40 : Nat) : Int) ∧ 34 + 3 = 37 := by decide +kernel
theorem D_M_does_40 : decode prog_9_method_17_code 40 = .ok (.iload_n 2, 1) ∧ 40 + 1 = 41 := by decide +kernel
theorem D_M_does_41 : decode prog_9_method_17_code 41 = .ok (.ifCond .ne 12, 3) ∧ ((41 : Nat) : Int) + 12 = ((53 : Nat) : Int) ∧ 41 + 3 = 44 := by decide +kernel
theorem D_M_does_53 : decode prog_9_method_17_code 53 = .ok (.iload_n 2, 1) ∧ 53 + 1 = 54 := by decide +kernel
theorem D_M_does_54 : decode prog_9_method_17_code 54 = .ok (.iconst 1, 1) ∧ 54 + 1 = 55 := by decide +kernel
theorem D_M_does_55 : decode prog_9_method_17_code 55 = .ok (.if_icmp .ne 12, 3) ∧ ((55 : Nat) : Int) + 12 = ((67 : Nat) : Int) ∧ 55 + 3 = 58 := by decide +kernel
theorem D_M_does_67 : decode prog_9_method_17_code 67 = .ok (.aload_n 0, 1) ∧ 67 + 1 = 68 := by decide +kernel
theorem D_M_does_68 : decode prog_9_method_17_code 68 = .ok (.iload_n 1, 1) ∧ 68 + 1 = 69 := by decide +kernel
theorem D_M_does_69 : decode prog_9_method_17_code 69 = .ok (.iload_n 3, 1) ∧ 69 + 1 = 70 := by decide +kernel
theorem D_M_does_70 : decode prog_9_method_17_code 70 = .ok (.invokevirtual 122, 3) ∧ 70 + 3 = 73 := by decide +kernel
theorem D_M_does_73 : decode prog_9_method_17_code 73 = .ok (.ireturn, 1) := by decide +kernel
theorem D_M_does_58 : decode prog_9_method_17_code 58 = .ok (.aload_n 0, 1) ∧ 58 + 1 = 59 := by decide +kernel
theorem D_M_does_59 : decode prog_9_method_17_code 59 = .ok (.iload_n 1, 1) ∧ 59 + 1 = 60 := by decide +kernel
theorem D_M_does_60 : decode prog_9_method_17_code 60 = .ok (.iload_n 3, 1) ∧ 60 + 1 = 61 := by decide +kernel
theorem D_M_does_61 : decode prog_9_method_17_code 61 = .ok (.invokevirtual 116, 3) ∧ 61 + 3 = 64 := by decide +kernel
theorem D_M_does_64 : decode prog_9_method_17_code 64 = .ok (.goto 9, 3) ∧ ((64 : Nat) : Int) + 9 = ((73 : Nat) : Int) := by decide +kernel
theorem D_M_does_44 : decode prog_9_method_17_code 44 = .ok (.aload_n 0, 1) ∧ 44 + 1 = 45 := by decide +kernel
theorem D_M_does_45 : decode prog_9_method_17_code 45 = .ok (.iload_n 1, 1) ∧ 45 + 1 = 46 := by decide +kernel
theorem D_M_does_46 : decode prog_9_method_17_code 46 = .ok (.iload_n 3, 1) ∧ 46 + 1 = 47 := by decide +kernel
theorem D_M_does_47 : decode prog_9_method_17_code 47 = .ok (.invokevirtual 119, 3) ∧ 47 + 3 = 50 := by decide +kernel
theorem D_M_does_50 : decode prog_9_method_17_code 50 = .ok (.goto 23, 3) ∧ ((50 : Nat) : Int) + 23 = ((73 : Nat) : Int) := by decide +kernel
def f_M_does (N : Nat) (a1 : Int32) (a2 : Int32) (a3 : Int32) (mem : Mm) : Option (Int32 × Mm) := bp (f_M_isMonk a1 mem) fun r_2 => if r_2 = 0 then some ((-1000000001), mem) else bp (f_M_in a2 0 2) fun r_11 => if r_11 = 0 then some ((-1000000001), mem) else bp (f_M_in a3 0 (if a2 = 0 then (9 : Int32) else 999)) fun r_31 => if r_31 = 0 then some ((-1000000001), mem) else if a2 = 0 then bd (f_M_poursBy N a1 a3 mem) fun r_47 m_47 => some (r_47, m_47) else if a2 = 1 then bp (f_M_spills a1 a3 mem) fun r_61 => some (r_61, mem) else bp (f_M_adds a1 a3 mem) fun r_70 => some (r_70, mem)
theorem c_M_does (l : Launch) (E : En) (N : Nat) (a1 : Int32) (a2 : Int32) (a3 : Int32) {mem : Mm} {r : Int32} {m2 : Mm} (h : f_M_does N a1 a2 a3 mem = some (r, m2)) : CtI l E 3 y_M_does prog_9_method_17_code 4 (some .int) [.ref (eb E + 91), .int a1, .int a2, .int a3] SH mem r m2 := by
  refine mk_CtI ⟨by decide, (Nat.le_of_ble_eq_true rfl)⟩ (fun X S hl hR => ?_)
  have S : Std X E prog_9_method_17_code R6 4 3 := S
  show J X E 4 0 [(0, .ref (eb E + 91)), (1, .int a1), (2, .int a2), (3, .int a3)] [] SH mem
  unfold f_M_does at h
  refine j_aload_n S D_M_does_0 0 rfl rfl ?_
  refine j_iload_n S D_M_does_1 1 rfl rfl ?_
  obtain ⟨r_2, e_2, h⟩ := bpE h
  refine j_callVI (As := [.int a1]) S D_M_does_2 mv_R6_97 (c_M_isMonk (cxL X) E a1 e_2) (by decide) sh_Mod rfl rfl rfl rfl (Nat.le_of_ble_eq_true rfl) ?_
  refine j_if_eq S D_M_does_5 (fun c_5 => ?_) (fun c_5 => ?_)
  · have h := ifT c_5 h
    refine j_ldc S D_M_does_37 co_R6_87 ?_
    exact rtM hR h _ _ D_M_does_39
  · have h := ifF c_5 h
    refine j_iload_n S D_M_does_8 2 rfl rfl ?_
    refine j_iconst S D_M_does_9 ci_0 ?_
    refine j_iconst S D_M_does_10 ci_2 ?_
    obtain ⟨r_11, e_11, h⟩ := bpE h
    refine j_callSI (As := [.int a2, .int 0, .int 2]) S D_M_does_11 ms_R6_79 (c_M_in (cxL X) E a2 0 2 (mem := mem) e_11) (by decide) rfl rfl (Nat.le_of_ble_eq_true rfl) ?_
    refine j_if_eq S D_M_does_14 (fun c_14 => ?_) (fun c_14 => ?_)
    · have h := ifT c_14 h
      refine j_ldc S D_M_does_37 co_R6_87 ?_
      exact rtM hR h _ _ D_M_does_39
    · have h := ifF c_14 h
      refine j_iload_n S D_M_does_17 3 rfl rfl ?_
      refine j_iconst S D_M_does_18 ci_0 ?_
      refine j_iload_n S D_M_does_19 2 rfl rfl ?_
      refine j_dia (P := J X E 4 31 [(0, .ref (eb E + 91)), (1, .int a1), (2, .int a2), (3, .int a3)] [.int (if a2 = 0 then (9 : Int32) else 999), .int 0, .int a3] SH mem) (fun hj => ?_) ?_
      · refine j_if_ne S D_M_does_20 (fun c_20 => ?_) (fun c_20 => ?_)
        · refine j_sipush S D_M_does_28 cs_999 ?_
          exact j_jnF hj c_20
        · refine j_bipush S D_M_does_23 cb_9 ?_
          refine j_goto S D_M_does_25 ?_
          exact j_jnT hj c_20
      obtain ⟨r_31, e_31, h⟩ := bpE h
      refine j_callSI (As := [.int a3, .int 0, .int (if a2 = 0 then (9 : Int32) else 999)]) S D_M_does_31 ms_R6_79 (c_M_in (cxL X) E a3 0 (if a2 = 0 then (9 : Int32) else 999) (mem := mem) e_31) (by decide) rfl rfl (Nat.le_of_ble_eq_true rfl) ?_
      refine j_if_ne S D_M_does_34 (fun c_34 => ?_) (fun c_34 => ?_)
      · have h := ifF c_34 h
        refine j_iload_n S D_M_does_40 2 rfl rfl ?_
        refine j_if_ne S D_M_does_41 (fun c_41 => ?_) (fun c_41 => ?_)
        · have h := ifF c_41 h
          refine j_iload_n S D_M_does_53 2 rfl rfl ?_
          refine j_iconst S D_M_does_54 ci_1 ?_
          refine j_icmp_ne S D_M_does_55 (fun c_55 => ?_) (fun c_55 => ?_)
          · have h := ifF c_55 h
            refine j_aload_n S D_M_does_67 0 rfl rfl ?_
            refine j_iload_n S D_M_does_68 1 rfl rfl ?_
            refine j_iload_n S D_M_does_69 3 rfl rfl ?_
            obtain ⟨r_70, e_70, h⟩ := bpE h
            refine j_callVI (As := [.int a1, .int a3]) S D_M_does_70 mv_R6_122 (c_M_adds (cxL X) E a1 a3 e_70) (by decide) sh_Mod rfl rfl rfl rfl (Nat.le_of_ble_eq_true rfl) ?_
            exact rtM hR h _ _ D_M_does_73
          · have h := ifT c_55 h
            refine j_aload_n S D_M_does_58 0 rfl rfl ?_
            refine j_iload_n S D_M_does_59 1 rfl rfl ?_
            refine j_iload_n S D_M_does_60 3 rfl rfl ?_
            obtain ⟨r_61, e_61, h⟩ := bpE h
            refine j_callVI (As := [.int a1, .int a3]) S D_M_does_61 mv_R6_116 (c_M_spills (cxL X) E a1 a3 e_61) (by decide) sh_Mod rfl rfl rfl rfl (Nat.le_of_ble_eq_true rfl) ?_
            refine j_goto S D_M_does_64 ?_
            exact rtM hR h _ _ D_M_does_73
        · have h := ifT c_41 h
          refine j_aload_n S D_M_does_44 0 rfl rfl ?_
          refine j_iload_n S D_M_does_45 1 rfl rfl ?_
          refine j_iload_n S D_M_does_46 3 rfl rfl ?_
          obtain ⟨r_47, m_47, e_47, h⟩ := bdE h
          refine j_callVI (As := [.int a1, .int a3]) S D_M_does_47 mv_R6_119 (c_M_poursBy (cxL X) E N a1 a3 e_47) (by decide) sh_Mod rfl rfl rfl rfl (Nat.le_of_ble_eq_true rfl) ?_
          refine j_goto S D_M_does_50 ?_
          exact rtM hR h _ _ D_M_does_73
      · have h := ifT c_34 h
        refine j_ldc S D_M_does_37 co_R6_87 ?_
        exact rtM hR h _ _ D_M_does_39

def y_M_isUnder : MethodName := ⟨"SandPictureModel", "isUnder", "(II)Z"⟩
theorem D_M_isUnder_0 : decode prog_9_method_18_code 0 = .ok (.iload_n 1, 1) ∧ 0 + 1 = 1 := by decide +kernel
theorem D_M_isUnder_29 : decode prog_9_method_18_code 29 = .ok (.iconst 1, 1) ∧ 29 + 1 = 30 := by decide +kernel
theorem D_M_isUnder_30 : decode prog_9_method_18_code 30 = .ok (.goto 4, 3) ∧ ((30 : Nat) : Int) + 4 = ((34 : Nat) : Int) := by decide +kernel
theorem D_M_isUnder_4 : decode prog_9_method_18_code 4 = .ok (.iload_n 0, 1) ∧ 4 + 1 = 5 := by decide +kernel
theorem D_M_isUnder_5 : decode prog_9_method_18_code 5 = .ok (.iload_n 1, 1) ∧ 5 + 1 = 6 := by decide +kernel
theorem D_M_isUnder_9 : decode prog_9_method_18_code 9 = .ok (.iload_n 1, 1) ∧ 9 + 1 = 10 := by decide +kernel
theorem D_M_isUnder_10 : decode prog_9_method_18_code 10 = .ok (.iconst 1, 1) ∧ 10 + 1 = 11 := by decide +kernel
theorem D_M_isUnder_19 : decode prog_9_method_18_code 19 = .ok (.iload_n 1, 1) ∧ 19 + 1 = 20 := by decide +kernel
theorem D_M_isUnder_20 : decode prog_9_method_18_code 20 = .ok (.iconst 2, 1) ∧ 20 + 1 = 21 := by decide +kernel
theorem D_M_isUnder_33 : decode prog_9_method_18_code 33 = .ok (.iconst 0, 1) ∧ 33 + 1 = 34 := by decide +kernel
theorem D_M_isUnder_24 : decode prog_9_method_18_code 24 = .ok (.iload_n 0, 1) ∧ 24 + 1 = 25 := by decide +kernel
theorem D_M_isUnder_25 : decode prog_9_method_18_code 25 = .ok (.iconst 4, 1) ∧ 25 + 1 = 26 := by decide +kernel
theorem D_M_isUnder_26 : decode prog_9_method_18_code 26 = .ok (.if_icmp .ne 7, 3) ∧ ((26 : Nat) : Int) + 7 = ((33 : Nat) : Int) ∧ 26 + 3 = 29 := by decide +kernel
theorem D_M_isUnder_21 : decode prog_9_method_18_code 21 = .ok (.if_icmp .ne 12, 3) ∧ ((21 : Nat) : Int) + 12 = ((33 : Nat) : Int) ∧ 21 + 3 = 24 := by decide +kernel
theorem D_M_isUnder_14 : decode prog_9_method_18_code 14 = .ok (.iload_n 0, 1) ∧ 14 + 1 = 15 := by decide +kernel
theorem D_M_isUnder_15 : decode prog_9_method_18_code 15 = .ok (.iconst 3, 1) ∧ 15 + 1 = 16 := by decide +kernel
theorem D_M_isUnder_16 : decode prog_9_method_18_code 16 = .ok (.if_icmp .eq 13, 3) ∧ ((16 : Nat) : Int) + 13 = ((29 : Nat) : Int) ∧ 16 + 3 = 19 := by decide +kernel
theorem D_M_isUnder_11 : decode prog_9_method_18_code 11 = .ok (.if_icmp .ne 8, 3) ∧ ((11 : Nat) : Int) + 8 = ((19 : Nat) : Int) ∧ 11 + 3 = 14 := by decide +kernel
theorem D_M_isUnder_6 : decode prog_9_method_18_code 6 = .ok (.if_icmp .eq 23, 3) ∧ ((6 : Nat) : Int) + 23 = ((29 : Nat) : Int) ∧ 6 + 3 = 9 := by decide +kernel
theorem D_M_isUnder_1 : decode prog_9_method_18_code 1 = .ok (.ifCond .eq 28, 3) ∧ ((1 : Nat) : Int) + 28 = ((29 : Nat) : Int) ∧ 1 + 3 = 4 := by decide +kernel
theorem D_M_isUnder_34 : decode prog_9_method_18_code 34 = .ok (.ireturn, 1) := by decide +kernel
def f_M_isUnder (a1 : Int32) (a2 : Int32) : Option (Int32) := some (if a2 = 0 then (1 : Int32) else if a1 = a2 then (1 : Int32) else if a2 = 1 then if a1 = 3 then (1 : Int32) else if a2 = 2 then if a1 = 4 then (1 : Int32) else 0 else 0 else if a2 = 2 then if a1 = 4 then (1 : Int32) else 0 else 0)
theorem c_M_isUnder (l : Launch) (E : En) (a1 : Int32) (a2 : Int32) {mem : Mm} {r : Int32} (h : f_M_isUnder a1 a2 = some r) : CtI l E 0 y_M_isUnder prog_9_method_18_code 2 (some .boolean) [.int a1, .int a2] SH mem r mem := by
  refine mk_CtZ ⟨by decide, (Nat.le_of_ble_eq_true rfl)⟩ (fun X S hl hR => ?_)
  have S : Std X E prog_9_method_18_code R6 2 0 := S
  show J X E 2 0 [(0, .int a1), (1, .int a2)] [] SH mem
  unfold f_M_isUnder at h
  refine j_iload_n S D_M_isUnder_0 1 rfl rfl ?_
  refine j_dia (P := J X E 2 34 [(0, .int a1), (1, .int a2)] [.int (if a2 = 0 then (1 : Int32) else if a1 = a2 then (1 : Int32) else if a2 = 1 then if a1 = 3 then (1 : Int32) else if a2 = 2 then if a1 = 4 then (1 : Int32) else 0 else 0 else if a2 = 2 then if a1 = 4 then (1 : Int32) else 0 else 0)] SH mem) (fun hj => ?_) ?_
  · refine j_if_eq S D_M_isUnder_1 (fun c_1 => ?_) (fun c_1 => ?_)
    · refine j_iconst S D_M_isUnder_29 ci_1 ?_
      refine j_goto S D_M_isUnder_30 ?_
      exact j_jnT hj c_1
    · refine j_iload_n S D_M_isUnder_4 0 rfl rfl ?_
      refine j_iload_n S D_M_isUnder_5 1 rfl rfl ?_
      refine j_dia (P := J X E 2 34 [(0, .int a1), (1, .int a2)] [.int (if a1 = a2 then (1 : Int32) else if a2 = 1 then if a1 = 3 then (1 : Int32) else if a2 = 2 then if a1 = 4 then (1 : Int32) else 0 else 0 else if a2 = 2 then if a1 = 4 then (1 : Int32) else 0 else 0)] SH mem) (fun hj => ?_) ?_
      · refine j_icmp_eq S D_M_isUnder_6 (fun c_6 => ?_) (fun c_6 => ?_)
        · refine j_iconst S D_M_isUnder_29 ci_1 ?_
          refine j_goto S D_M_isUnder_30 ?_
          exact j_jnT hj c_6
        · refine j_iload_n S D_M_isUnder_9 1 rfl rfl ?_
          refine j_iconst S D_M_isUnder_10 ci_1 ?_
          refine j_dia (P := J X E 2 34 [(0, .int a1), (1, .int a2)] [.int (if a2 = 1 then if a1 = 3 then (1 : Int32) else if a2 = 2 then if a1 = 4 then (1 : Int32) else 0 else 0 else if a2 = 2 then if a1 = 4 then (1 : Int32) else 0 else 0)] SH mem) (fun hj => ?_) ?_
          · refine j_icmp_ne S D_M_isUnder_11 (fun c_11 => ?_) (fun c_11 => ?_)
            · refine j_iload_n S D_M_isUnder_19 1 rfl rfl ?_
              refine j_iconst S D_M_isUnder_20 ci_2 ?_
              refine j_dia (P := J X E 2 34 [(0, .int a1), (1, .int a2)] [.int (if a2 = 2 then if a1 = 4 then (1 : Int32) else 0 else 0)] SH mem) (fun hj => ?_) ?_
              · refine j_icmp_ne S D_M_isUnder_21 (fun c_21 => ?_) (fun c_21 => ?_)
                · refine j_iconst S D_M_isUnder_33 ci_0 ?_
                  exact j_jnF hj c_21
                · refine j_iload_n S D_M_isUnder_24 0 rfl rfl ?_
                  refine j_iconst S D_M_isUnder_25 ci_4 ?_
                  refine j_dia (P := J X E 2 34 [(0, .int a1), (1, .int a2)] [.int (if a1 = 4 then (1 : Int32) else 0)] SH mem) (fun hj => ?_) ?_
                  · refine j_icmp_ne S D_M_isUnder_26 (fun c_26 => ?_) (fun c_26 => ?_)
                    · refine j_iconst S D_M_isUnder_33 ci_0 ?_
                      exact j_jnF hj c_26
                    · refine j_iconst S D_M_isUnder_29 ci_1 ?_
                      refine j_goto S D_M_isUnder_30 ?_
                      exact j_jnT hj c_26
                  exact j_jnT hj c_21
              exact j_jnF hj c_11
            · refine j_iload_n S D_M_isUnder_14 0 rfl rfl ?_
              refine j_iconst S D_M_isUnder_15 ci_3 ?_
              refine j_dia (P := J X E 2 34 [(0, .int a1), (1, .int a2)] [.int (if a1 = 3 then (1 : Int32) else if a2 = 2 then if a1 = 4 then (1 : Int32) else 0 else 0)] SH mem) (fun hj => ?_) ?_
              · refine j_icmp_eq S D_M_isUnder_16 (fun c_16 => ?_) (fun c_16 => ?_)
                · refine j_iconst S D_M_isUnder_29 ci_1 ?_
                  refine j_goto S D_M_isUnder_30 ?_
                  exact j_jnT hj c_16
                · refine j_iload_n S D_M_isUnder_19 1 rfl rfl ?_
                  refine j_iconst S D_M_isUnder_20 ci_2 ?_
                  refine j_dia (P := J X E 2 34 [(0, .int a1), (1, .int a2)] [.int (if a2 = 2 then if a1 = 4 then (1 : Int32) else 0 else 0)] SH mem) (fun hj => ?_) ?_
                  · refine j_icmp_ne S D_M_isUnder_21 (fun c_21 => ?_) (fun c_21 => ?_)
                    · refine j_iconst S D_M_isUnder_33 ci_0 ?_
                      exact j_jnF hj c_21
                    · refine j_iload_n S D_M_isUnder_24 0 rfl rfl ?_
                      refine j_iconst S D_M_isUnder_25 ci_4 ?_
                      refine j_dia (P := J X E 2 34 [(0, .int a1), (1, .int a2)] [.int (if a1 = 4 then (1 : Int32) else 0)] SH mem) (fun hj => ?_) ?_
                      · refine j_icmp_ne S D_M_isUnder_26 (fun c_26 => ?_) (fun c_26 => ?_)
                        · refine j_iconst S D_M_isUnder_33 ci_0 ?_
                          exact j_jnF hj c_26
                        · refine j_iconst S D_M_isUnder_29 ci_1 ?_
                          refine j_goto S D_M_isUnder_30 ?_
                          exact j_jnT hj c_26
                      exact j_jnT hj c_21
                  exact j_jnF hj c_16
              exact j_jnT hj c_11
          exact j_jnF hj c_6
      exact j_jnF hj c_1
  exact rtIZ hR h (isb_ite isb1 (isb_ite isb1 (isb_ite (isb_ite isb1 (isb_ite (isb_ite isb1 isb0) isb0)) (isb_ite (isb_ite isb1 isb0) isb0)))) _ _ D_M_isUnder_34

def y_M_as : MethodName := ⟨"SandPictureModel", "as", "(II)I"⟩
theorem D_M_as_0 : decode prog_9_method_19_code 0 = .ok (.aload_n 0, 1) ∧ 0 + 1 = 1 := by decide +kernel
theorem D_M_as_1 : decode prog_9_method_19_code 1 = .ok (.iload_n 1, 1) ∧ 1 + 1 = 2 := by decide +kernel
theorem D_M_as_2 : decode prog_9_method_19_code 2 = .ok (.invokevirtual 97, 3) ∧ 2 + 3 = 5 := by decide +kernel
theorem D_M_as_5 : decode prog_9_method_19_code 5 = .ok (.ifCond .eq 12, 3) ∧ ((5 : Nat) : Int) + 12 = ((17 : Nat) : Int) ∧ 5 + 3 = 8 := by decide +kernel
theorem D_M_as_17 : decode prog_9_method_19_code 17 = .ok (.ldc 87, 2) ∧ 17 + 2 = 19 := by decide +kernel
theorem D_M_as_19 : decode prog_9_method_19_code 19 = .ok (.ireturn, 1) := by decide +kernel
theorem D_M_as_8 : decode prog_9_method_19_code 8 = .ok (.iload_n 2, 1) ∧ 8 + 1 = 9 := by decide +kernel
theorem D_M_as_9 : decode prog_9_method_19_code 9 = .ok (.iconst 0, 1) ∧ 9 + 1 = 10 := by decide +kernel
theorem D_M_as_10 : decode prog_9_method_19_code 10 = .ok (.iconst 5, 1) ∧ 10 + 1 = 11 := by decide +kernel
theorem D_M_as_11 : decode prog_9_method_19_code 11 = .ok (.invokestatic 79, 3) ∧ 11 + 3 = 14 := by decide +kernel
theorem D_M_as_14 : decode prog_9_method_19_code 14 = .ok (.ifCond .ne 6, 3) ∧ ((14 : Nat) : Int) + 6 = ((20 : Nat) : Int) ∧ 14 + 3 = 17 := by decide +kernel
theorem D_M_as_20 : decode prog_9_method_19_code 20 = .ok (.aload_n 0, 1) ∧ 20 + 1 = 21 := by decide +kernel
theorem D_M_as_21 : decode prog_9_method_19_code 21 = .ok (.iload_n 1, 1) ∧ 21 + 1 = 22 := by decide +kernel
theorem D_M_as_22 : decode prog_9_method_19_code 22 = .ok (.iconst 0, 1) ∧ 22 + 1 = 23 := by decide +kernel
theorem D_M_as_23 : decode prog_9_method_19_code 23 = .ok (.invokevirtual 93, 3) ∧ 23 + 3 = 26 := by decide +kernel
theorem D_M_as_26 : decode prog_9_method_19_code 26 = .ok (.iload_n 2, 1) ∧ 26 + 1 = 27 := by decide +kernel
theorem D_M_as_27 : decode prog_9_method_19_code 27 = .ok (.invokestatic 125, 3) ∧ 27 + 3 = 30 := by decide +kernel
theorem D_M_as_30 : decode prog_9_method_19_code 30 = .ok (.ifCond .eq 12, 3) ∧ ((30 : Nat) : Int) + 12 = ((42 : Nat) : Int) ∧ 30 + 3 = 33 := by decide +kernel
theorem D_M_as_42 : decode prog_9_method_19_code 42 = .ok (.ldc 129, 2) ∧ 42 + 2 = 44 := by decide +kernel
theorem D_M_as_44 : decode prog_9_method_19_code 44 = .ok (.ireturn, 1) := by decide +kernel
theorem D_M_as_33 : decode prog_9_method_19_code 33 = .ok (.aload_n 0, 1) ∧ 33 + 1 = 34 := by decide +kernel
theorem D_M_as_34 : decode prog_9_method_19_code 34 = .ok (.iload_n 1, 1) ∧ 34 + 1 = 35 := by decide +kernel
theorem D_M_as_35 : decode prog_9_method_19_code 35 = .ok (.iconst 1, 1) ∧ 35 + 1 = 36 := by decide +kernel
theorem D_M_as_36 : decode prog_9_method_19_code 36 = .ok (.invokevirtual 93, 3) ∧ 36 + 3 = 39 := by decide +kernel
theorem D_M_as_39 : decode prog_9_method_19_code 39 = .ok (.goto 5, 3) ∧ ((39 : Nat) : Int) + 5 = ((44 : Nat) : Int) := by decide +kernel
def f_M_as (a1 : Int32) (a2 : Int32) (mem : Mm) : Option (Int32) := bp (f_M_isMonk a1 mem) fun r_2 => if r_2 = 0 then some (-1000000001) else bp (f_M_in a2 0 5) fun r_11 => if r_11 = 0 then some (-1000000001) else bp (f_M_of a1 0 mem) fun r_23 => bp (f_M_isUnder r_23 a2) fun r_27 => if r_27 = 0 then some (-1000000012) else bp (f_M_of a1 1 mem) fun r_36 => some r_36
theorem c_M_as (l : Launch) (E : En) (a1 : Int32) (a2 : Int32) {mem : Mm} {r : Int32} (h : f_M_as a1 a2 mem = some r) : CtI l E 2 y_M_as prog_9_method_19_code 3 (some .int) [.ref (eb E + 91), .int a1, .int a2] SH mem r mem := by
  refine mk_CtI ⟨by decide, (Nat.le_of_ble_eq_true rfl)⟩ (fun X S hl hR => ?_)
  have S : Std X E prog_9_method_19_code R6 3 2 := S
  show J X E 3 0 [(0, .ref (eb E + 91)), (1, .int a1), (2, .int a2)] [] SH mem
  unfold f_M_as at h
  refine j_aload_n S D_M_as_0 0 rfl rfl ?_
  refine j_iload_n S D_M_as_1 1 rfl rfl ?_
  obtain ⟨r_2, e_2, h⟩ := bpE h
  refine j_callVI (As := [.int a1]) S D_M_as_2 mv_R6_97 (c_M_isMonk (cxL X) E a1 e_2) (by decide) sh_Mod rfl rfl rfl rfl (Nat.le_of_ble_eq_true rfl) ?_
  refine j_if_eq S D_M_as_5 (fun c_5 => ?_) (fun c_5 => ?_)
  · have h := ifT c_5 h
    refine j_ldc S D_M_as_17 co_R6_87 ?_
    exact rtI hR h _ _ D_M_as_19
  · have h := ifF c_5 h
    refine j_iload_n S D_M_as_8 2 rfl rfl ?_
    refine j_iconst S D_M_as_9 ci_0 ?_
    refine j_iconst S D_M_as_10 ci_5 ?_
    obtain ⟨r_11, e_11, h⟩ := bpE h
    refine j_callSI (As := [.int a2, .int 0, .int 5]) S D_M_as_11 ms_R6_79 (c_M_in (cxL X) E a2 0 5 (mem := mem) e_11) (by decide) rfl rfl (Nat.le_of_ble_eq_true rfl) ?_
    refine j_if_ne S D_M_as_14 (fun c_14 => ?_) (fun c_14 => ?_)
    · have h := ifF c_14 h
      refine j_aload_n S D_M_as_20 0 rfl rfl ?_
      refine j_iload_n S D_M_as_21 1 rfl rfl ?_
      refine j_iconst S D_M_as_22 ci_0 ?_
      obtain ⟨r_23, e_23, h⟩ := bpE h
      refine j_callVI (As := [.int a1, .int 0]) S D_M_as_23 mv_R6_93 (c_M_of (cxL X) E a1 0 e_23) (by decide) sh_Mod rfl rfl rfl rfl (Nat.le_of_ble_eq_true rfl) ?_
      refine j_iload_n S D_M_as_26 2 rfl rfl ?_
      obtain ⟨r_27, e_27, h⟩ := bpE h
      refine j_callSI (As := [.int r_23, .int a2]) S D_M_as_27 ms_R6_125 (c_M_isUnder (cxL X) E r_23 a2 (mem := mem) e_27) (by decide) rfl rfl (Nat.le_of_ble_eq_true rfl) ?_
      refine j_if_eq S D_M_as_30 (fun c_30 => ?_) (fun c_30 => ?_)
      · have h := ifT c_30 h
        refine j_ldc S D_M_as_42 co_R6_129 ?_
        exact rtI hR h _ _ D_M_as_44
      · have h := ifF c_30 h
        refine j_aload_n S D_M_as_33 0 rfl rfl ?_
        refine j_iload_n S D_M_as_34 1 rfl rfl ?_
        refine j_iconst S D_M_as_35 ci_1 ?_
        obtain ⟨r_36, e_36, h⟩ := bpE h
        refine j_callVI (As := [.int a1, .int 1]) S D_M_as_36 mv_R6_93 (c_M_of (cxL X) E a1 1 e_36) (by decide) sh_Mod rfl rfl rfl rfl (Nat.le_of_ble_eq_true rfl) ?_
        refine j_goto S D_M_as_39 ?_
        exact rtI hR h _ _ D_M_as_44
    · have h := ifT c_14 h
      refine j_ldc S D_M_as_17 co_R6_87 ?_
      exact rtI hR h _ _ D_M_as_19

def y_M_turns : MethodName := ⟨"SandPictureModel", "turns", "(II)I"⟩
theorem D_M_turns_0 : decode prog_9_method_20_code 0 = .ok (.aload_n 0, 1) ∧ 0 + 1 = 1 := by decide +kernel
theorem D_M_turns_1 : decode prog_9_method_20_code 1 = .ok (.iload_n 1, 1) ∧ 1 + 1 = 2 := by decide +kernel
theorem D_M_turns_2 : decode prog_9_method_20_code 2 = .ok (.invokevirtual 97, 3) ∧ 2 + 3 = 5 := by decide +kernel
theorem D_M_turns_5 : decode prog_9_method_20_code 5 = .ok (.ifCond .eq 26, 3) ∧ ((5 : Nat) : Int) + 26 = ((31 : Nat) : Int) ∧ 5 + 3 = 8 := by decide +kernel
theorem D_M_turns_31 : decode prog_9_method_20_code 31 = .ok (.ldc 87, 2) ∧ 31 + 2 = 33 := by decide +kernel
theorem D_M_turns_33 : decode prog_9_method_20_code 33 = .ok (.ireturn, 1) := by decide +kernel
theorem D_M_turns_8 : decode prog_9_method_20_code 8 = .ok (.iload_n 2, 1) ∧ 8 + 1 = 9 := by decide +kernel
theorem D_M_turns_9 : decode prog_9_method_20_code 9 = .ok (.iconst 0, 1) ∧ 9 + 1 = 10 := by decide +kernel
theorem D_M_turns_10 : decode prog_9_method_20_code 10 = .ok (.iconst 5, 1) ∧ 10 + 1 = 11 := by decide +kernel
theorem D_M_turns_11 : decode prog_9_method_20_code 11 = .ok (.invokestatic 79, 3) ∧ 11 + 3 = 14 := by decide +kernel
theorem D_M_turns_14 : decode prog_9_method_20_code 14 = .ok (.ifCond .eq 17, 3) ∧ ((14 : Nat) : Int) + 17 = ((31 : Nat) : Int) ∧ 14 + 3 = 17 := by decide +kernel
theorem D_M_turns_17 : decode prog_9_method_20_code 17 = .ok (.aload_n 0, 1) ∧ 17 + 1 = 18 := by decide +kernel
theorem D_M_turns_18 : decode prog_9_method_20_code 18 = .ok (.bipush 34, 2) ∧ 18 + 2 = 20 := by decide +kernel
theorem D_M_turns_20 : decode prog_9_method_20_code 20 = .ok (.iconst 3, 1) ∧ 20 + 1 = 21 := by decide +kernel
theorem D_M_turns_21 : decode prog_9_method_20_code 21 = .ok (.iload_n 1, 1) ∧ 21 + 1 = 22 := by decide +kernel
theorem D_M_turns_22 : decode prog_9_method_20_code 22 = .ok (.imul, 1) ∧ 22 + 1 = 23 := by decide +kernel
theorem D_M_turns_23 : decode prog_9_method_20_code 23 = .ok (.iadd, 1) ∧ 23 + 1 = 24 := by decide +kernel
theorem D_M_turns_24 : decode prog_9_method_20_code 24 = .ok (.iload_n 2, 1) ∧ 24 + 1 = 25 := by decide +kernel
theorem D_M_turns_25 : decode prog_9_method_20_code 25 = .ok (.invokevirtual 130, 3) ∧ 25 + 3 = 28 := by decide +kernel
theorem D_M_turns_28 : decode prog_9_method_20_code 28 = .ok (.goto 5, 3) ∧ ((28 : Nat) : Int) + 5 = ((33 : Nat) : Int) := by decide +kernel
def f_M_turns (a1 : Int32) (a2 : Int32) (mem : Mm) : Option (Int32 × Mm) := bp (f_M_isMonk a1 mem) fun r_2 => if r_2 = 0 then some ((-1000000001), mem) else bp (f_M_in a2 0 5) fun r_11 => if r_11 = 0 then some ((-1000000001), mem) else bd (f_M_becomes (34 + (3 * a1)) a2 mem) fun r_25 m_25 => some (r_25, m_25)
theorem c_M_turns (l : Launch) (E : En) (a1 : Int32) (a2 : Int32) {mem : Mm} {r : Int32} {m2 : Mm} (h : f_M_turns a1 a2 mem = some (r, m2)) : CtI l E 2 y_M_turns prog_9_method_20_code 3 (some .int) [.ref (eb E + 91), .int a1, .int a2] SH mem r m2 := by
  refine mk_CtI ⟨by decide, (Nat.le_of_ble_eq_true rfl)⟩ (fun X S hl hR => ?_)
  have S : Std X E prog_9_method_20_code R6 3 2 := S
  show J X E 3 0 [(0, .ref (eb E + 91)), (1, .int a1), (2, .int a2)] [] SH mem
  unfold f_M_turns at h
  refine j_aload_n S D_M_turns_0 0 rfl rfl ?_
  refine j_iload_n S D_M_turns_1 1 rfl rfl ?_
  obtain ⟨r_2, e_2, h⟩ := bpE h
  refine j_callVI (As := [.int a1]) S D_M_turns_2 mv_R6_97 (c_M_isMonk (cxL X) E a1 e_2) (by decide) sh_Mod rfl rfl rfl rfl (Nat.le_of_ble_eq_true rfl) ?_
  refine j_if_eq S D_M_turns_5 (fun c_5 => ?_) (fun c_5 => ?_)
  · have h := ifT c_5 h
    refine j_ldc S D_M_turns_31 co_R6_87 ?_
    exact rtM hR h _ _ D_M_turns_33
  · have h := ifF c_5 h
    refine j_iload_n S D_M_turns_8 2 rfl rfl ?_
    refine j_iconst S D_M_turns_9 ci_0 ?_
    refine j_iconst S D_M_turns_10 ci_5 ?_
    obtain ⟨r_11, e_11, h⟩ := bpE h
    refine j_callSI (As := [.int a2, .int 0, .int 5]) S D_M_turns_11 ms_R6_79 (c_M_in (cxL X) E a2 0 5 (mem := mem) e_11) (by decide) rfl rfl (Nat.le_of_ble_eq_true rfl) ?_
    refine j_if_eq S D_M_turns_14 (fun c_14 => ?_) (fun c_14 => ?_)
    · have h := ifT c_14 h
      refine j_ldc S D_M_turns_31 co_R6_87 ?_
      exact rtM hR h _ _ D_M_turns_33
    · have h := ifF c_14 h
      refine j_aload_n S D_M_turns_17 0 rfl rfl ?_
      refine j_bipush S D_M_turns_18 cb_34 ?_
      refine j_iconst S D_M_turns_20 ci_3 ?_
      refine j_iload_n S D_M_turns_21 1 rfl rfl ?_
      refine j_imul S D_M_turns_22 ?_
      refine j_iadd S D_M_turns_23 ?_
      refine j_iload_n S D_M_turns_24 2 rfl rfl ?_
      obtain ⟨r_25, m_25, e_25, h⟩ := bdE h
      refine j_callVI (As := [.int (34 + (3 * a1)), .int a2]) S D_M_turns_25 mv_R6_130 (c_M_becomes (cxL X) E (34 + (3 * a1)) a2 e_25) (by decide) sh_Mod rfl rfl rfl rfl (Nat.le_of_ble_eq_true rfl) ?_
      refine j_goto S D_M_turns_28 ?_
      exact rtM hR h _ _ D_M_turns_33

def y_M_set : MethodName := ⟨"SandPictureModel", "set", "(III)I"⟩
theorem D_M_set_0 : decode prog_9_method_21_code 0 = .ok (.aload_n 0, 1) ∧ 0 + 1 = 1 := by decide +kernel
theorem D_M_set_1 : decode prog_9_method_21_code 1 = .ok (.iload_n 1, 1) ∧ 1 + 1 = 2 := by decide +kernel
theorem D_M_set_2 : decode prog_9_method_21_code 2 = .ok (.invokevirtual 97, 3) ∧ 2 + 3 = 5 := by decide +kernel
theorem D_M_set_5 : decode prog_9_method_21_code 5 = .ok (.ifCond .eq 40, 3) ∧ ((5 : Nat) : Int) + 40 = ((45 : Nat) : Int) ∧ 5 + 3 = 8 := by decide +kernel
theorem D_M_set_45 : decode prog_9_method_21_code 45 = .ok (.ldc 87, 2) ∧ 45 + 2 = 47 := by decide +kernel
theorem D_M_set_47 : decode prog_9_method_21_code 47 = .ok (.ireturn, 1) := by decide +kernel
theorem D_M_set_8 : decode prog_9_method_21_code 8 = .ok (.iload_n 2, 1) ∧ 8 + 1 = 9 := by decide +kernel
theorem D_M_set_9 : decode prog_9_method_21_code 9 = .ok (.iconst 1, 1) ∧ 9 + 1 = 10 := by decide +kernel
theorem D_M_set_10 : decode prog_9_method_21_code 10 = .ok (.iconst 2, 1) ∧ 10 + 1 = 11 := by decide +kernel
theorem D_M_set_11 : decode prog_9_method_21_code 11 = .ok (.invokestatic 79, 3) ∧ 11 + 3 = 14 := by decide +kernel
theorem D_M_set_14 : decode prog_9_method_21_code 14 = .ok (.ifCond .eq 31, 3) ∧ ((14 : Nat) : Int) + 31 = ((45 : Nat) : Int) ∧ 14 + 3 = 17 := by decide +kernel
theorem D_M_set_17 : decode prog_9_method_21_code 17 = .ok (.iload_n 3, 1) ∧ 17 + 1 = 18 := by decide +kernel
theorem D_M_set_18 : decode prog_9_method_21_code 18 = .ok (.iload_n 2, 1) ∧ 18 + 1 = 19 := by decide +kernel
theorem D_M_set_19 : decode prog_9_method_21_code 19 = .ok (.iconst 1, 1) ∧ 19 + 1 = 20 := by decide +kernel
theorem D_M_set_27 : decode prog_9_method_21_code 27 = .ok (.iconst 0, 1) ∧ 27 + 1 = 28 := by decide +kernel
theorem D_M_set_23 : decode prog_9_method_21_code 23 = .ok (.iconst 1, 1) ∧ 23 + 1 = 24 := by decide +kernel
theorem D_M_set_24 : decode prog_9_method_21_code 24 = .ok (.goto 4, 3) ∧ ((24 : Nat) : Int) + 4 = ((28 : Nat) : Int) := by decide +kernel
theorem D_M_set_20 : decode prog_9_method_21_code 20 = .ok (.if_icmp .ne 7, 3) ∧ ((20 : Nat) : Int) + 7 = ((27 : Nat) : Int) ∧ 20 + 3 = 23 := by decide +kernel
theorem D_M_set_28 : decode prog_9_method_21_code 28 = .ok (.iload_n 2, 1) ∧ 28 + 1 = 29 := by decide +kernel
theorem D_M_set_29 : decode prog_9_method_21_code 29 = .ok (.iconst 1, 1) ∧ 29 + 1 = 30 := by decide +kernel
theorem D_M_set_38 : decode prog_9_method_21_code 38 = .ok (.iconst 5, 1) ∧ 38 + 1 = 39 := by decide +kernel
theorem D_M_set_33 : decode prog_9_method_21_code 33 = .ok (.bipush 99, 2) ∧ 33 + 2 = 35 := by decide +kernel
theorem D_M_set_35 : decode prog_9_method_21_code 35 = .ok (.goto 4, 3) ∧ ((35 : Nat) : Int) + 4 = ((39 : Nat) : Int) := by decide +kernel
theorem D_M_set_30 : decode prog_9_method_21_code 30 = .ok (.if_icmp .ne 8, 3) ∧ ((30 : Nat) : Int) + 8 = ((38 : Nat) : Int) ∧ 30 + 3 = 33 := by decide +kernel
theorem D_M_set_39 : decode prog_9_method_21_code 39 = .ok (.invokestatic 79, 3) ∧ 39 + 3 = 42 := by decide +kernel
theorem D_M_set_42 : decode prog_9_method_21_code 42 = .ok (.ifCond .ne 6, 3) ∧ ((42 : Nat) : Int) + 6 = ((48 : Nat) : Int) ∧ 42 + 3 = 45 := by decide +kernel
theorem D_M_set_48 : decode prog_9_method_21_code 48 = .ok (.aload_n 0, 1) ∧ 48 + 1 = 49 := by decide +kernel
theorem D_M_set_49 : decode prog_9_method_21_code 49 = .ok (.bipush 34, 2) ∧ 49 + 2 = 51 := by decide +kernel
theorem D_M_set_51 : decode prog_9_method_21_code 51 = .ok (.iconst 3, 1) ∧ 51 + 1 = 52 := by decide +kernel
theorem D_M_set_52 : decode prog_9_method_21_code 52 = .ok (.iload_n 1, 1) ∧ 52 + 1 = 53 := by decide +kernel
theorem D_M_set_53 : decode prog_9_method_21_code 53 = .ok (.imul, 1) ∧ 53 + 1 = 54 := by decide +kernel
theorem D_M_set_54 : decode prog_9_method_21_code 54 = .ok (.iadd, 1) ∧ 54 + 1 = 55 := by decide +kernel
theorem D_M_set_55 : decode prog_9_method_21_code 55 = .ok (.iload_n 2, 1) ∧ 55 + 1 = 56 := by decide +kernel
theorem D_M_set_56 : decode prog_9_method_21_code 56 = .ok (.iadd, 1) ∧ 56 + 1 = 57 := by decide +kernel
theorem D_M_set_57 : decode prog_9_method_21_code 57 = .ok (.iload_n 3, 1) ∧ 57 + 1 = 58 := by decide +kernel
theorem D_M_set_58 : decode prog_9_method_21_code 58 = .ok (.invokevirtual 130, 3) ∧ 58 + 3 = 61 := by decide +kernel
theorem D_M_set_61 : decode prog_9_method_21_code 61 = .ok (.ireturn, 1) := by decide +kernel
def f_M_set (a1 : Int32) (a2 : Int32) (a3 : Int32) (mem : Mm) : Option (Int32 × Mm) := bp (f_M_isMonk a1 mem) fun r_2 => if r_2 = 0 then some ((-1000000001), mem) else bp (f_M_in a2 1 2) fun r_11 => if r_11 = 0 then some ((-1000000001), mem) else bp (f_M_in a3 (if a2 = 1 then (1 : Int32) else 0) (if a2 = 1 then (99 : Int32) else 5)) fun r_39 => if r_39 = 0 then some ((-1000000001), mem) else bd (f_M_becomes ((34 + (3 * a1)) + a2) a3 mem) fun r_58 m_58 => some (r_58, m_58)
theorem c_M_set (l : Launch) (E : En) (a1 : Int32) (a2 : Int32) (a3 : Int32) {mem : Mm} {r : Int32} {m2 : Mm} (h : f_M_set a1 a2 a3 mem = some (r, m2)) : CtI l E 2 y_M_set prog_9_method_21_code 4 (some .int) [.ref (eb E + 91), .int a1, .int a2, .int a3] SH mem r m2 := by
  refine mk_CtI ⟨by decide, (Nat.le_of_ble_eq_true rfl)⟩ (fun X S hl hR => ?_)
  have S : Std X E prog_9_method_21_code R6 4 2 := S
  show J X E 4 0 [(0, .ref (eb E + 91)), (1, .int a1), (2, .int a2), (3, .int a3)] [] SH mem
  unfold f_M_set at h
  refine j_aload_n S D_M_set_0 0 rfl rfl ?_
  refine j_iload_n S D_M_set_1 1 rfl rfl ?_
  obtain ⟨r_2, e_2, h⟩ := bpE h
  refine j_callVI (As := [.int a1]) S D_M_set_2 mv_R6_97 (c_M_isMonk (cxL X) E a1 e_2) (by decide) sh_Mod rfl rfl rfl rfl (Nat.le_of_ble_eq_true rfl) ?_
  refine j_if_eq S D_M_set_5 (fun c_5 => ?_) (fun c_5 => ?_)
  · have h := ifT c_5 h
    refine j_ldc S D_M_set_45 co_R6_87 ?_
    exact rtM hR h _ _ D_M_set_47
  · have h := ifF c_5 h
    refine j_iload_n S D_M_set_8 2 rfl rfl ?_
    refine j_iconst S D_M_set_9 ci_1 ?_
    refine j_iconst S D_M_set_10 ci_2 ?_
    obtain ⟨r_11, e_11, h⟩ := bpE h
    refine j_callSI (As := [.int a2, .int 1, .int 2]) S D_M_set_11 ms_R6_79 (c_M_in (cxL X) E a2 1 2 (mem := mem) e_11) (by decide) rfl rfl (Nat.le_of_ble_eq_true rfl) ?_
    refine j_if_eq S D_M_set_14 (fun c_14 => ?_) (fun c_14 => ?_)
    · have h := ifT c_14 h
      refine j_ldc S D_M_set_45 co_R6_87 ?_
      exact rtM hR h _ _ D_M_set_47
    · have h := ifF c_14 h
      refine j_iload_n S D_M_set_17 3 rfl rfl ?_
      refine j_iload_n S D_M_set_18 2 rfl rfl ?_
      refine j_iconst S D_M_set_19 ci_1 ?_
      refine j_dia (P := J X E 4 28 [(0, .ref (eb E + 91)), (1, .int a1), (2, .int a2), (3, .int a3)] [.int (if a2 = 1 then (1 : Int32) else 0), .int a3] SH mem) (fun hj => ?_) ?_
      · refine j_icmp_ne S D_M_set_20 (fun c_20 => ?_) (fun c_20 => ?_)
        · refine j_iconst S D_M_set_27 ci_0 ?_
          exact j_jnF hj c_20
        · refine j_iconst S D_M_set_23 ci_1 ?_
          refine j_goto S D_M_set_24 ?_
          exact j_jnT hj c_20
      refine j_iload_n S D_M_set_28 2 rfl rfl ?_
      refine j_iconst S D_M_set_29 ci_1 ?_
      refine j_dia (P := J X E 4 39 [(0, .ref (eb E + 91)), (1, .int a1), (2, .int a2), (3, .int a3)] [.int (if a2 = 1 then (99 : Int32) else 5), .int (if a2 = 1 then (1 : Int32) else 0), .int a3] SH mem) (fun hj => ?_) ?_
      · refine j_icmp_ne S D_M_set_30 (fun c_30 => ?_) (fun c_30 => ?_)
        · refine j_iconst S D_M_set_38 ci_5 ?_
          exact j_jnF hj c_30
        · refine j_bipush S D_M_set_33 cb_99 ?_
          refine j_goto S D_M_set_35 ?_
          exact j_jnT hj c_30
      obtain ⟨r_39, e_39, h⟩ := bpE h
      refine j_callSI (As := [.int a3, .int (if a2 = 1 then (1 : Int32) else 0), .int (if a2 = 1 then (99 : Int32) else 5)]) S D_M_set_39 ms_R6_79 (c_M_in (cxL X) E a3 (if a2 = 1 then (1 : Int32) else 0) (if a2 = 1 then (99 : Int32) else 5) (mem := mem) e_39) (by decide) rfl rfl (Nat.le_of_ble_eq_true rfl) ?_
      refine j_if_ne S D_M_set_42 (fun c_42 => ?_) (fun c_42 => ?_)
      · have h := ifF c_42 h
        refine j_aload_n S D_M_set_48 0 rfl rfl ?_
        refine j_bipush S D_M_set_49 cb_34 ?_
        refine j_iconst S D_M_set_51 ci_3 ?_
        refine j_iload_n S D_M_set_52 1 rfl rfl ?_
        refine j_imul S D_M_set_53 ?_
        refine j_iadd S D_M_set_54 ?_
        refine j_iload_n S D_M_set_55 2 rfl rfl ?_
        refine j_iadd S D_M_set_56 ?_
        refine j_iload_n S D_M_set_57 3 rfl rfl ?_
        obtain ⟨r_58, m_58, e_58, h⟩ := bdE h
        refine j_callVI (As := [.int ((34 + (3 * a1)) + a2), .int a3]) S D_M_set_58 mv_R6_130 (c_M_becomes (cxL X) E ((34 + (3 * a1)) + a2) a3 e_58) (by decide) sh_Mod rfl rfl rfl rfl (Nat.le_of_ble_eq_true rfl) ?_
        exact rtM hR h _ _ D_M_set_61
      · have h := ifT c_42 h
        refine j_ldc S D_M_set_45 co_R6_87 ?_
        exact rtM hR h _ _ D_M_set_47

def y_M_table : MethodName := ⟨"SandPictureModel", "table", "(II)I"⟩
theorem D_M_table_0 : decode prog_9_method_22_code 0 = .ok (.iload_n 1, 1) ∧ 0 + 1 = 1 := by decide +kernel
theorem D_M_table_1 : decode prog_9_method_22_code 1 = .ok (.invokestatic 83, 3) ∧ 1 + 3 = 4 := by decide +kernel
theorem D_M_table_4 : decode prog_9_method_22_code 4 = .ok (.ifCond .eq 21, 3) ∧ ((4 : Nat) : Int) + 21 = ((25 : Nat) : Int) ∧ 4 + 3 = 7 := by decide +kernel
theorem D_M_table_25 : decode prog_9_method_22_code 25 = .ok (.ldc 87, 2) ∧ 25 + 2 = 27 := by decide +kernel
theorem D_M_table_27 : decode prog_9_method_22_code 27 = .ok (.ireturn, 1) := by decide +kernel
theorem D_M_table_7 : decode prog_9_method_22_code 7 = .ok (.iload_n 2, 1) ∧ 7 + 1 = 8 := by decide +kernel
theorem D_M_table_8 : decode prog_9_method_22_code 8 = .ok (.iconst 0, 1) ∧ 8 + 1 = 9 := by decide +kernel
theorem D_M_table_9 : decode prog_9_method_22_code 9 = .ok (.iconst 3, 1) ∧ 9 + 1 = 10 := by decide +kernel
theorem D_M_table_10 : decode prog_9_method_22_code 10 = .ok (.invokestatic 79, 3) ∧ 10 + 3 = 13 := by decide +kernel
theorem D_M_table_13 : decode prog_9_method_22_code 13 = .ok (.ifCond .eq 12, 3) ∧ ((13 : Nat) : Int) + 12 = ((25 : Nat) : Int) ∧ 13 + 3 = 16 := by decide +kernel
theorem D_M_table_16 : decode prog_9_method_22_code 16 = .ok (.aload_n 0, 1) ∧ 16 + 1 = 17 := by decide +kernel
theorem D_M_table_17 : decode prog_9_method_22_code 17 = .ok (.iload_n 1, 1) ∧ 17 + 1 = 18 := by decide +kernel
theorem D_M_table_18 : decode prog_9_method_22_code 18 = .ok (.iload_n 2, 1) ∧ 18 + 1 = 19 := by decide +kernel
theorem D_M_table_19 : decode prog_9_method_22_code 19 = .ok (.invokevirtual 107, 3) ∧ 19 + 3 = 22 := by decide +kernel
theorem D_M_table_22 : decode prog_9_method_22_code 22 = .ok (.goto 5, 3) ∧ ((22 : Nat) : Int) + 5 = ((27 : Nat) : Int) := by decide +kernel
def f_M_table (a1 : Int32) (a2 : Int32) (mem : Mm) : Option (Int32) := bp (f_M_isTable a1) fun r_1 => if r_1 = 0 then some (-1000000001) else bp (f_M_in a2 0 3) fun r_10 => if r_10 = 0 then some (-1000000001) else bp (f_M_at0 a1 a2 mem) fun r_19 => some r_19
theorem c_M_table (l : Launch) (E : En) (a1 : Int32) (a2 : Int32) {mem : Mm} {r : Int32} (h : f_M_table a1 a2 mem = some r) : CtI l E 2 y_M_table prog_9_method_22_code 3 (some .int) [.ref (eb E + 91), .int a1, .int a2] SH mem r mem := by
  refine mk_CtI ⟨by decide, (Nat.le_of_ble_eq_true rfl)⟩ (fun X S hl hR => ?_)
  have S : Std X E prog_9_method_22_code R6 3 2 := S
  show J X E 3 0 [(0, .ref (eb E + 91)), (1, .int a1), (2, .int a2)] [] SH mem
  unfold f_M_table at h
  refine j_iload_n S D_M_table_0 1 rfl rfl ?_
  obtain ⟨r_1, e_1, h⟩ := bpE h
  refine j_callSI (As := [.int a1]) S D_M_table_1 ms_R6_83 (c_M_isTable (cxL X) E a1 (mem := mem) e_1) (by decide) rfl rfl (Nat.le_of_ble_eq_true rfl) ?_
  refine j_if_eq S D_M_table_4 (fun c_4 => ?_) (fun c_4 => ?_)
  · have h := ifT c_4 h
    refine j_ldc S D_M_table_25 co_R6_87 ?_
    exact rtI hR h _ _ D_M_table_27
  · have h := ifF c_4 h
    refine j_iload_n S D_M_table_7 2 rfl rfl ?_
    refine j_iconst S D_M_table_8 ci_0 ?_
    refine j_iconst S D_M_table_9 ci_3 ?_
    obtain ⟨r_10, e_10, h⟩ := bpE h
    refine j_callSI (As := [.int a2, .int 0, .int 3]) S D_M_table_10 ms_R6_79 (c_M_in (cxL X) E a2 0 3 (mem := mem) e_10) (by decide) rfl rfl (Nat.le_of_ble_eq_true rfl) ?_
    refine j_if_eq S D_M_table_13 (fun c_13 => ?_) (fun c_13 => ?_)
    · have h := ifT c_13 h
      refine j_ldc S D_M_table_25 co_R6_87 ?_
      exact rtI hR h _ _ D_M_table_27
    · have h := ifF c_13 h
      refine j_aload_n S D_M_table_16 0 rfl rfl ?_
      refine j_iload_n S D_M_table_17 1 rfl rfl ?_
      refine j_iload_n S D_M_table_18 2 rfl rfl ?_
      obtain ⟨r_19, e_19, h⟩ := bpE h
      refine j_callVI (As := [.int a1, .int a2]) S D_M_table_19 mv_R6_107 (c_M_at0 (cxL X) E a1 a2 e_19) (by decide) sh_Mod rfl rfl rfl rfl (Nat.le_of_ble_eq_true rfl) ?_
      refine j_goto S D_M_table_22 ?_
      exact rtI hR h _ _ D_M_table_27

def y_M_need : MethodName := ⟨"SandPictureModel", "need", "(II)I"⟩
theorem D_M_need_0 : decode prog_9_method_23_code 0 = .ok (.iload_n 1, 1) ∧ 0 + 1 = 1 := by decide +kernel
theorem D_M_need_1 : decode prog_9_method_23_code 1 = .ok (.invokestatic 83, 3) ∧ 1 + 3 = 4 := by decide +kernel
theorem D_M_need_4 : decode prog_9_method_23_code 4 = .ok (.ifCond .eq 28, 3) ∧ ((4 : Nat) : Int) + 28 = ((32 : Nat) : Int) ∧ 4 + 3 = 7 := by decide +kernel
theorem D_M_need_32 : decode prog_9_method_23_code 32 = .ok (.ldc 87, 2) ∧ 32 + 2 = 34 := by decide +kernel
theorem D_M_need_34 : decode prog_9_method_23_code 34 = .ok (.ireturn, 1) := by decide +kernel
theorem D_M_need_7 : decode prog_9_method_23_code 7 = .ok (.iload_n 2, 1) ∧ 7 + 1 = 8 := by decide +kernel
theorem D_M_need_8 : decode prog_9_method_23_code 8 = .ok (.iconst 1, 1) ∧ 8 + 1 = 9 := by decide +kernel
theorem D_M_need_9 : decode prog_9_method_23_code 9 = .ok (.sipush 999, 3) ∧ 9 + 3 = 12 := by decide +kernel
theorem D_M_need_12 : decode prog_9_method_23_code 12 = .ok (.invokestatic 79, 3) ∧ 12 + 3 = 15 := by decide +kernel
theorem D_M_need_15 : decode prog_9_method_23_code 15 = .ok (.ifCond .eq 17, 3) ∧ ((15 : Nat) : Int) + 17 = ((32 : Nat) : Int) ∧ 15 + 3 = 18 := by decide +kernel
theorem D_M_need_18 : decode prog_9_method_23_code 18 = .ok (.aload_n 0, 1) ∧ 18 + 1 = 19 := by decide +kernel
theorem D_M_need_19 : decode prog_9_method_23_code 19 = .ok (.bipush 10, 2) ∧ 19 + 2 = 21 := by decide +kernel
theorem D_M_need_21 : decode prog_9_method_23_code 21 = .ok (.iconst 4, 1) ∧ 21 + 1 = 22 := by decide +kernel
theorem D_M_need_22 : decode prog_9_method_23_code 22 = .ok (.iload_n 1, 1) ∧ 22 + 1 = 23 := by decide +kernel
theorem D_M_need_23 : decode prog_9_method_23_code 23 = .ok (.imul, 1) ∧ 23 + 1 = 24 := by decide +kernel
theorem D_M_need_24 : decode prog_9_method_23_code 24 = .ok (.iadd, 1) ∧ 24 + 1 = 25 := by decide +kernel
theorem D_M_need_25 : decode prog_9_method_23_code 25 = .ok (.iload_n 2, 1) ∧ 25 + 1 = 26 := by decide +kernel
theorem D_M_need_26 : decode prog_9_method_23_code 26 = .ok (.invokevirtual 130, 3) ∧ 26 + 3 = 29 := by decide +kernel
theorem D_M_need_29 : decode prog_9_method_23_code 29 = .ok (.goto 5, 3) ∧ ((29 : Nat) : Int) + 5 = ((34 : Nat) : Int) := by decide +kernel
def f_M_need (a1 : Int32) (a2 : Int32) (mem : Mm) : Option (Int32 × Mm) := bp (f_M_isTable a1) fun r_1 => if r_1 = 0 then some ((-1000000001), mem) else bp (f_M_in a2 1 999) fun r_12 => if r_12 = 0 then some ((-1000000001), mem) else bd (f_M_becomes (10 + (4 * a1)) a2 mem) fun r_26 m_26 => some (r_26, m_26)
theorem c_M_need (l : Launch) (E : En) (a1 : Int32) (a2 : Int32) {mem : Mm} {r : Int32} {m2 : Mm} (h : f_M_need a1 a2 mem = some (r, m2)) : CtI l E 2 y_M_need prog_9_method_23_code 3 (some .int) [.ref (eb E + 91), .int a1, .int a2] SH mem r m2 := by
  refine mk_CtI ⟨by decide, (Nat.le_of_ble_eq_true rfl)⟩ (fun X S hl hR => ?_)
  have S : Std X E prog_9_method_23_code R6 3 2 := S
  show J X E 3 0 [(0, .ref (eb E + 91)), (1, .int a1), (2, .int a2)] [] SH mem
  unfold f_M_need at h
  refine j_iload_n S D_M_need_0 1 rfl rfl ?_
  obtain ⟨r_1, e_1, h⟩ := bpE h
  refine j_callSI (As := [.int a1]) S D_M_need_1 ms_R6_83 (c_M_isTable (cxL X) E a1 (mem := mem) e_1) (by decide) rfl rfl (Nat.le_of_ble_eq_true rfl) ?_
  refine j_if_eq S D_M_need_4 (fun c_4 => ?_) (fun c_4 => ?_)
  · have h := ifT c_4 h
    refine j_ldc S D_M_need_32 co_R6_87 ?_
    exact rtM hR h _ _ D_M_need_34
  · have h := ifF c_4 h
    refine j_iload_n S D_M_need_7 2 rfl rfl ?_
    refine j_iconst S D_M_need_8 ci_1 ?_
    refine j_sipush S D_M_need_9 cs_999 ?_
    obtain ⟨r_12, e_12, h⟩ := bpE h
    refine j_callSI (As := [.int a2, .int 1, .int 999]) S D_M_need_12 ms_R6_79 (c_M_in (cxL X) E a2 1 999 (mem := mem) e_12) (by decide) rfl rfl (Nat.le_of_ble_eq_true rfl) ?_
    refine j_if_eq S D_M_need_15 (fun c_15 => ?_) (fun c_15 => ?_)
    · have h := ifT c_15 h
      refine j_ldc S D_M_need_32 co_R6_87 ?_
      exact rtM hR h _ _ D_M_need_34
    · have h := ifF c_15 h
      refine j_aload_n S D_M_need_18 0 rfl rfl ?_
      refine j_bipush S D_M_need_19 cb_10 ?_
      refine j_iconst S D_M_need_21 ci_4 ?_
      refine j_iload_n S D_M_need_22 1 rfl rfl ?_
      refine j_imul S D_M_need_23 ?_
      refine j_iadd S D_M_need_24 ?_
      refine j_iload_n S D_M_need_25 2 rfl rfl ?_
      obtain ⟨r_26, m_26, e_26, h⟩ := bdE h
      refine j_callVI (As := [.int (10 + (4 * a1)), .int a2]) S D_M_need_26 mv_R6_130 (c_M_becomes (cxL X) E (10 + (4 * a1)) a2 e_26) (by decide) sh_Mod rfl rfl rfl rfl (Nat.le_of_ble_eq_true rfl) ?_
      refine j_goto S D_M_need_29 ?_
      exact rtM hR h _ _ D_M_need_34

def y_M_river : MethodName := ⟨"SandPictureModel", "river", "(II)I"⟩
theorem D_M_river_0 : decode prog_9_method_24_code 0 = .ok (.iload_n 1, 1) ∧ 0 + 1 = 1 := by decide +kernel
theorem D_M_river_1 : decode prog_9_method_24_code 1 = .ok (.iconst 0, 1) ∧ 1 + 1 = 2 := by decide +kernel
theorem D_M_river_2 : decode prog_9_method_24_code 2 = .ok (.iconst 2, 1) ∧ 2 + 1 = 3 := by decide +kernel
theorem D_M_river_3 : decode prog_9_method_24_code 3 = .ok (.invokestatic 79, 3) ∧ 3 + 3 = 6 := by decide +kernel
theorem D_M_river_6 : decode prog_9_method_24_code 6 = .ok (.ifCond .eq 25, 3) ∧ ((6 : Nat) : Int) + 25 = ((31 : Nat) : Int) ∧ 6 + 3 = 9 := by decide +kernel
theorem D_M_river_31 : decode prog_9_method_24_code 31 = .ok (.ldc 87, 2) ∧ 31 + 2 = 33 := by decide +kernel
theorem D_M_river_33 : decode prog_9_method_24_code 33 = .ok (.ireturn, 1) := by decide +kernel
theorem D_M_river_9 : decode prog_9_method_24_code 9 = .ok (.iload_n 2, 1) ∧ 9 + 1 = 10 := by decide +kernel
theorem D_M_river_10 : decode prog_9_method_24_code 10 = .ok (.iconst 0, 1) ∧ 10 + 1 = 11 := by decide +kernel
theorem D_M_river_11 : decode prog_9_method_24_code 11 = .ok (.ldc 133, 2) ∧ 11 + 2 = 13 := by decide +kernel
theorem D_M_river_13 : decode prog_9_method_24_code 13 = .ok (.invokestatic 79, 3) ∧ 13 + 3 = 16 := by decide +kernel
theorem D_M_river_16 : decode prog_9_method_24_code 16 = .ok (.ifCond .eq 15, 3) ∧ ((16 : Nat) : Int) + 15 = ((31 : Nat) : Int) ∧ 16 + 3 = 19 := by decide +kernel
theorem D_M_river_19 : decode prog_9_method_24_code 19 = .ok (.aload_n 0, 1) ∧ 19 + 1 = 20 := by decide +kernel
theorem D_M_river_20 : decode prog_9_method_24_code 20 = .ok (.bipush 7, 2) ∧ 20 + 2 = 22 := by decide +kernel
theorem D_M_river_22 : decode prog_9_method_24_code 22 = .ok (.iload_n 1, 1) ∧ 22 + 1 = 23 := by decide +kernel
theorem D_M_river_23 : decode prog_9_method_24_code 23 = .ok (.iadd, 1) ∧ 23 + 1 = 24 := by decide +kernel
theorem D_M_river_24 : decode prog_9_method_24_code 24 = .ok (.iload_n 2, 1) ∧ 24 + 1 = 25 := by decide +kernel
theorem D_M_river_25 : decode prog_9_method_24_code 25 = .ok (.invokevirtual 130, 3) ∧ 25 + 3 = 28 := by decide +kernel
theorem D_M_river_28 : decode prog_9_method_24_code 28 = .ok (.goto 5, 3) ∧ ((28 : Nat) : Int) + 5 = ((33 : Nat) : Int) := by decide +kernel
def f_M_river (a1 : Int32) (a2 : Int32) (mem : Mm) : Option (Int32 × Mm) := bp (f_M_in a1 0 2) fun r_3 => if r_3 = 0 then some ((-1000000001), mem) else bp (f_M_in a2 0 99999) fun r_13 => if r_13 = 0 then some ((-1000000001), mem) else bd (f_M_becomes (7 + a1) a2 mem) fun r_25 m_25 => some (r_25, m_25)
theorem c_M_river (l : Launch) (E : En) (a1 : Int32) (a2 : Int32) {mem : Mm} {r : Int32} {m2 : Mm} (h : f_M_river a1 a2 mem = some (r, m2)) : CtI l E 1 y_M_river prog_9_method_24_code 3 (some .int) [.ref (eb E + 91), .int a1, .int a2] SH mem r m2 := by
  refine mk_CtI ⟨by decide, (Nat.le_of_ble_eq_true rfl)⟩ (fun X S hl hR => ?_)
  have S : Std X E prog_9_method_24_code R6 3 1 := S
  show J X E 3 0 [(0, .ref (eb E + 91)), (1, .int a1), (2, .int a2)] [] SH mem
  unfold f_M_river at h
  refine j_iload_n S D_M_river_0 1 rfl rfl ?_
  refine j_iconst S D_M_river_1 ci_0 ?_
  refine j_iconst S D_M_river_2 ci_2 ?_
  obtain ⟨r_3, e_3, h⟩ := bpE h
  refine j_callSI (As := [.int a1, .int 0, .int 2]) S D_M_river_3 ms_R6_79 (c_M_in (cxL X) E a1 0 2 (mem := mem) e_3) (by decide) rfl rfl (Nat.le_of_ble_eq_true rfl) ?_
  refine j_if_eq S D_M_river_6 (fun c_6 => ?_) (fun c_6 => ?_)
  · have h := ifT c_6 h
    refine j_ldc S D_M_river_31 co_R6_87 ?_
    exact rtM hR h _ _ D_M_river_33
  · have h := ifF c_6 h
    refine j_iload_n S D_M_river_9 2 rfl rfl ?_
    refine j_iconst S D_M_river_10 ci_0 ?_
    refine j_ldc S D_M_river_11 co_R6_133 ?_
    obtain ⟨r_13, e_13, h⟩ := bpE h
    refine j_callSI (As := [.int a2, .int 0, .int 99999]) S D_M_river_13 ms_R6_79 (c_M_in (cxL X) E a2 0 99999 (mem := mem) e_13) (by decide) rfl rfl (Nat.le_of_ble_eq_true rfl) ?_
    refine j_if_eq S D_M_river_16 (fun c_16 => ?_) (fun c_16 => ?_)
    · have h := ifT c_16 h
      refine j_ldc S D_M_river_31 co_R6_87 ?_
      exact rtM hR h _ _ D_M_river_33
    · have h := ifF c_16 h
      refine j_aload_n S D_M_river_19 0 rfl rfl ?_
      refine j_bipush S D_M_river_20 cb_7 ?_
      refine j_iload_n S D_M_river_22 1 rfl rfl ?_
      refine j_iadd S D_M_river_23 ?_
      refine j_iload_n S D_M_river_24 2 rfl rfl ?_
      obtain ⟨r_25, m_25, e_25, h⟩ := bdE h
      refine j_callVI (As := [.int (7 + a1), .int a2]) S D_M_river_25 mv_R6_130 (c_M_becomes (cxL X) E (7 + a1) a2 e_25) (by decide) sh_Mod rfl rfl rfl rfl (Nat.le_of_ble_eq_true rfl) ?_
      refine j_goto S D_M_river_28 ?_
      exact rtM hR h _ _ D_M_river_33

def y_M_wind : MethodName := ⟨"SandPictureModel", "wind", "(I)I"⟩
theorem D_M_wind_0 : decode prog_9_method_25_code 0 = .ok (.iload_n 1, 1) ∧ 0 + 1 = 1 := by decide +kernel
theorem D_M_wind_1 : decode prog_9_method_25_code 1 = .ok (.iconst 0, 1) ∧ 1 + 1 = 2 := by decide +kernel
theorem D_M_wind_2 : decode prog_9_method_25_code 2 = .ok (.bipush 100, 2) ∧ 2 + 2 = 4 := by decide +kernel
theorem D_M_wind_4 : decode prog_9_method_25_code 4 = .ok (.invokestatic 79, 3) ∧ 4 + 3 = 7 := by decide +kernel
theorem D_M_wind_7 : decode prog_9_method_25_code 7 = .ok (.ifCond .eq 12, 3) ∧ ((7 : Nat) : Int) + 12 = ((19 : Nat) : Int) ∧ 7 + 3 = 10 := by decide +kernel
theorem D_M_wind_19 : decode prog_9_method_25_code 19 = .ok (.ldc 87, 2) ∧ 19 + 2 = 21 := by decide +kernel
theorem D_M_wind_21 : decode prog_9_method_25_code 21 = .ok (.ireturn, 1) := by decide +kernel
theorem D_M_wind_10 : decode prog_9_method_25_code 10 = .ok (.aload_n 0, 1) ∧ 10 + 1 = 11 := by decide +kernel
theorem D_M_wind_11 : decode prog_9_method_25_code 11 = .ok (.iconst 3, 1) ∧ 11 + 1 = 12 := by decide +kernel
theorem D_M_wind_12 : decode prog_9_method_25_code 12 = .ok (.iload_n 1, 1) ∧ 12 + 1 = 13 := by decide +kernel
theorem D_M_wind_13 : decode prog_9_method_25_code 13 = .ok (.invokevirtual 130, 3) ∧ 13 + 3 = 16 := by decide +kernel
theorem D_M_wind_16 : decode prog_9_method_25_code 16 = .ok (.goto 5, 3) ∧ ((16 : Nat) : Int) + 5 = ((21 : Nat) : Int) := by decide +kernel
def f_M_wind (a1 : Int32) (mem : Mm) : Option (Int32 × Mm) := bp (f_M_in a1 0 100) fun r_4 => if r_4 = 0 then some ((-1000000001), mem) else bd (f_M_becomes 3 a1 mem) fun r_13 m_13 => some (r_13, m_13)
theorem c_M_wind (l : Launch) (E : En) (a1 : Int32) {mem : Mm} {r : Int32} {m2 : Mm} (h : f_M_wind a1 mem = some (r, m2)) : CtI l E 1 y_M_wind prog_9_method_25_code 2 (some .int) [.ref (eb E + 91), .int a1] SH mem r m2 := by
  refine mk_CtI ⟨by decide, (Nat.le_of_ble_eq_true rfl)⟩ (fun X S hl hR => ?_)
  have S : Std X E prog_9_method_25_code R6 2 1 := S
  show J X E 2 0 [(0, .ref (eb E + 91)), (1, .int a1)] [] SH mem
  unfold f_M_wind at h
  refine j_iload_n S D_M_wind_0 1 rfl rfl ?_
  refine j_iconst S D_M_wind_1 ci_0 ?_
  refine j_bipush S D_M_wind_2 cb_100 ?_
  obtain ⟨r_4, e_4, h⟩ := bpE h
  refine j_callSI (As := [.int a1, .int 0, .int 100]) S D_M_wind_4 ms_R6_79 (c_M_in (cxL X) E a1 0 100 (mem := mem) e_4) (by decide) rfl rfl (Nat.le_of_ble_eq_true rfl) ?_
  refine j_if_eq S D_M_wind_7 (fun c_7 => ?_) (fun c_7 => ?_)
  · have h := ifT c_7 h
    refine j_ldc S D_M_wind_19 co_R6_87 ?_
    exact rtM hR h _ _ D_M_wind_21
  · have h := ifF c_7 h
    refine j_aload_n S D_M_wind_10 0 rfl rfl ?_
    refine j_iconst S D_M_wind_11 ci_3 ?_
    refine j_iload_n S D_M_wind_12 1 rfl rfl ?_
    obtain ⟨r_13, m_13, e_13, h⟩ := bdE h
    refine j_callVI (As := [.int 3, .int a1]) S D_M_wind_13 mv_R6_130 (c_M_becomes (cxL X) E 3 a1 e_13) (by decide) sh_Mod rfl rfl rfl rfl (Nat.le_of_ble_eq_true rfl) ?_
    refine j_goto S D_M_wind_16 ?_
    exact rtM hR h _ _ D_M_wind_21

def y_M_draw : MethodName := ⟨"SandPictureModel", "draw", "()I"⟩
theorem D_M_draw_0 : decode prog_9_method_26_code 0 = .ok (.aload_n 0, 1) ∧ 0 + 1 = 1 := by decide +kernel
theorem D_M_draw_1 : decode prog_9_method_26_code 1 = .ok (.getfield 9, 3) ∧ 1 + 3 = 4 := by decide +kernel
theorem D_M_draw_4 : decode prog_9_method_26_code 4 = .ok (.iconst 0, 1) ∧ 4 + 1 = 5 := by decide +kernel
theorem D_M_draw_5 : decode prog_9_method_26_code 5 = .ok (.aload_n 0, 1) ∧ 5 + 1 = 6 := by decide +kernel
theorem D_M_draw_6 : decode prog_9_method_26_code 6 = .ok (.getfield 9, 3) ∧ 6 + 3 = 9 := by decide +kernel
theorem D_M_draw_9 : decode prog_9_method_26_code 9 = .ok (.iconst 0, 1) ∧ 9 + 1 = 10 := by decide +kernel
theorem D_M_draw_10 : decode prog_9_method_26_code 10 = .ok (.iaload, 1) ∧ 10 + 1 = 11 := by decide +kernel
theorem D_M_draw_11 : decode prog_9_method_26_code 11 = .ok (.ldc 134, 2) ∧ 11 + 2 = 13 := by decide +kernel
theorem D_M_draw_13 : decode prog_9_method_26_code 13 = .ok (.imul, 1) ∧ 13 + 1 = 14 := by decide +kernel
theorem D_M_draw_14 : decode prog_9_method_26_code 14 = .ok (.sipush 12345, 3) ∧ 14 + 3 = 17 := by decide +kernel
theorem D_M_draw_17 : decode prog_9_method_26_code 17 = .ok (.iadd, 1) ∧ 17 + 1 = 18 := by decide +kernel
theorem D_M_draw_18 : decode prog_9_method_26_code 18 = .ok (.iastore, 1) ∧ 18 + 1 = 19 := by decide +kernel
theorem D_M_draw_19 : decode prog_9_method_26_code 19 = .ok (.aload_n 0, 1) ∧ 19 + 1 = 20 := by decide +kernel
theorem D_M_draw_20 : decode prog_9_method_26_code 20 = .ok (.getfield 9, 3) ∧ 20 + 3 = 23 := by decide +kernel
theorem D_M_draw_23 : decode prog_9_method_26_code 23 = .ok (.iconst 0, 1) ∧ 23 + 1 = 24 := by decide +kernel
theorem D_M_draw_24 : decode prog_9_method_26_code 24 = .ok (.iaload, 1) ∧ 24 + 1 = 25 := by decide +kernel
theorem D_M_draw_25 : decode prog_9_method_26_code 25 = .ok (.bipush 8, 2) ∧ 25 + 2 = 27 := by decide +kernel
theorem D_M_draw_27 : decode prog_9_method_26_code 27 = .ok (.iushr, 1) ∧ 27 + 1 = 28 := by decide +kernel
theorem D_M_draw_28 : decode prog_9_method_26_code 28 = .ok (.ireturn, 1) := by decide +kernel
def f_M_draw  (mem : Mm) : Option (Int32 × Mm) := lt (mst mem 92 (ix 0) (((mem 92 (ix 0)) * 1103515245) + 12345)) fun m_18 => some (((m_18 92 (ix 0)).toUInt32 >>> ((8 : Int32).toUInt32 &&& Int32.toUInt32 31)).toInt32, m_18)
theorem c_M_draw (l : Launch) (E : En)  {mem : Mm} {r : Int32} {m2 : Mm} (h : f_M_draw mem = some (r, m2)) : CtI l E 0 y_M_draw prog_9_method_26_code 1 (some .int) [.ref (eb E + 91)] SH mem r m2 := by
  refine mk_CtI ⟨by decide, (Nat.le_of_ble_eq_true rfl)⟩ (fun X S hl hR => ?_)
  have S : Std X E prog_9_method_26_code R6 1 0 := S
  show J X E 1 0 [(0, .ref (eb E + 91))] [] SH mem
  unfold f_M_draw at h
  refine j_aload_n S D_M_draw_0 0 rfl rfl ?_
  refine j_getR S D_M_draw_1 fl_R6_9 sh_Mod rfl ?_
  refine j_iconst S D_M_draw_4 ci_0 ?_
  refine j_aload_n S D_M_draw_5 0 rfl rfl ?_
  refine j_getR S D_M_draw_6 fl_R6_9 sh_Mod rfl ?_
  refine j_iconst S D_M_draw_9 ci_0 ?_
  refine j_iald S D_M_draw_10 sh_92 inbc_0_1436 ?_
  refine j_ldc S D_M_draw_11 co_R6_134 ?_
  refine j_imul S D_M_draw_13 ?_
  refine j_sipush S D_M_draw_14 cs_12345 ?_
  refine j_iadd S D_M_draw_17 ?_
  obtain ⟨m_18, hm_18, h⟩ := ltE h
  refine j_iast S D_M_draw_18 sh_92 inbc_0_1436 ?_
  refine j_mem hm_18 ?_
  refine j_aload_n S D_M_draw_19 0 rfl rfl ?_
  refine j_getR S D_M_draw_20 fl_R6_9 sh_Mod rfl ?_
  refine j_iconst S D_M_draw_23 ci_0 ?_
  refine j_iald S D_M_draw_24 sh_92 inbc_0_1436 ?_
  refine j_bipush S D_M_draw_25 cb_8 ?_
  refine j_iushr S D_M_draw_27 ?_
  exact rtM hR h _ _ D_M_draw_28

def y_M_deal : MethodName := ⟨"SandPictureModel", "deal", "(I)I"⟩
theorem D_M_deal_0 : decode prog_9_method_27_code 0 = .ok (.iload_n 1, 1) ∧ 0 + 1 = 1 := by decide +kernel
theorem D_M_deal_1 : decode prog_9_method_27_code 1 = .ok (.iconst 1, 1) ∧ 1 + 1 = 2 := by decide +kernel
theorem D_M_deal_2 : decode prog_9_method_27_code 2 = .ok (.bipush 10, 2) ∧ 2 + 2 = 4 := by decide +kernel
theorem D_M_deal_4 : decode prog_9_method_27_code 4 = .ok (.invokestatic 79, 3) ∧ 4 + 3 = 7 := by decide +kernel
theorem D_M_deal_7 : decode prog_9_method_27_code 7 = .ok (.ifCond .ne 6, 3) ∧ ((7 : Nat) : Int) + 6 = ((13 : Nat) : Int) ∧ 7 + 3 = 10 := by decide +kernel
theorem D_M_deal_13 : decode prog_9_method_27_code 13 = .ok (.iconst 0, 1) ∧ 13 + 1 = 14 := by decide +kernel
theorem D_M_deal_14 : decode prog_9_method_27_code 14 = .ok (.istore_n 2, 1) ∧ 14 + 1 = 15 := by decide +kernel
theorem D_M_deal_15 : decode prog_9_method_27_code 15 = .ok (.iload_n 2, 1) ∧ 15 + 1 = 16 := by decide +kernel
theorem D_M_deal_16 : decode prog_9_method_27_code 16 = .ok (.iload_n 1, 1) ∧ 16 + 1 = 17 := by decide +kernel
theorem D_M_deal_17 : decode prog_9_method_27_code 17 = .ok (.if_icmp .ge 55, 3) ∧ ((17 : Nat) : Int) + 55 = ((72 : Nat) : Int) ∧ 17 + 3 = 20 := by decide +kernel
theorem D_M_deal_20 : decode prog_9_method_27_code 20 = .ok (.aload_n 0, 1) ∧ 20 + 1 = 21 := by decide +kernel
theorem D_M_deal_21 : decode prog_9_method_27_code 21 = .ok (.getfield 9, 3) ∧ 21 + 3 = 24 := by decide +kernel
theorem D_M_deal_24 : decode prog_9_method_27_code 24 = .ok (.iconst 1, 1) ∧ 24 + 1 = 25 := by decide +kernel
theorem D_M_deal_25 : decode prog_9_method_27_code 25 = .ok (.iaload, 1) ∧ 25 + 1 = 26 := by decide +kernel
theorem D_M_deal_26 : decode prog_9_method_27_code 26 = .ok (.bipush 10, 2) ∧ 26 + 2 = 28 := by decide +kernel
theorem D_M_deal_28 : decode prog_9_method_27_code 28 = .ok (.if_icmp .ge 44, 3) ∧ ((28 : Nat) : Int) + 44 = ((72 : Nat) : Int) ∧ 28 + 3 = 31 := by decide +kernel
theorem D_M_deal_31 : decode prog_9_method_27_code 31 = .ok (.aload_n 0, 1) ∧ 31 + 1 = 32 := by decide +kernel
theorem D_M_deal_32 : decode prog_9_method_27_code 32 = .ok (.invokevirtual 135, 3) ∧ 32 + 3 = 35 := by decide +kernel
theorem D_M_deal_35 : decode prog_9_method_27_code 35 = .ok (.bipush 6, 2) ∧ 35 + 2 = 37 := by decide +kernel
theorem D_M_deal_37 : decode prog_9_method_27_code 37 = .ok (.irem, 1) ∧ 37 + 1 = 38 := by decide +kernel
theorem D_M_deal_38 : decode prog_9_method_27_code 38 = .ok (.istore_n 3, 1) ∧ 38 + 1 = 39 := by decide +kernel
theorem D_M_deal_39 : decode prog_9_method_27_code 39 = .ok (.iconst 1, 1) ∧ 39 + 1 = 40 := by decide +kernel
theorem D_M_deal_40 : decode prog_9_method_27_code 40 = .ok (.aload_n 0, 1) ∧ 40 + 1 = 41 := by decide +kernel
theorem D_M_deal_41 : decode prog_9_method_27_code 41 = .ok (.invokevirtual 135, 3) ∧ 41 + 3 = 44 := by decide +kernel
theorem D_M_deal_44 : decode prog_9_method_27_code 44 = .ok (.bipush 20, 2) ∧ 44 + 2 = 46 := by decide +kernel
theorem D_M_deal_46 : decode prog_9_method_27_code 46 = .ok (.irem, 1) ∧ 46 + 1 = 47 := by decide +kernel
theorem D_M_deal_47 : decode prog_9_method_27_code 47 = .ok (.iadd, 1) ∧ 47 + 1 = 48 := by decide +kernel
theorem D_M_deal_48 : decode prog_9_method_27_code 48 = .ok (.istore 4, 2) ∧ 48 + 2 = 50 := by decide +kernel
theorem D_M_deal_50 : decode prog_9_method_27_code 50 = .ok (.aload_n 0, 1) ∧ 50 + 1 = 51 := by decide +kernel
theorem D_M_deal_51 : decode prog_9_method_27_code 51 = .ok (.iload_n 3, 1) ∧ 51 + 1 = 52 := by decide +kernel
theorem D_M_deal_52 : decode prog_9_method_27_code 52 = .ok (.iload 4, 2) ∧ 52 + 2 = 54 := by decide +kernel
theorem D_M_deal_54 : decode prog_9_method_27_code 54 = .ok (.aload_n 0, 1) ∧ 54 + 1 = 55 := by decide +kernel
theorem D_M_deal_55 : decode prog_9_method_27_code 55 = .ok (.invokevirtual 135, 3) ∧ 55 + 3 = 58 := by decide +kernel
theorem D_M_deal_58 : decode prog_9_method_27_code 58 = .ok (.bipush 6, 2) ∧ 58 + 2 = 60 := by decide +kernel
theorem D_M_deal_60 : decode prog_9_method_27_code 60 = .ok (.irem, 1) ∧ 60 + 1 = 61 := by decide +kernel
theorem D_M_deal_61 : decode prog_9_method_27_code 61 = .ok (.invokevirtual 89, 3) ∧ 61 + 3 = 64 := by decide +kernel
theorem D_M_deal_64 : decode prog_9_method_27_code 64 = .ok (.istore 5, 2) ∧ 64 + 2 = 66 := by decide +kernel
theorem D_M_deal_66 : decode prog_9_method_27_code 66 = .ok (.iinc 2 1, 3) ∧ 66 + 3 = 69 := by decide +kernel
theorem D_M_deal_69 : decode prog_9_method_27_code 69 = .ok (.goto (-54), 3) ∧ ((69 : Nat) : Int) + (-54) = ((15 : Nat) : Int) := by decide +kernel
theorem D_M_deal_72 : decode prog_9_method_27_code 72 = .ok (.iload_n 2, 1) ∧ 72 + 1 = 73 := by decide +kernel
theorem D_M_deal_73 : decode prog_9_method_27_code 73 = .ok (.ireturn, 1) := by decide +kernel
theorem D_M_deal_10 : decode prog_9_method_27_code 10 = .ok (.ldc 87, 2) ∧ 10 + 2 = 12 := by decide +kernel
theorem D_M_deal_12 : decode prog_9_method_27_code 12 = .ok (.ireturn, 1) := by decide +kernel
def f_M_deal_L15  : Nat → Int32 → Int32 → Mm → Option (Int32 × Mm)
  | 0, _, _, _ => none
  | n + 1, b1, b2, mem => if b1 ≤ b2 then some (b2, mem) else if 10 ≤ mem 92 (ix 1) then some (b2, mem) else bd (f_M_draw mem) fun r_32 m_32 => lt (r_32 - r_32 / 6 * 6) fun x_38 => bd (f_M_draw m_32) fun r_41 m_41 => lt (1 + (r_41 - r_41 / 20 * 20)) fun x_48 => bd (f_M_draw m_41) fun r_55 m_55 => bd (f_M_comes x_38 x_48 (r_55 - r_55 / 6 * 6) m_55) fun r_61 m_61 => f_M_deal_L15 n b1 (b2 + 1) m_61
def f_M_deal (N : Nat) (a1 : Int32) (mem : Mm) : Option (Int32 × Mm) := bp (f_M_in a1 1 10) fun r_4 => if r_4 = 0 then some ((-1000000001), mem) else bd (f_M_deal_L15 N a1 0 mem) fun y_15 m_15 => some (y_15, m_15)
theorem L_M_deal_15 {X : Cx} {E : En} (S : Std X E prog_9_method_27_code R6 6 1)  : ∀ (n : Nat) (b1 : Int32) (b2 : Int32) (mem : Mm) (z : Int32) (m2 : Mm), f_M_deal_L15 n b1 b2 mem = some (z, m2) → J X E 6 72 [(0, .ref (eb E + 91)), (1, .int b1), (2, .int z)] [] SH m2 → J X E 6 15 [(0, .ref (eb E + 91)), (1, .int b1), (2, .int b2)] [] SH mem := by
  intro n
  induction n with
  | zero =>
    intro b1 b2 mem z m2 h hk; cases h
  | succ n ih =>
    intro b1 b2 mem z m2 h hk
    rw [f_M_deal_L15] at h
    refine j_iload_n S D_M_deal_15 2 rfl rfl ?_
    refine j_iload_n S D_M_deal_16 1 rfl rfl ?_
    refine j_icmp_ge S D_M_deal_17 (fun c_17 => ?_) (fun c_17 => ?_)
    · have h := ifT c_17 h
      cases h
      exact j_locals [0, 1, 2] rfl hk
    · have h := ifF c_17 h
      refine j_aload_n S D_M_deal_20 0 rfl rfl ?_
      refine j_getR S D_M_deal_21 fl_R6_9 sh_Mod rfl ?_
      refine j_iconst S D_M_deal_24 ci_1 ?_
      refine j_iald S D_M_deal_25 sh_92 inbc_1_1436 ?_
      refine j_bipush S D_M_deal_26 cb_10 ?_
      refine j_icmp_ge S D_M_deal_28 (fun c_28 => ?_) (fun c_28 => ?_)
      · have h := ifT c_28 h
        cases h
        exact j_locals [0, 1, 2] rfl hk
      · have h := ifF c_28 h
        refine j_aload_n S D_M_deal_31 0 rfl rfl ?_
        obtain ⟨r_32, m_32, e_32, h⟩ := bdE h
        refine j_callVI (As := []) S D_M_deal_32 mv_R6_135 (c_M_draw (cxL X) E e_32) (by decide) sh_Mod rfl rfl rfl rfl (Nat.le_of_ble_eq_true rfl) ?_
        refine j_bipush S D_M_deal_35 cb_6 ?_
        refine j_irem S D_M_deal_37 nz_6 ?_
        obtain ⟨x_38, hx_38, h⟩ := ltE h
        refine j_nm hx_38 ?_
        refine j_istore_n S D_M_deal_38 (lv := [(3, .int x_38), (0, .ref (eb E + 91)), (1, .int b1), (2, .int b2)]) rfl ⟨rfl, (Nat.le_of_ble_eq_true rfl)⟩ ?_
        refine j_iconst S D_M_deal_39 ci_1 ?_
        refine j_aload_n S D_M_deal_40 1 rfl rfl ?_
        obtain ⟨r_41, m_41, e_41, h⟩ := bdE h
        refine j_callVI (As := []) S D_M_deal_41 mv_R6_135 (c_M_draw (cxL X) E e_41) (by decide) sh_Mod rfl rfl rfl rfl (Nat.le_of_ble_eq_true rfl) ?_
        refine j_bipush S D_M_deal_44 cb_20 ?_
        refine j_irem S D_M_deal_46 nz_20 ?_
        refine j_iadd S D_M_deal_47 ?_
        obtain ⟨x_48, hx_48, h⟩ := ltE h
        refine j_nm hx_48 ?_
        refine j_istore S D_M_deal_48 (lv := [(4, .int x_48), (3, .int x_38), (0, .ref (eb E + 91)), (1, .int b1), (2, .int b2)]) rfl (Nat.le_of_ble_eq_true rfl) ?_
        refine j_aload_n S D_M_deal_50 2 rfl rfl ?_
        refine j_iload_n S D_M_deal_51 1 rfl rfl ?_
        refine j_iload S D_M_deal_52 0 rfl ?_
        refine j_aload_n S D_M_deal_54 2 rfl rfl ?_
        obtain ⟨r_55, m_55, e_55, h⟩ := bdE h
        refine j_callVI (As := []) S D_M_deal_55 mv_R6_135 (c_M_draw (cxL X) E e_55) (by decide) sh_Mod rfl rfl rfl rfl (Nat.le_of_ble_eq_true rfl) ?_
        refine j_bipush S D_M_deal_58 cb_6 ?_
        refine j_irem S D_M_deal_60 nz_6 ?_
        obtain ⟨r_61, m_61, e_61, h⟩ := bdE h
        refine j_callVI (As := [.int x_38, .int x_48, .int (r_55 - r_55 / 6 * 6)]) S D_M_deal_61 mv_R6_89 (c_M_comes (cxL X) E x_38 x_48 (r_55 - r_55 / 6 * 6) e_61) (by decide) sh_Mod rfl rfl rfl rfl (Nat.le_of_ble_eq_true rfl) ?_
        refine j_istore S D_M_deal_64 (lv := [(5, .int r_61), (4, .int x_48), (3, .int x_38), (0, .ref (eb E + 91)), (1, .int b1), (2, .int b2)]) rfl (Nat.le_of_ble_eq_true rfl) ?_
        refine j_iinc S D_M_deal_66 5 rfl (congrArg (fun z => b2 + z) ci_1) (lv := [(2, .int (b2 + 1)), (5, .int r_61), (4, .int x_48), (3, .int x_38), (0, .ref (eb E + 91)), (1, .int b1)]) rfl (Nat.le_of_ble_eq_true rfl) ?_
        refine j_goto S D_M_deal_69 ?_
        refine j_locals [4, 5, 0] rfl (ih b1 (b2 + 1) m_61 _ _ h hk)
theorem c_M_deal (l : Launch) (E : En) (N : Nat) (a1 : Int32) {mem : Mm} {r : Int32} {m2 : Mm} (h : f_M_deal N a1 mem = some (r, m2)) : CtI l E 1 y_M_deal prog_9_method_27_code 6 (some .int) [.ref (eb E + 91), .int a1] SH mem r m2 := by
  refine mk_CtI ⟨by decide, (Nat.le_of_ble_eq_true rfl)⟩ (fun X S hl hR => ?_)
  have S : Std X E prog_9_method_27_code R6 6 1 := S
  show J X E 6 0 [(0, .ref (eb E + 91)), (1, .int a1)] [] SH mem
  unfold f_M_deal at h
  refine j_iload_n S D_M_deal_0 1 rfl rfl ?_
  refine j_iconst S D_M_deal_1 ci_1 ?_
  refine j_bipush S D_M_deal_2 cb_10 ?_
  obtain ⟨r_4, e_4, h⟩ := bpE h
  refine j_callSI (As := [.int a1, .int 1, .int 10]) S D_M_deal_4 ms_R6_79 (c_M_in (cxL X) E a1 1 10 (mem := mem) e_4) (by decide) rfl rfl (Nat.le_of_ble_eq_true rfl) ?_
  refine j_if_ne S D_M_deal_7 (fun c_7 => ?_) (fun c_7 => ?_)
  · have h := ifF c_7 h
    refine j_iconst S D_M_deal_13 ci_0 ?_
    refine j_istore_n S D_M_deal_14 (lv := [(2, .int 0), (0, .ref (eb E + 91)), (1, .int a1)]) rfl ⟨rfl, (Nat.le_of_ble_eq_true rfl)⟩ ?_
    refine j_locals [1, 2, 0] rfl ?_
    obtain ⟨y_15, m_15, e_15, h⟩ := bdE h
    refine L_M_deal_15 S  N a1 0 mem _ _ e_15 ?_
    refine j_iload_n S D_M_deal_72 2 rfl rfl ?_
    exact rtM hR h _ _ D_M_deal_73
  · have h := ifT c_7 h
    refine j_ldc S D_M_deal_10 co_R6_87 ?_
    exact rtM hR h _ _ D_M_deal_12

def y_M_seed : MethodName := ⟨"SandPictureModel", "seed", "(I)I"⟩
theorem D_M_seed_0 : decode prog_9_method_28_code 0 = .ok (.aload_n 0, 1) ∧ 0 + 1 = 1 := by decide +kernel
theorem D_M_seed_1 : decode prog_9_method_28_code 1 = .ok (.iconst 0, 1) ∧ 1 + 1 = 2 := by decide +kernel
theorem D_M_seed_2 : decode prog_9_method_28_code 2 = .ok (.iload_n 1, 1) ∧ 2 + 1 = 3 := by decide +kernel
theorem D_M_seed_3 : decode prog_9_method_28_code 3 = .ok (.invokevirtual 130, 3) ∧ 3 + 3 = 6 := by decide +kernel
theorem D_M_seed_6 : decode prog_9_method_28_code 6 = .ok (.ireturn, 1) := by decide +kernel
def f_M_seed (a1 : Int32) (mem : Mm) : Option (Int32 × Mm) := bd (f_M_becomes 0 a1 mem) fun r_3 m_3 => some (r_3, m_3)
theorem c_M_seed (l : Launch) (E : En) (a1 : Int32) {mem : Mm} {r : Int32} {m2 : Mm} (h : f_M_seed a1 mem = some (r, m2)) : CtI l E 1 y_M_seed prog_9_method_28_code 2 (some .int) [.ref (eb E + 91), .int a1] SH mem r m2 := by
  refine mk_CtI ⟨by decide, (Nat.le_of_ble_eq_true rfl)⟩ (fun X S hl hR => ?_)
  have S : Std X E prog_9_method_28_code R6 2 1 := S
  show J X E 2 0 [(0, .ref (eb E + 91)), (1, .int a1)] [] SH mem
  unfold f_M_seed at h
  refine j_aload_n S D_M_seed_0 0 rfl rfl ?_
  refine j_iconst S D_M_seed_1 ci_0 ?_
  refine j_iload_n S D_M_seed_2 1 rfl rfl ?_
  obtain ⟨r_3, m_3, e_3, h⟩ := bdE h
  refine j_callVI (As := [.int 0, .int a1]) S D_M_seed_3 mv_R6_130 (c_M_becomes (cxL X) E 0 a1 e_3) (by decide) sh_Mod rfl rfl rfl rfl (Nat.le_of_ble_eq_true rfl) ?_
  exact rtM hR h _ _ D_M_seed_6

def y_M_pours : MethodName := ⟨"SandPictureModel", "pours", "(II)V"⟩
theorem D_M_pours_0 : decode prog_9_method_29_code 0 = .ok (.aload_n 0, 1) ∧ 0 + 1 = 1 := by decide +kernel
theorem D_M_pours_1 : decode prog_9_method_29_code 1 = .ok (.iload_n 1, 1) ∧ 1 + 1 = 2 := by decide +kernel
theorem D_M_pours_2 : decode prog_9_method_29_code 2 = .ok (.iconst 2, 1) ∧ 2 + 1 = 3 := by decide +kernel
theorem D_M_pours_3 : decode prog_9_method_29_code 3 = .ok (.invokevirtual 93, 3) ∧ 3 + 3 = 6 := by decide +kernel
theorem D_M_pours_6 : decode prog_9_method_29_code 6 = .ok (.istore_n 3, 1) ∧ 6 + 1 = 7 := by decide +kernel
theorem D_M_pours_7 : decode prog_9_method_29_code 7 = .ok (.bipush 7, 2) ∧ 7 + 2 = 9 := by decide +kernel
theorem D_M_pours_9 : decode prog_9_method_29_code 9 = .ok (.iload_n 3, 1) ∧ 9 + 1 = 10 := by decide +kernel
theorem D_M_pours_10 : decode prog_9_method_29_code 10 = .ok (.iconst 3, 1) ∧ 10 + 1 = 11 := by decide +kernel
theorem D_M_pours_11 : decode prog_9_method_29_code 11 = .ok (.irem, 1) ∧ 11 + 1 = 12 := by decide +kernel
theorem D_M_pours_12 : decode prog_9_method_29_code 12 = .ok (.iadd, 1) ∧ 12 + 1 = 13 := by decide +kernel
theorem D_M_pours_13 : decode prog_9_method_29_code 13 = .ok (.istore 4, 2) ∧ 13 + 2 = 15 := by decide +kernel
theorem D_M_pours_15 : decode prog_9_method_29_code 15 = .ok (.aload_n 0, 1) ∧ 15 + 1 = 16 := by decide +kernel
theorem D_M_pours_16 : decode prog_9_method_29_code 16 = .ok (.iload_n 3, 1) ∧ 16 + 1 = 17 := by decide +kernel
theorem D_M_pours_17 : decode prog_9_method_29_code 17 = .ok (.iconst 0, 1) ∧ 17 + 1 = 18 := by decide +kernel
theorem D_M_pours_18 : decode prog_9_method_29_code 18 = .ok (.invokevirtual 107, 3) ∧ 18 + 3 = 21 := by decide +kernel
theorem D_M_pours_21 : decode prog_9_method_29_code 21 = .ok (.aload_n 0, 1) ∧ 21 + 1 = 22 := by decide +kernel
theorem D_M_pours_22 : decode prog_9_method_29_code 22 = .ok (.iload_n 3, 1) ∧ 22 + 1 = 23 := by decide +kernel
theorem D_M_pours_23 : decode prog_9_method_29_code 23 = .ok (.iconst 1, 1) ∧ 23 + 1 = 24 := by decide +kernel
theorem D_M_pours_24 : decode prog_9_method_29_code 24 = .ok (.invokevirtual 107, 3) ∧ 24 + 3 = 27 := by decide +kernel
theorem D_M_pours_27 : decode prog_9_method_29_code 27 = .ok (.isub, 1) ∧ 27 + 1 = 28 := by decide +kernel
theorem D_M_pours_28 : decode prog_9_method_29_code 28 = .ok (.istore 5, 2) ∧ 28 + 2 = 30 := by decide +kernel
theorem D_M_pours_30 : decode prog_9_method_29_code 30 = .ok (.iload_n 1, 1) ∧ 30 + 1 = 31 := by decide +kernel
theorem D_M_pours_31 : decode prog_9_method_29_code 31 = .ok (.aload_n 0, 1) ∧ 31 + 1 = 32 := by decide +kernel
theorem D_M_pours_32 : decode prog_9_method_29_code 32 = .ok (.getfield 19, 3) ∧ 32 + 3 = 35 := by decide +kernel
theorem D_M_pours_35 : decode prog_9_method_29_code 35 = .ok (.if_icmp .ne 7, 3) ∧ ((35 : Nat) : Int) + 7 = ((42 : Nat) : Int) ∧ 35 + 3 = 38 := by decide +kernel
theorem D_M_pours_42 : decode prog_9_method_29_code 42 = .ok (.aload_n 0, 1) ∧ 42 + 1 = 43 := by decide +kernel
theorem D_M_pours_43 : decode prog_9_method_29_code 43 = .ok (.iload_n 1, 1) ∧ 43 + 1 = 44 := by decide +kernel
theorem D_M_pours_44 : decode prog_9_method_29_code 44 = .ok (.iload_n 2, 1) ∧ 44 + 1 = 45 := by decide +kernel
theorem D_M_pours_45 : decode prog_9_method_29_code 45 = .ok (.invokevirtual 119, 3) ∧ 45 + 3 = 48 := by decide +kernel
theorem D_M_pours_48 : decode prog_9_method_29_code 48 = .ok (.istore 6, 2) ∧ 48 + 2 = 50 := by decide +kernel
theorem D_M_pours_50 : decode prog_9_method_29_code 50 = .ok (.iload 6, 2) ∧ 50 + 2 = 52 := by decide +kernel
theorem D_M_pours_52 : decode prog_9_method_29_code 52 = .ok (.aload_n 0, 1) ∧ 52 + 1 = 53 := by decide +kernel
theorem D_M_pours_53 : decode prog_9_method_29_code 53 = .ok (.getfield 9, 3) ∧ 53 + 3 = 56 := by decide +kernel
theorem D_M_pours_56 : decode prog_9_method_29_code 56 = .ok (.iload 4, 2) ∧ 56 + 2 = 58 := by decide +kernel
theorem D_M_pours_58 : decode prog_9_method_29_code 58 = .ok (.iaload, 1) ∧ 58 + 1 = 59 := by decide +kernel
theorem D_M_pours_72 : decode prog_9_method_29_code 72 = .ok (.iload 6, 2) ∧ 72 + 2 = 74 := by decide +kernel
theorem D_M_pours_62 : decode prog_9_method_29_code 62 = .ok (.aload_n 0, 1) ∧ 62 + 1 = 63 := by decide +kernel
theorem D_M_pours_63 : decode prog_9_method_29_code 63 = .ok (.getfield 9, 3) ∧ 63 + 3 = 66 := by decide +kernel
theorem D_M_pours_66 : decode prog_9_method_29_code 66 = .ok (.iload 4, 2) ∧ 66 + 2 = 68 := by decide +kernel
theorem D_M_pours_68 : decode prog_9_method_29_code 68 = .ok (.iaload, 1) ∧ 68 + 1 = 69 := by decide +kernel
theorem D_M_pours_69 : decode prog_9_method_29_code 69 = .ok (.goto 5, 3) ∧ ((69 : Nat) : Int) + 5 = ((74 : Nat) : Int) := by decide +kernel
theorem D_M_pours_59 : decode prog_9_method_29_code 59 = .ok (.if_icmp .le 13, 3) ∧ ((59 : Nat) : Int) + 13 = ((72 : Nat) : Int) ∧ 59 + 3 = 62 := by decide +kernel
theorem D_M_pours_74 : decode prog_9_method_29_code 74 = .ok (.istore 6, 2) ∧ 74 + 2 = 76 := by decide +kernel
theorem D_M_pours_76 : decode prog_9_method_29_code 76 = .ok (.iload 6, 2) ∧ 76 + 2 = 78 := by decide +kernel
theorem D_M_pours_78 : decode prog_9_method_29_code 78 = .ok (.iload 5, 2) ∧ 78 + 2 = 80 := by decide +kernel
theorem D_M_pours_97 : decode prog_9_method_29_code 97 = .ok (.iload 6, 2) ∧ 97 + 2 = 99 := by decide +kernel
theorem D_M_pours_83 : decode prog_9_method_29_code 83 = .ok (.iload 5, 2) ∧ 83 + 2 = 85 := by decide +kernel
theorem D_M_pours_92 : decode prog_9_method_29_code 92 = .ok (.iload 5, 2) ∧ 92 + 2 = 94 := by decide +kernel
theorem D_M_pours_94 : decode prog_9_method_29_code 94 = .ok (.goto 5, 3) ∧ ((94 : Nat) : Int) + 5 = ((99 : Nat) : Int) := by decide +kernel
theorem D_M_pours_88 : decode prog_9_method_29_code 88 = .ok (.iconst 0, 1) ∧ 88 + 1 = 89 := by decide +kernel
theorem D_M_pours_89 : decode prog_9_method_29_code 89 = .ok (.goto 10, 3) ∧ ((89 : Nat) : Int) + 10 = ((99 : Nat) : Int) := by decide +kernel
theorem D_M_pours_85 : decode prog_9_method_29_code 85 = .ok (.ifCond .ge 7, 3) ∧ ((85 : Nat) : Int) + 7 = ((92 : Nat) : Int) ∧ 85 + 3 = 88 := by decide +kernel
theorem D_M_pours_80 : decode prog_9_method_29_code 80 = .ok (.if_icmp .le 17, 3) ∧ ((80 : Nat) : Int) + 17 = ((97 : Nat) : Int) ∧ 80 + 3 = 83 := by decide +kernel
theorem D_M_pours_99 : decode prog_9_method_29_code 99 = .ok (.istore 6, 2) ∧ 99 + 2 = 101 := by decide +kernel
theorem D_M_pours_101 : decode prog_9_method_29_code 101 = .ok (.iload 6, 2) ∧ 101 + 2 = 103 := by decide +kernel
theorem D_M_pours_103 : decode prog_9_method_29_code 103 = .ok (.ifCond .ne 4, 3) ∧ ((103 : Nat) : Int) + 4 = ((107 : Nat) : Int) ∧ 103 + 3 = 106 := by decide +kernel
theorem D_M_pours_107 : decode prog_9_method_29_code 107 = .ok (.aload_n 0, 1) ∧ 107 + 1 = 108 := by decide +kernel
theorem D_M_pours_108 : decode prog_9_method_29_code 108 = .ok (.iload_n 1, 1) ∧ 108 + 1 = 109 := by decide +kernel
theorem D_M_pours_109 : decode prog_9_method_29_code 109 = .ok (.iload 6, 2) ∧ 109 + 2 = 111 := by decide +kernel
theorem D_M_pours_111 : decode prog_9_method_29_code 111 = .ok (.invokevirtual 116, 3) ∧ 111 + 3 = 114 := by decide +kernel
theorem D_M_pours_114 : decode prog_9_method_29_code 114 = .ok (.istore 7, 2) ∧ 114 + 2 = 116 := by decide +kernel
theorem D_M_pours_116 : decode prog_9_method_29_code 116 = .ok (.aload_n 0, 1) ∧ 116 + 1 = 117 := by decide +kernel
theorem D_M_pours_117 : decode prog_9_method_29_code 117 = .ok (.getfield 9, 3) ∧ 117 + 3 = 120 := by decide +kernel
theorem D_M_pours_120 : decode prog_9_method_29_code 120 = .ok (.iload 4, 2) ∧ 120 + 2 = 122 := by decide +kernel
theorem D_M_pours_122 : decode prog_9_method_29_code 122 = .ok (.dup2, 1) ∧ 122 + 1 = 123 := by decide +kernel
theorem D_M_pours_123 : decode prog_9_method_29_code 123 = .ok (.iaload, 1) ∧ 123 + 1 = 124 := by decide +kernel
theorem D_M_pours_124 : decode prog_9_method_29_code 124 = .ok (.iload 6, 2) ∧ 124 + 2 = 126 := by decide +kernel
theorem D_M_pours_126 : decode prog_9_method_29_code 126 = .ok (.isub, 1) ∧ 126 + 1 = 127 := by decide +kernel
theorem D_M_pours_127 : decode prog_9_method_29_code 127 = .ok (.iastore, 1) ∧ 127 + 1 = 128 := by decide +kernel
theorem D_M_pours_128 : decode prog_9_method_29_code 128 = .ok (.aload_n 0, 1) ∧ 128 + 1 = 129 := by decide +kernel
theorem D_M_pours_129 : decode prog_9_method_29_code 129 = .ok (.getfield 9, 3) ∧ 129 + 3 = 132 := by decide +kernel
theorem D_M_pours_132 : decode prog_9_method_29_code 132 = .ok (.iconst 4, 1) ∧ 132 + 1 = 133 := by decide +kernel
theorem D_M_pours_133 : decode prog_9_method_29_code 133 = .ok (.dup2, 1) ∧ 133 + 1 = 134 := by decide +kernel
theorem D_M_pours_134 : decode prog_9_method_29_code 134 = .ok (.iaload, 1) ∧ 134 + 1 = 135 := by decide +kernel
theorem D_M_pours_135 : decode prog_9_method_29_code 135 = .ok (.iload 7, 2) ∧ 135 + 2 = 137 := by decide +kernel
theorem D_M_pours_137 : decode prog_9_method_29_code 137 = .ok (.iadd, 1) ∧ 137 + 1 = 138 := by decide +kernel
theorem D_M_pours_138 : decode prog_9_method_29_code 138 = .ok (.iastore, 1) ∧ 138 + 1 = 139 := by decide +kernel
theorem D_M_pours_139 : decode prog_9_method_29_code 139 = .ok (.aload_n 0, 1) ∧ 139 + 1 = 140 := by decide +kernel
theorem D_M_pours_140 : decode prog_9_method_29_code 140 = .ok (.getfield 9, 3) ∧ 140 + 3 = 143 := by decide +kernel
theorem D_M_pours_143 : decode prog_9_method_29_code 143 = .ok (.bipush 10, 2) ∧ 143 + 2 = 145 := by decide +kernel
theorem D_M_pours_145 : decode prog_9_method_29_code 145 = .ok (.iconst 4, 1) ∧ 145 + 1 = 146 := by decide +kernel
theorem D_M_pours_146 : decode prog_9_method_29_code 146 = .ok (.iload_n 3, 1) ∧ 146 + 1 = 147 := by decide +kernel
theorem D_M_pours_147 : decode prog_9_method_29_code 147 = .ok (.imul, 1) ∧ 147 + 1 = 148 := by decide +kernel
theorem D_M_pours_148 : decode prog_9_method_29_code 148 = .ok (.iadd, 1) ∧ 148 + 1 = 149 := by decide +kernel
theorem D_M_pours_149 : decode prog_9_method_29_code 149 = .ok (.iconst 1, 1) ∧ 149 + 1 = 150 := by decide +kernel
theorem D_M_pours_150 : decode prog_9_method_29_code 150 = .ok (.iadd, 1) ∧ 150 + 1 = 151 := by decide +kernel
theorem D_M_pours_151 : decode prog_9_method_29_code 151 = .ok (.dup2, 1) ∧ 151 + 1 = 152 := by decide +kernel
theorem D_M_pours_152 : decode prog_9_method_29_code 152 = .ok (.iaload, 1) ∧ 152 + 1 = 153 := by decide +kernel
theorem D_M_pours_153 : decode prog_9_method_29_code 153 = .ok (.iload 6, 2) ∧ 153 + 2 = 155 := by decide +kernel
theorem D_M_pours_155 : decode prog_9_method_29_code 155 = .ok (.iload 7, 2) ∧ 155 + 2 = 157 := by decide +kernel
theorem D_M_pours_157 : decode prog_9_method_29_code 157 = .ok (.isub, 1) ∧ 157 + 1 = 158 := by decide +kernel
theorem D_M_pours_158 : decode prog_9_method_29_code 158 = .ok (.iadd, 1) ∧ 158 + 1 = 159 := by decide +kernel
theorem D_M_pours_159 : decode prog_9_method_29_code 159 = .ok (.iastore, 1) ∧ 159 + 1 = 160 := by decide +kernel
theorem D_M_pours_160 : decode prog_9_method_29_code 160 = .ok (.aload_n 0, 1) ∧ 160 + 1 = 161 := by decide +kernel
theorem D_M_pours_161 : decode prog_9_method_29_code 161 = .ok (.getfield 9, 3) ∧ 161 + 3 = 164 := by decide +kernel
theorem D_M_pours_164 : decode prog_9_method_29_code 164 = .ok (.bipush 10, 2) ∧ 164 + 2 = 166 := by decide +kernel
theorem D_M_pours_166 : decode prog_9_method_29_code 166 = .ok (.iconst 4, 1) ∧ 166 + 1 = 167 := by decide +kernel
theorem D_M_pours_167 : decode prog_9_method_29_code 167 = .ok (.iload_n 3, 1) ∧ 167 + 1 = 168 := by decide +kernel
theorem D_M_pours_168 : decode prog_9_method_29_code 168 = .ok (.imul, 1) ∧ 168 + 1 = 169 := by decide +kernel
theorem D_M_pours_169 : decode prog_9_method_29_code 169 = .ok (.iadd, 1) ∧ 169 + 1 = 170 := by decide +kernel
theorem D_M_pours_170 : decode prog_9_method_29_code 170 = .ok (.iconst 2, 1) ∧ 170 + 1 = 171 := by decide +kernel
theorem D_M_pours_171 : decode prog_9_method_29_code 171 = .ok (.iadd, 1) ∧ 171 + 1 = 172 := by decide +kernel
theorem D_M_pours_172 : decode prog_9_method_29_code 172 = .ok (.dup2, 1) ∧ 172 + 1 = 173 := by decide +kernel
theorem D_M_pours_173 : decode prog_9_method_29_code 173 = .ok (.iaload, 1) ∧ 173 + 1 = 174 := by decide +kernel
theorem D_M_pours_174 : decode prog_9_method_29_code 174 = .ok (.aload_n 0, 1) ∧ 174 + 1 = 175 := by decide +kernel
theorem D_M_pours_175 : decode prog_9_method_29_code 175 = .ok (.iload_n 1, 1) ∧ 175 + 1 = 176 := by decide +kernel
theorem D_M_pours_176 : decode prog_9_method_29_code 176 = .ok (.iload 6, 2) ∧ 176 + 2 = 178 := by decide +kernel
theorem D_M_pours_178 : decode prog_9_method_29_code 178 = .ok (.invokevirtual 122, 3) ∧ 178 + 3 = 181 := by decide +kernel
theorem D_M_pours_181 : decode prog_9_method_29_code 181 = .ok (.iadd, 1) ∧ 181 + 1 = 182 := by decide +kernel
theorem D_M_pours_182 : decode prog_9_method_29_code 182 = .ok (.iastore, 1) ∧ 182 + 1 = 183 := by decide +kernel
theorem D_M_pours_183 : decode prog_9_method_29_code 183 = .ok (.return_, 1) := by decide +kernel
theorem D_M_pours_106 : decode prog_9_method_29_code 106 = .ok (.return_, 1) := by decide +kernel
theorem D_M_pours_38 : decode prog_9_method_29_code 38 = .ok (.iconst 0, 1) ∧ 38 + 1 = 39 := by decide +kernel
theorem D_M_pours_39 : decode prog_9_method_29_code 39 = .ok (.goto 9, 3) ∧ ((39 : Nat) : Int) + 9 = ((48 : Nat) : Int) := by decide +kernel
def f_M_pours (N : Nat) (a1 : Int32) (a2 : Int32) (mem : Mm) : Option (Mm) := bp (f_M_of a1 2 mem) fun r_3 => lt (7 + (r_3 - r_3 / 3 * 3)) fun x_13 => bp (f_M_at0 r_3 0 mem) fun r_18 => bp (f_M_at0 r_3 1 mem) fun r_24 => lt (r_18 - r_24) fun x_28 => if a1 = mem 91 4 then if inb x_13 1436 = true then lt (if 0 ≤ mem 92 (ix x_13) then (0 : Int32) else mem 92 (ix x_13)) fun x_74 => lt (if x_74 ≤ x_28 then x_74 else if 0 ≤ x_28 then x_28 else 0) fun x_99 => if x_99 = 0 then some mem else bp (f_M_spills a1 x_99 mem) fun r_111 => lt (mst mem 92 (ix x_13) ((mem 92 (ix x_13)) - x_99)) fun m_127 => lt (mst m_127 92 (ix 4) ((m_127 92 (ix 4)) + r_111)) fun m_138 => if inb ((10 + (4 * r_3)) + 1) 1436 = true then lt (mst m_138 92 (ix ((10 + (4 * r_3)) + 1)) ((m_138 92 (ix ((10 + (4 * r_3)) + 1))) + (x_99 - r_111))) fun m_159 => if inb ((10 + (4 * r_3)) + 2) 1436 = true then bp (f_M_adds a1 x_99 m_159) fun r_178 => lt (mst m_159 92 (ix ((10 + (4 * r_3)) + 2)) ((m_159 92 (ix ((10 + (4 * r_3)) + 2))) + r_178)) fun m_182 => some m_182 else none else none else none else bd (f_M_poursBy N a1 a2 mem) fun r_45 m_45 => if inb x_13 1436 = true then lt (if r_45 ≤ m_45 92 (ix x_13) then r_45 else m_45 92 (ix x_13)) fun x_74 => lt (if x_74 ≤ x_28 then x_74 else if 0 ≤ x_28 then x_28 else 0) fun x_99 => if x_99 = 0 then some m_45 else bp (f_M_spills a1 x_99 m_45) fun r_111 => lt (mst m_45 92 (ix x_13) ((m_45 92 (ix x_13)) - x_99)) fun m_127 => lt (mst m_127 92 (ix 4) ((m_127 92 (ix 4)) + r_111)) fun m_138 => if inb ((10 + (4 * r_3)) + 1) 1436 = true then lt (mst m_138 92 (ix ((10 + (4 * r_3)) + 1)) ((m_138 92 (ix ((10 + (4 * r_3)) + 1))) + (x_99 - r_111))) fun m_159 => if inb ((10 + (4 * r_3)) + 2) 1436 = true then bp (f_M_adds a1 x_99 m_159) fun r_178 => lt (mst m_159 92 (ix ((10 + (4 * r_3)) + 2)) ((m_159 92 (ix ((10 + (4 * r_3)) + 2))) + r_178)) fun m_182 => some m_182 else none else none else none
theorem c_M_pours (l : Launch) (E : En) (N : Nat) (a1 : Int32) (a2 : Int32) {mem : Mm} {m2 : Mm} (h : f_M_pours N a1 a2 mem = some m2) : CtV l E 3 y_M_pours prog_9_method_29_code 8 [.ref (eb E + 91), .int a1, .int a2] SH mem m2 := by
  refine mk_CtV ⟨by decide, (Nat.le_of_ble_eq_true rfl)⟩ (fun X S hl hR => ?_)
  have S : Std X E prog_9_method_29_code R6 8 3 := S
  show J X E 8 0 [(0, .ref (eb E + 91)), (1, .int a1), (2, .int a2)] [] SH mem
  unfold f_M_pours at h
  refine j_aload_n S D_M_pours_0 0 rfl rfl ?_
  refine j_iload_n S D_M_pours_1 1 rfl rfl ?_
  refine j_iconst S D_M_pours_2 ci_2 ?_
  obtain ⟨r_3, e_3, h⟩ := bpE h
  refine j_callVI (As := [.int a1, .int 2]) S D_M_pours_3 mv_R6_93 (c_M_of (cxL X) E a1 2 e_3) (by decide) sh_Mod rfl rfl rfl rfl (Nat.le_of_ble_eq_true rfl) ?_
  refine j_istore_n S D_M_pours_6 (lv := [(3, .int r_3), (0, .ref (eb E + 91)), (1, .int a1), (2, .int a2)]) rfl ⟨rfl, (Nat.le_of_ble_eq_true rfl)⟩ ?_
  refine j_bipush S D_M_pours_7 cb_7 ?_
  refine j_iload_n S D_M_pours_9 0 rfl rfl ?_
  refine j_iconst S D_M_pours_10 ci_3 ?_
  refine j_irem S D_M_pours_11 nz_3 ?_
  refine j_iadd S D_M_pours_12 ?_
  obtain ⟨x_13, hx_13, h⟩ := ltE h
  refine j_nm hx_13 ?_
  refine j_istore S D_M_pours_13 (lv := [(4, .int x_13), (3, .int r_3), (0, .ref (eb E + 91)), (1, .int a1), (2, .int a2)]) rfl (Nat.le_of_ble_eq_true rfl) ?_
  refine j_aload_n S D_M_pours_15 2 rfl rfl ?_
  refine j_iload_n S D_M_pours_16 1 rfl rfl ?_
  refine j_iconst S D_M_pours_17 ci_0 ?_
  obtain ⟨r_18, e_18, h⟩ := bpE h
  refine j_callVI (As := [.int r_3, .int 0]) S D_M_pours_18 mv_R6_107 (c_M_at0 (cxL X) E r_3 0 e_18) (by decide) sh_Mod rfl rfl rfl rfl (Nat.le_of_ble_eq_true rfl) ?_
  refine j_aload_n S D_M_pours_21 2 rfl rfl ?_
  refine j_iload_n S D_M_pours_22 1 rfl rfl ?_
  refine j_iconst S D_M_pours_23 ci_1 ?_
  obtain ⟨r_24, e_24, h⟩ := bpE h
  refine j_callVI (As := [.int r_3, .int 1]) S D_M_pours_24 mv_R6_107 (c_M_at0 (cxL X) E r_3 1 e_24) (by decide) sh_Mod rfl rfl rfl rfl (Nat.le_of_ble_eq_true rfl) ?_
  refine j_isub S D_M_pours_27 ?_
  obtain ⟨x_28, hx_28, h⟩ := ltE h
  refine j_nm hx_28 ?_
  refine j_istore S D_M_pours_28 (lv := [(5, .int x_28), (4, .int x_13), (3, .int r_3), (0, .ref (eb E + 91)), (1, .int a1), (2, .int a2)]) rfl (Nat.le_of_ble_eq_true rfl) ?_
  refine j_iload_n S D_M_pours_30 4 rfl rfl ?_
  refine j_aload_n S D_M_pours_31 3 rfl rfl ?_
  refine j_getI S D_M_pours_32 fl_R6_19 sh_Mod rfl ?_
  refine j_icmp_ne S D_M_pours_35 (fun c_35 => ?_) (fun c_35 => ?_)
  · have h := ifF c_35 h
    refine j_aload_n S D_M_pours_42 3 rfl rfl ?_
    refine j_iload_n S D_M_pours_43 4 rfl rfl ?_
    refine j_iload_n S D_M_pours_44 5 rfl rfl ?_
    obtain ⟨r_45, m_45, e_45, h⟩ := bdE h
    refine j_callVI (As := [.int a1, .int a2]) S D_M_pours_45 mv_R6_119 (c_M_poursBy (cxL X) E N a1 a2 e_45) (by decide) sh_Mod rfl rfl rfl rfl (Nat.le_of_ble_eq_true rfl) ?_
    refine j_istore S D_M_pours_48 (lv := [(6, .int r_45), (5, .int x_28), (4, .int x_13), (3, .int r_3), (0, .ref (eb E + 91)), (1, .int a1), (2, .int a2)]) rfl (Nat.le_of_ble_eq_true rfl) ?_
    refine j_iload S D_M_pours_50 0 rfl ?_
    refine j_aload_n S D_M_pours_52 4 rfl rfl ?_
    refine j_getR S D_M_pours_53 fl_R6_9 sh_Mod rfl ?_
    refine j_iload S D_M_pours_56 2 rfl ?_
    obtain ⟨g_58, h⟩ := gdE h
    refine j_iald S D_M_pours_58 sh_92 g_58 ?_
    refine j_dia (P := J X E 8 74 [(6, .int r_45), (5, .int x_28), (4, .int x_13), (3, .int r_3), (0, .ref (eb E + 91)), (1, .int a1), (2, .int a2)] [.int (if r_45 ≤ m_45 92 (ix x_13) then r_45 else m_45 92 (ix x_13))] SH m_45) (fun hj => ?_) ?_
    · refine j_icmp_le S D_M_pours_59 (fun c_59 => ?_) (fun c_59 => ?_)
      · refine j_iload S D_M_pours_72 0 rfl ?_
        exact j_jnT hj c_59
      · refine j_aload_n S D_M_pours_62 4 rfl rfl ?_
        refine j_getR S D_M_pours_63 fl_R6_9 sh_Mod rfl ?_
        refine j_iload S D_M_pours_66 2 rfl ?_
        refine j_iald S D_M_pours_68 sh_92 g_58 ?_
        refine j_goto S D_M_pours_69 ?_
        exact j_jnF hj c_59
    obtain ⟨x_74, hx_74, h⟩ := ltE h
    refine j_nm hx_74 ?_
    refine j_istore S D_M_pours_74 (lv := [(6, .int x_74), (5, .int x_28), (4, .int x_13), (3, .int r_3), (0, .ref (eb E + 91)), (1, .int a1), (2, .int a2)]) rfl (Nat.le_of_ble_eq_true rfl) ?_
    refine j_iload S D_M_pours_76 0 rfl ?_
    refine j_iload S D_M_pours_78 1 rfl ?_
    refine j_dia (P := J X E 8 99 [(6, .int x_74), (5, .int x_28), (4, .int x_13), (3, .int r_3), (0, .ref (eb E + 91)), (1, .int a1), (2, .int a2)] [.int (if x_74 ≤ x_28 then x_74 else if 0 ≤ x_28 then x_28 else 0)] SH m_45) (fun hj => ?_) ?_
    · refine j_icmp_le S D_M_pours_80 (fun c_80 => ?_) (fun c_80 => ?_)
      · refine j_iload S D_M_pours_97 0 rfl ?_
        exact j_jnT hj c_80
      · refine j_iload S D_M_pours_83 1 rfl ?_
        refine j_dia (P := J X E 8 99 [(6, .int x_74), (5, .int x_28), (4, .int x_13), (3, .int r_3), (0, .ref (eb E + 91)), (1, .int a1), (2, .int a2)] [.int (if 0 ≤ x_28 then x_28 else 0)] SH m_45) (fun hj => ?_) ?_
        · refine j_if_ge S D_M_pours_85 (fun c_85 => ?_) (fun c_85 => ?_)
          · refine j_iload S D_M_pours_92 1 rfl ?_
            refine j_goto S D_M_pours_94 ?_
            exact j_jnT hj c_85
          · refine j_iconst S D_M_pours_88 ci_0 ?_
            refine j_goto S D_M_pours_89 ?_
            exact j_jnF hj c_85
        exact j_jnF hj c_80
    obtain ⟨x_99, hx_99, h⟩ := ltE h
    refine j_nm hx_99 ?_
    refine j_istore S D_M_pours_99 (lv := [(6, .int x_99), (5, .int x_28), (4, .int x_13), (3, .int r_3), (0, .ref (eb E + 91)), (1, .int a1), (2, .int a2)]) rfl (Nat.le_of_ble_eq_true rfl) ?_
    refine j_iload S D_M_pours_101 0 rfl ?_
    refine j_if_ne S D_M_pours_103 (fun c_103 => ?_) (fun c_103 => ?_)
    · have h := ifF c_103 h
      refine j_aload_n S D_M_pours_107 4 rfl rfl ?_
      refine j_iload_n S D_M_pours_108 5 rfl rfl ?_
      refine j_iload S D_M_pours_109 0 rfl ?_
      obtain ⟨r_111, e_111, h⟩ := bpE h
      refine j_callVI (As := [.int a1, .int x_99]) S D_M_pours_111 mv_R6_116 (c_M_spills (cxL X) E a1 x_99 e_111) (by decide) sh_Mod rfl rfl rfl rfl (Nat.le_of_ble_eq_true rfl) ?_
      refine j_istore S D_M_pours_114 (lv := [(7, .int r_111), (6, .int x_99), (5, .int x_28), (4, .int x_13), (3, .int r_3), (0, .ref (eb E + 91)), (1, .int a1), (2, .int a2)]) rfl (Nat.le_of_ble_eq_true rfl) ?_
      refine j_aload_n S D_M_pours_116 5 rfl rfl ?_
      refine j_getR S D_M_pours_117 fl_R6_9 sh_Mod rfl ?_
      refine j_iload S D_M_pours_120 3 rfl ?_
      refine j_dup2 S D_M_pours_122 ⟨rfl, rfl⟩ ?_
      refine j_iald S D_M_pours_123 sh_92 g_58 ?_
      refine j_iload S D_M_pours_124 1 rfl ?_
      refine j_isub S D_M_pours_126 ?_
      obtain ⟨m_127, hm_127, h⟩ := ltE h
      refine j_iast S D_M_pours_127 sh_92 g_58 ?_
      refine j_mem hm_127 ?_
      refine j_aload_n S D_M_pours_128 5 rfl rfl ?_
      refine j_getR S D_M_pours_129 fl_R6_9 sh_Mod rfl ?_
      refine j_iconst S D_M_pours_132 ci_4 ?_
      refine j_dup2 S D_M_pours_133 ⟨rfl, rfl⟩ ?_
      refine j_iald S D_M_pours_134 sh_92 inbc_4_1436 ?_
      refine j_iload S D_M_pours_135 0 rfl ?_
      refine j_iadd S D_M_pours_137 ?_
      obtain ⟨m_138, hm_138, h⟩ := ltE h
      refine j_iast S D_M_pours_138 sh_92 inbc_4_1436 ?_
      refine j_mem hm_138 ?_
      refine j_aload_n S D_M_pours_139 5 rfl rfl ?_
      refine j_getR S D_M_pours_140 fl_R6_9 sh_Mod rfl ?_
      refine j_bipush S D_M_pours_143 cb_10 ?_
      refine j_iconst S D_M_pours_145 ci_4 ?_
      refine j_iload_n S D_M_pours_146 4 rfl rfl ?_
      refine j_imul S D_M_pours_147 ?_
      refine j_iadd S D_M_pours_148 ?_
      refine j_iconst S D_M_pours_149 ci_1 ?_
      refine j_iadd S D_M_pours_150 ?_
      refine j_dup2 S D_M_pours_151 ⟨rfl, rfl⟩ ?_
      obtain ⟨g_152, h⟩ := gdE h
      refine j_iald S D_M_pours_152 sh_92 g_152 ?_
      refine j_iload S D_M_pours_153 1 rfl ?_
      refine j_iload S D_M_pours_155 0 rfl ?_
      refine j_isub S D_M_pours_157 ?_
      refine j_iadd S D_M_pours_158 ?_
      obtain ⟨m_159, hm_159, h⟩ := ltE h
      refine j_iast S D_M_pours_159 sh_92 g_152 ?_
      refine j_mem hm_159 ?_
      refine j_aload_n S D_M_pours_160 5 rfl rfl ?_
      refine j_getR S D_M_pours_161 fl_R6_9 sh_Mod rfl ?_
      refine j_bipush S D_M_pours_164 cb_10 ?_
      refine j_iconst S D_M_pours_166 ci_4 ?_
      refine j_iload_n S D_M_pours_167 4 rfl rfl ?_
      refine j_imul S D_M_pours_168 ?_
      refine j_iadd S D_M_pours_169 ?_
      refine j_iconst S D_M_pours_170 ci_2 ?_
      refine j_iadd S D_M_pours_171 ?_
      refine j_dup2 S D_M_pours_172 ⟨rfl, rfl⟩ ?_
      obtain ⟨g_173, h⟩ := gdE h
      refine j_iald S D_M_pours_173 sh_92 g_173 ?_
      refine j_aload_n S D_M_pours_174 5 rfl rfl ?_
      refine j_iload_n S D_M_pours_175 6 rfl rfl ?_
      refine j_iload S D_M_pours_176 1 rfl ?_
      obtain ⟨r_178, e_178, h⟩ := bpE h
      refine j_callVI (As := [.int a1, .int x_99]) S D_M_pours_178 mv_R6_122 (c_M_adds (cxL X) E a1 x_99 e_178) (by decide) sh_Mod rfl rfl rfl rfl (Nat.le_of_ble_eq_true rfl) ?_
      refine j_iadd S D_M_pours_181 ?_
      obtain ⟨m_182, hm_182, h⟩ := ltE h
      refine j_iast S D_M_pours_182 sh_92 g_173 ?_
      refine j_mem hm_182 ?_
      exact rtV hR h _ _ D_M_pours_183
    · have h := ifT c_103 h
      exact rtV hR h _ _ D_M_pours_106
  · have h := ifT c_35 h
    refine j_iconst S D_M_pours_38 ci_0 ?_
    refine j_goto S D_M_pours_39 ?_
    refine j_istore S D_M_pours_48 (lv := [(6, .int 0), (5, .int x_28), (4, .int x_13), (3, .int r_3), (0, .ref (eb E + 91)), (1, .int a1), (2, .int a2)]) rfl (Nat.le_of_ble_eq_true rfl) ?_
    refine j_iload S D_M_pours_50 0 rfl ?_
    refine j_aload_n S D_M_pours_52 4 rfl rfl ?_
    refine j_getR S D_M_pours_53 fl_R6_9 sh_Mod rfl ?_
    refine j_iload S D_M_pours_56 2 rfl ?_
    obtain ⟨g_58, h⟩ := gdE h
    refine j_iald S D_M_pours_58 sh_92 g_58 ?_
    refine j_dia (P := J X E 8 74 [(6, .int 0), (5, .int x_28), (4, .int x_13), (3, .int r_3), (0, .ref (eb E + 91)), (1, .int a1), (2, .int a2)] [.int (if 0 ≤ mem 92 (ix x_13) then (0 : Int32) else mem 92 (ix x_13))] SH mem) (fun hj => ?_) ?_
    · refine j_icmp_le S D_M_pours_59 (fun c_59 => ?_) (fun c_59 => ?_)
      · refine j_iload S D_M_pours_72 0 rfl ?_
        exact j_jnT hj c_59
      · refine j_aload_n S D_M_pours_62 4 rfl rfl ?_
        refine j_getR S D_M_pours_63 fl_R6_9 sh_Mod rfl ?_
        refine j_iload S D_M_pours_66 2 rfl ?_
        refine j_iald S D_M_pours_68 sh_92 g_58 ?_
        refine j_goto S D_M_pours_69 ?_
        exact j_jnF hj c_59
    obtain ⟨x_74, hx_74, h⟩ := ltE h
    refine j_nm hx_74 ?_
    refine j_istore S D_M_pours_74 (lv := [(6, .int x_74), (5, .int x_28), (4, .int x_13), (3, .int r_3), (0, .ref (eb E + 91)), (1, .int a1), (2, .int a2)]) rfl (Nat.le_of_ble_eq_true rfl) ?_
    refine j_iload S D_M_pours_76 0 rfl ?_
    refine j_iload S D_M_pours_78 1 rfl ?_
    refine j_dia (P := J X E 8 99 [(6, .int x_74), (5, .int x_28), (4, .int x_13), (3, .int r_3), (0, .ref (eb E + 91)), (1, .int a1), (2, .int a2)] [.int (if x_74 ≤ x_28 then x_74 else if 0 ≤ x_28 then x_28 else 0)] SH mem) (fun hj => ?_) ?_
    · refine j_icmp_le S D_M_pours_80 (fun c_80 => ?_) (fun c_80 => ?_)
      · refine j_iload S D_M_pours_97 0 rfl ?_
        exact j_jnT hj c_80
      · refine j_iload S D_M_pours_83 1 rfl ?_
        refine j_dia (P := J X E 8 99 [(6, .int x_74), (5, .int x_28), (4, .int x_13), (3, .int r_3), (0, .ref (eb E + 91)), (1, .int a1), (2, .int a2)] [.int (if 0 ≤ x_28 then x_28 else 0)] SH mem) (fun hj => ?_) ?_
        · refine j_if_ge S D_M_pours_85 (fun c_85 => ?_) (fun c_85 => ?_)
          · refine j_iload S D_M_pours_92 1 rfl ?_
            refine j_goto S D_M_pours_94 ?_
            exact j_jnT hj c_85
          · refine j_iconst S D_M_pours_88 ci_0 ?_
            refine j_goto S D_M_pours_89 ?_
            exact j_jnF hj c_85
        exact j_jnF hj c_80
    obtain ⟨x_99, hx_99, h⟩ := ltE h
    refine j_nm hx_99 ?_
    refine j_istore S D_M_pours_99 (lv := [(6, .int x_99), (5, .int x_28), (4, .int x_13), (3, .int r_3), (0, .ref (eb E + 91)), (1, .int a1), (2, .int a2)]) rfl (Nat.le_of_ble_eq_true rfl) ?_
    refine j_iload S D_M_pours_101 0 rfl ?_
    refine j_if_ne S D_M_pours_103 (fun c_103 => ?_) (fun c_103 => ?_)
    · have h := ifF c_103 h
      refine j_aload_n S D_M_pours_107 4 rfl rfl ?_
      refine j_iload_n S D_M_pours_108 5 rfl rfl ?_
      refine j_iload S D_M_pours_109 0 rfl ?_
      obtain ⟨r_111, e_111, h⟩ := bpE h
      refine j_callVI (As := [.int a1, .int x_99]) S D_M_pours_111 mv_R6_116 (c_M_spills (cxL X) E a1 x_99 e_111) (by decide) sh_Mod rfl rfl rfl rfl (Nat.le_of_ble_eq_true rfl) ?_
      refine j_istore S D_M_pours_114 (lv := [(7, .int r_111), (6, .int x_99), (5, .int x_28), (4, .int x_13), (3, .int r_3), (0, .ref (eb E + 91)), (1, .int a1), (2, .int a2)]) rfl (Nat.le_of_ble_eq_true rfl) ?_
      refine j_aload_n S D_M_pours_116 5 rfl rfl ?_
      refine j_getR S D_M_pours_117 fl_R6_9 sh_Mod rfl ?_
      refine j_iload S D_M_pours_120 3 rfl ?_
      refine j_dup2 S D_M_pours_122 ⟨rfl, rfl⟩ ?_
      refine j_iald S D_M_pours_123 sh_92 g_58 ?_
      refine j_iload S D_M_pours_124 1 rfl ?_
      refine j_isub S D_M_pours_126 ?_
      obtain ⟨m_127, hm_127, h⟩ := ltE h
      refine j_iast S D_M_pours_127 sh_92 g_58 ?_
      refine j_mem hm_127 ?_
      refine j_aload_n S D_M_pours_128 5 rfl rfl ?_
      refine j_getR S D_M_pours_129 fl_R6_9 sh_Mod rfl ?_
      refine j_iconst S D_M_pours_132 ci_4 ?_
      refine j_dup2 S D_M_pours_133 ⟨rfl, rfl⟩ ?_
      refine j_iald S D_M_pours_134 sh_92 inbc_4_1436 ?_
      refine j_iload S D_M_pours_135 0 rfl ?_
      refine j_iadd S D_M_pours_137 ?_
      obtain ⟨m_138, hm_138, h⟩ := ltE h
      refine j_iast S D_M_pours_138 sh_92 inbc_4_1436 ?_
      refine j_mem hm_138 ?_
      refine j_aload_n S D_M_pours_139 5 rfl rfl ?_
      refine j_getR S D_M_pours_140 fl_R6_9 sh_Mod rfl ?_
      refine j_bipush S D_M_pours_143 cb_10 ?_
      refine j_iconst S D_M_pours_145 ci_4 ?_
      refine j_iload_n S D_M_pours_146 4 rfl rfl ?_
      refine j_imul S D_M_pours_147 ?_
      refine j_iadd S D_M_pours_148 ?_
      refine j_iconst S D_M_pours_149 ci_1 ?_
      refine j_iadd S D_M_pours_150 ?_
      refine j_dup2 S D_M_pours_151 ⟨rfl, rfl⟩ ?_
      obtain ⟨g_152, h⟩ := gdE h
      refine j_iald S D_M_pours_152 sh_92 g_152 ?_
      refine j_iload S D_M_pours_153 1 rfl ?_
      refine j_iload S D_M_pours_155 0 rfl ?_
      refine j_isub S D_M_pours_157 ?_
      refine j_iadd S D_M_pours_158 ?_
      obtain ⟨m_159, hm_159, h⟩ := ltE h
      refine j_iast S D_M_pours_159 sh_92 g_152 ?_
      refine j_mem hm_159 ?_
      refine j_aload_n S D_M_pours_160 5 rfl rfl ?_
      refine j_getR S D_M_pours_161 fl_R6_9 sh_Mod rfl ?_
      refine j_bipush S D_M_pours_164 cb_10 ?_
      refine j_iconst S D_M_pours_166 ci_4 ?_
      refine j_iload_n S D_M_pours_167 4 rfl rfl ?_
      refine j_imul S D_M_pours_168 ?_
      refine j_iadd S D_M_pours_169 ?_
      refine j_iconst S D_M_pours_170 ci_2 ?_
      refine j_iadd S D_M_pours_171 ?_
      refine j_dup2 S D_M_pours_172 ⟨rfl, rfl⟩ ?_
      obtain ⟨g_173, h⟩ := gdE h
      refine j_iald S D_M_pours_173 sh_92 g_173 ?_
      refine j_aload_n S D_M_pours_174 5 rfl rfl ?_
      refine j_iload_n S D_M_pours_175 6 rfl rfl ?_
      refine j_iload S D_M_pours_176 1 rfl ?_
      obtain ⟨r_178, e_178, h⟩ := bpE h
      refine j_callVI (As := [.int a1, .int x_99]) S D_M_pours_178 mv_R6_122 (c_M_adds (cxL X) E a1 x_99 e_178) (by decide) sh_Mod rfl rfl rfl rfl (Nat.le_of_ble_eq_true rfl) ?_
      refine j_iadd S D_M_pours_181 ?_
      obtain ⟨m_182, hm_182, h⟩ := ltE h
      refine j_iast S D_M_pours_182 sh_92 g_173 ?_
      refine j_mem hm_182 ?_
      exact rtV hR h _ _ D_M_pours_183
    · have h := ifT c_103 h
      exact rtV hR h _ _ D_M_pours_106

def y_M_blows : MethodName := ⟨"SandPictureModel", "blows", "()V"⟩
theorem D_M_blows_0 : decode prog_9_method_30_code 0 = .ok (.aload_n 0, 1) ∧ 0 + 1 = 1 := by decide +kernel
theorem D_M_blows_1 : decode prog_9_method_30_code 1 = .ok (.invokevirtual 135, 3) ∧ 1 + 3 = 4 := by decide +kernel
theorem D_M_blows_4 : decode prog_9_method_30_code 4 = .ok (.bipush 6, 2) ∧ 4 + 2 = 6 := by decide +kernel
theorem D_M_blows_6 : decode prog_9_method_30_code 6 = .ok (.irem, 1) ∧ 6 + 1 = 7 := by decide +kernel
theorem D_M_blows_7 : decode prog_9_method_30_code 7 = .ok (.istore_n 1, 1) ∧ 7 + 1 = 8 := by decide +kernel
theorem D_M_blows_8 : decode prog_9_method_30_code 8 = .ok (.iload_n 1, 1) ∧ 8 + 1 = 9 := by decide +kernel
theorem D_M_blows_9 : decode prog_9_method_30_code 9 = .ok (.iconst 1, 1) ∧ 9 + 1 = 10 := by decide +kernel
theorem D_M_blows_10 : decode prog_9_method_30_code 10 = .ok (.iadd, 1) ∧ 10 + 1 = 11 := by decide +kernel
theorem D_M_blows_11 : decode prog_9_method_30_code 11 = .ok (.bipush 6, 2) ∧ 11 + 2 = 13 := by decide +kernel
theorem D_M_blows_13 : decode prog_9_method_30_code 13 = .ok (.irem, 1) ∧ 13 + 1 = 14 := by decide +kernel
theorem D_M_blows_14 : decode prog_9_method_30_code 14 = .ok (.istore_n 2, 1) ∧ 14 + 1 = 15 := by decide +kernel
theorem D_M_blows_15 : decode prog_9_method_30_code 15 = .ok (.aload_n 0, 1) ∧ 15 + 1 = 16 := by decide +kernel
theorem D_M_blows_16 : decode prog_9_method_30_code 16 = .ok (.iload_n 1, 1) ∧ 16 + 1 = 17 := by decide +kernel
theorem D_M_blows_17 : decode prog_9_method_30_code 17 = .ok (.iconst 1, 1) ∧ 17 + 1 = 18 := by decide +kernel
theorem D_M_blows_18 : decode prog_9_method_30_code 18 = .ok (.invokevirtual 107, 3) ∧ 18 + 3 = 21 := by decide +kernel
theorem D_M_blows_21 : decode prog_9_method_30_code 21 = .ok (.bipush 10, 2) ∧ 21 + 2 = 23 := by decide +kernel
theorem D_M_blows_23 : decode prog_9_method_30_code 23 = .ok (.idiv, 1) ∧ 23 + 1 = 24 := by decide +kernel
theorem D_M_blows_24 : decode prog_9_method_30_code 24 = .ok (.istore_n 3, 1) ∧ 24 + 1 = 25 := by decide +kernel
theorem D_M_blows_25 : decode prog_9_method_30_code 25 = .ok (.aload_n 0, 1) ∧ 25 + 1 = 26 := by decide +kernel
theorem D_M_blows_26 : decode prog_9_method_30_code 26 = .ok (.getfield 9, 3) ∧ 26 + 3 = 29 := by decide +kernel
theorem D_M_blows_29 : decode prog_9_method_30_code 29 = .ok (.bipush 10, 2) ∧ 29 + 2 = 31 := by decide +kernel
theorem D_M_blows_31 : decode prog_9_method_30_code 31 = .ok (.iconst 4, 1) ∧ 31 + 1 = 32 := by decide +kernel
theorem D_M_blows_32 : decode prog_9_method_30_code 32 = .ok (.iload_n 1, 1) ∧ 32 + 1 = 33 := by decide +kernel
theorem D_M_blows_33 : decode prog_9_method_30_code 33 = .ok (.imul, 1) ∧ 33 + 1 = 34 := by decide +kernel
theorem D_M_blows_34 : decode prog_9_method_30_code 34 = .ok (.iadd, 1) ∧ 34 + 1 = 35 := by decide +kernel
theorem D_M_blows_35 : decode prog_9_method_30_code 35 = .ok (.iconst 1, 1) ∧ 35 + 1 = 36 := by decide +kernel
theorem D_M_blows_36 : decode prog_9_method_30_code 36 = .ok (.iadd, 1) ∧ 36 + 1 = 37 := by decide +kernel
theorem D_M_blows_37 : decode prog_9_method_30_code 37 = .ok (.dup2, 1) ∧ 37 + 1 = 38 := by decide +kernel
theorem D_M_blows_38 : decode prog_9_method_30_code 38 = .ok (.iaload, 1) ∧ 38 + 1 = 39 := by decide +kernel
theorem D_M_blows_39 : decode prog_9_method_30_code 39 = .ok (.iload_n 3, 1) ∧ 39 + 1 = 40 := by decide +kernel
theorem D_M_blows_40 : decode prog_9_method_30_code 40 = .ok (.isub, 1) ∧ 40 + 1 = 41 := by decide +kernel
theorem D_M_blows_41 : decode prog_9_method_30_code 41 = .ok (.iastore, 1) ∧ 41 + 1 = 42 := by decide +kernel
theorem D_M_blows_42 : decode prog_9_method_30_code 42 = .ok (.aload_n 0, 1) ∧ 42 + 1 = 43 := by decide +kernel
theorem D_M_blows_43 : decode prog_9_method_30_code 43 = .ok (.getfield 9, 3) ∧ 43 + 3 = 46 := by decide +kernel
theorem D_M_blows_46 : decode prog_9_method_30_code 46 = .ok (.bipush 10, 2) ∧ 46 + 2 = 48 := by decide +kernel
theorem D_M_blows_48 : decode prog_9_method_30_code 48 = .ok (.iconst 4, 1) ∧ 48 + 1 = 49 := by decide +kernel
theorem D_M_blows_49 : decode prog_9_method_30_code 49 = .ok (.iload_n 2, 1) ∧ 49 + 1 = 50 := by decide +kernel
theorem D_M_blows_50 : decode prog_9_method_30_code 50 = .ok (.imul, 1) ∧ 50 + 1 = 51 := by decide +kernel
theorem D_M_blows_51 : decode prog_9_method_30_code 51 = .ok (.iadd, 1) ∧ 51 + 1 = 52 := by decide +kernel
theorem D_M_blows_52 : decode prog_9_method_30_code 52 = .ok (.iconst 1, 1) ∧ 52 + 1 = 53 := by decide +kernel
theorem D_M_blows_53 : decode prog_9_method_30_code 53 = .ok (.iadd, 1) ∧ 53 + 1 = 54 := by decide +kernel
theorem D_M_blows_54 : decode prog_9_method_30_code 54 = .ok (.dup2, 1) ∧ 54 + 1 = 55 := by decide +kernel
theorem D_M_blows_55 : decode prog_9_method_30_code 55 = .ok (.iaload, 1) ∧ 55 + 1 = 56 := by decide +kernel
theorem D_M_blows_56 : decode prog_9_method_30_code 56 = .ok (.iload_n 3, 1) ∧ 56 + 1 = 57 := by decide +kernel
theorem D_M_blows_57 : decode prog_9_method_30_code 57 = .ok (.iadd, 1) ∧ 57 + 1 = 58 := by decide +kernel
theorem D_M_blows_58 : decode prog_9_method_30_code 58 = .ok (.iastore, 1) ∧ 58 + 1 = 59 := by decide +kernel
theorem D_M_blows_59 : decode prog_9_method_30_code 59 = .ok (.aload_n 0, 1) ∧ 59 + 1 = 60 := by decide +kernel
theorem D_M_blows_60 : decode prog_9_method_30_code 60 = .ok (.getfield 9, 3) ∧ 60 + 3 = 63 := by decide +kernel
theorem D_M_blows_63 : decode prog_9_method_30_code 63 = .ok (.bipush 10, 2) ∧ 63 + 2 = 65 := by decide +kernel
theorem D_M_blows_65 : decode prog_9_method_30_code 65 = .ok (.iconst 4, 1) ∧ 65 + 1 = 66 := by decide +kernel
theorem D_M_blows_66 : decode prog_9_method_30_code 66 = .ok (.iload_n 2, 1) ∧ 66 + 1 = 67 := by decide +kernel
theorem D_M_blows_67 : decode prog_9_method_30_code 67 = .ok (.imul, 1) ∧ 67 + 1 = 68 := by decide +kernel
theorem D_M_blows_68 : decode prog_9_method_30_code 68 = .ok (.iadd, 1) ∧ 68 + 1 = 69 := by decide +kernel
theorem D_M_blows_69 : decode prog_9_method_30_code 69 = .ok (.iconst 2, 1) ∧ 69 + 1 = 70 := by decide +kernel
theorem D_M_blows_70 : decode prog_9_method_30_code 70 = .ok (.iadd, 1) ∧ 70 + 1 = 71 := by decide +kernel
theorem D_M_blows_71 : decode prog_9_method_30_code 71 = .ok (.dup2, 1) ∧ 71 + 1 = 72 := by decide +kernel
theorem D_M_blows_72 : decode prog_9_method_30_code 72 = .ok (.iaload, 1) ∧ 72 + 1 = 73 := by decide +kernel
theorem D_M_blows_73 : decode prog_9_method_30_code 73 = .ok (.iload_n 3, 1) ∧ 73 + 1 = 74 := by decide +kernel
theorem D_M_blows_81 : decode prog_9_method_30_code 81 = .ok (.iconst 0, 1) ∧ 81 + 1 = 82 := by decide +kernel
theorem D_M_blows_77 : decode prog_9_method_30_code 77 = .ok (.iconst 1, 1) ∧ 77 + 1 = 78 := by decide +kernel
theorem D_M_blows_78 : decode prog_9_method_30_code 78 = .ok (.goto 4, 3) ∧ ((78 : Nat) : Int) + 4 = ((82 : Nat) : Int) := by decide +kernel
theorem D_M_blows_74 : decode prog_9_method_30_code 74 = .ok (.ifCond .le 7, 3) ∧ ((74 : Nat) : Int) + 7 = ((81 : Nat) : Int) ∧ 74 + 3 = 77 := by decide +kernel
theorem D_M_blows_82 : decode prog_9_method_30_code 82 = .ok (.iadd, 1) ∧ 82 + 1 = 83 := by decide +kernel
theorem D_M_blows_83 : decode prog_9_method_30_code 83 = .ok (.iastore, 1) ∧ 83 + 1 = 84 := by decide +kernel
theorem D_M_blows_84 : decode prog_9_method_30_code 84 = .ok (.return_, 1) := by decide +kernel
def f_M_blows  (mem : Mm) : Option (Mm) := bd (f_M_draw mem) fun r_1 m_1 => lt (r_1 - r_1 / 6 * 6) fun x_7 => lt ((x_7 + 1) - (x_7 + 1) / 6 * 6) fun x_14 => bp (f_M_at0 x_7 1 m_1) fun r_18 => lt (r_18 / 10) fun x_24 => if inb ((10 + (4 * x_7)) + 1) 1436 = true then lt (mst m_1 92 (ix ((10 + (4 * x_7)) + 1)) ((m_1 92 (ix ((10 + (4 * x_7)) + 1))) - x_24)) fun m_41 => if inb ((10 + (4 * x_14)) + 1) 1436 = true then lt (mst m_41 92 (ix ((10 + (4 * x_14)) + 1)) ((m_41 92 (ix ((10 + (4 * x_14)) + 1))) + x_24)) fun m_58 => if inb ((10 + (4 * x_14)) + 2) 1436 = true then lt (mst m_58 92 (ix ((10 + (4 * x_14)) + 2)) ((m_58 92 (ix ((10 + (4 * x_14)) + 2))) + (if x_24 ≤ 0 then (0 : Int32) else 1))) fun m_83 => some m_83 else none else none else none
theorem c_M_blows (l : Launch) (E : En)  {mem : Mm} {m2 : Mm} (h : f_M_blows mem = some m2) : CtV l E 1 y_M_blows prog_9_method_30_code 4 [.ref (eb E + 91)] SH mem m2 := by
  refine mk_CtV ⟨by decide, (Nat.le_of_ble_eq_true rfl)⟩ (fun X S hl hR => ?_)
  have S : Std X E prog_9_method_30_code R6 4 1 := S
  show J X E 4 0 [(0, .ref (eb E + 91))] [] SH mem
  unfold f_M_blows at h
  refine j_aload_n S D_M_blows_0 0 rfl rfl ?_
  obtain ⟨r_1, m_1, e_1, h⟩ := bdE h
  refine j_callVI (As := []) S D_M_blows_1 mv_R6_135 (c_M_draw (cxL X) E e_1) (by decide) sh_Mod rfl rfl rfl rfl (Nat.le_of_ble_eq_true rfl) ?_
  refine j_bipush S D_M_blows_4 cb_6 ?_
  refine j_irem S D_M_blows_6 nz_6 ?_
  obtain ⟨x_7, hx_7, h⟩ := ltE h
  refine j_nm hx_7 ?_
  refine j_istore_n S D_M_blows_7 (lv := [(1, .int x_7), (0, .ref (eb E + 91))]) rfl ⟨rfl, (Nat.le_of_ble_eq_true rfl)⟩ ?_
  refine j_iload_n S D_M_blows_8 0 rfl rfl ?_
  refine j_iconst S D_M_blows_9 ci_1 ?_
  refine j_iadd S D_M_blows_10 ?_
  refine j_bipush S D_M_blows_11 cb_6 ?_
  refine j_irem S D_M_blows_13 nz_6 ?_
  obtain ⟨x_14, hx_14, h⟩ := ltE h
  refine j_nm hx_14 ?_
  refine j_istore_n S D_M_blows_14 (lv := [(2, .int x_14), (1, .int x_7), (0, .ref (eb E + 91))]) rfl ⟨rfl, (Nat.le_of_ble_eq_true rfl)⟩ ?_
  refine j_aload_n S D_M_blows_15 2 rfl rfl ?_
  refine j_iload_n S D_M_blows_16 1 rfl rfl ?_
  refine j_iconst S D_M_blows_17 ci_1 ?_
  obtain ⟨r_18, e_18, h⟩ := bpE h
  refine j_callVI (As := [.int x_7, .int 1]) S D_M_blows_18 mv_R6_107 (c_M_at0 (cxL X) E x_7 1 e_18) (by decide) sh_Mod rfl rfl rfl rfl (Nat.le_of_ble_eq_true rfl) ?_
  refine j_bipush S D_M_blows_21 cb_10 ?_
  refine j_idiv S D_M_blows_23 nz_10 ?_
  obtain ⟨x_24, hx_24, h⟩ := ltE h
  refine j_nm hx_24 ?_
  refine j_istore_n S D_M_blows_24 (lv := [(3, .int x_24), (2, .int x_14), (1, .int x_7), (0, .ref (eb E + 91))]) rfl ⟨rfl, (Nat.le_of_ble_eq_true rfl)⟩ ?_
  refine j_aload_n S D_M_blows_25 3 rfl rfl ?_
  refine j_getR S D_M_blows_26 fl_R6_9 sh_Mod rfl ?_
  refine j_bipush S D_M_blows_29 cb_10 ?_
  refine j_iconst S D_M_blows_31 ci_4 ?_
  refine j_iload_n S D_M_blows_32 2 rfl rfl ?_
  refine j_imul S D_M_blows_33 ?_
  refine j_iadd S D_M_blows_34 ?_
  refine j_iconst S D_M_blows_35 ci_1 ?_
  refine j_iadd S D_M_blows_36 ?_
  refine j_dup2 S D_M_blows_37 ⟨rfl, rfl⟩ ?_
  obtain ⟨g_38, h⟩ := gdE h
  refine j_iald S D_M_blows_38 sh_92 g_38 ?_
  refine j_iload_n S D_M_blows_39 0 rfl rfl ?_
  refine j_isub S D_M_blows_40 ?_
  obtain ⟨m_41, hm_41, h⟩ := ltE h
  refine j_iast S D_M_blows_41 sh_92 g_38 ?_
  refine j_mem hm_41 ?_
  refine j_aload_n S D_M_blows_42 3 rfl rfl ?_
  refine j_getR S D_M_blows_43 fl_R6_9 sh_Mod rfl ?_
  refine j_bipush S D_M_blows_46 cb_10 ?_
  refine j_iconst S D_M_blows_48 ci_4 ?_
  refine j_iload_n S D_M_blows_49 1 rfl rfl ?_
  refine j_imul S D_M_blows_50 ?_
  refine j_iadd S D_M_blows_51 ?_
  refine j_iconst S D_M_blows_52 ci_1 ?_
  refine j_iadd S D_M_blows_53 ?_
  refine j_dup2 S D_M_blows_54 ⟨rfl, rfl⟩ ?_
  obtain ⟨g_55, h⟩ := gdE h
  refine j_iald S D_M_blows_55 sh_92 g_55 ?_
  refine j_iload_n S D_M_blows_56 0 rfl rfl ?_
  refine j_iadd S D_M_blows_57 ?_
  obtain ⟨m_58, hm_58, h⟩ := ltE h
  refine j_iast S D_M_blows_58 sh_92 g_55 ?_
  refine j_mem hm_58 ?_
  refine j_aload_n S D_M_blows_59 3 rfl rfl ?_
  refine j_getR S D_M_blows_60 fl_R6_9 sh_Mod rfl ?_
  refine j_bipush S D_M_blows_63 cb_10 ?_
  refine j_iconst S D_M_blows_65 ci_4 ?_
  refine j_iload_n S D_M_blows_66 1 rfl rfl ?_
  refine j_imul S D_M_blows_67 ?_
  refine j_iadd S D_M_blows_68 ?_
  refine j_iconst S D_M_blows_69 ci_2 ?_
  refine j_iadd S D_M_blows_70 ?_
  refine j_dup2 S D_M_blows_71 ⟨rfl, rfl⟩ ?_
  obtain ⟨g_72, h⟩ := gdE h
  refine j_iald S D_M_blows_72 sh_92 g_72 ?_
  refine j_iload_n S D_M_blows_73 0 rfl rfl ?_
  refine j_dia (P := J X E 4 82 [(3, .int x_24), (2, .int x_14), (1, .int x_7), (0, .ref (eb E + 91))] [.int (if x_24 ≤ 0 then (0 : Int32) else 1), .int (m_58 92 (ix ((10 + (4 * x_14)) + 2))), .int ((10 + (4 * x_14)) + 2), .ref (eb E + 92)] SH m_58) (fun hj => ?_) ?_
  · refine j_if_le S D_M_blows_74 (fun c_74 => ?_) (fun c_74 => ?_)
    · refine j_iconst S D_M_blows_81 ci_0 ?_
      exact j_jnT hj c_74
    · refine j_iconst S D_M_blows_77 ci_1 ?_
      refine j_goto S D_M_blows_78 ?_
      exact j_jnF hj c_74
  refine j_iadd S D_M_blows_82 ?_
  obtain ⟨m_83, hm_83, h⟩ := ltE h
  refine j_iast S D_M_blows_83 sh_92 g_72 ?_
  refine j_mem hm_83 ?_
  exact rtV hR h _ _ D_M_blows_84
