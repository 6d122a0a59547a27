def y_K_known : MethodName := ⟨"SandPicture$Kinds", "known", "(I)Z"⟩
theorem D_K_known_0 : decode prog_2_method_2_code 0 = .ok (.iload_n 0, 1) ∧ 0 + 1 = 1 := by decide +kernel
theorem D_K_known_13 : decode prog_2_method_2_code 13 = .ok (.iconst 0, 1) ∧ 13 + 1 = 14 := by decide +kernel
theorem D_K_known_4 : decode prog_2_method_2_code 4 = .ok (.iload_n 0, 1) ∧ 4 + 1 = 5 := by decide +kernel
theorem D_K_known_5 : decode prog_2_method_2_code 5 = .ok (.iconst 5, 1) ∧ 5 + 1 = 6 := by decide +kernel
theorem D_K_known_9 : decode prog_2_method_2_code 9 = .ok (.iconst 1, 1) ∧ 9 + 1 = 10 := by decide +kernel
theorem D_K_known_10 : decode prog_2_method_2_code 10 = .ok (.goto 4, 3) ∧ ((10 : Nat) : Int) + 4 = ((14 : Nat) : Int) := by decide +kernel
theorem D_K_known_6 : decode prog_2_method_2_code 6 = .ok (.if_icmp .gt 7, 3) ∧ ((6 : Nat) : Int) + 7 = ((13 : Nat) : Int) ∧ 6 + 3 = 9 := by decide +kernel
theorem D_K_known_1 : decode prog_2_method_2_code 1 = .ok (.ifCond .lt 12, 3) ∧ ((1 : Nat) : Int) + 12 = ((13 : Nat) : Int) ∧ 1 + 3 = 4 := by decide +kernel
theorem D_K_known_14 : decode prog_2_method_2_code 14 = .ok (.ireturn, 1) := by decide +kernel
def f_K_known (a1 : Int32) : Option (Int32) := some (if a1 < 0 then (0 : Int32) else if 5 < a1 then (0 : Int32) else 1)
theorem c_K_known (l : Launch) (E : En) (a1 : Int32) {mem : Mm} {r : Int32} (h : f_K_known a1 = some r) : CtI l E 0 y_K_known prog_2_method_2_code 1 (some .boolean) [.int a1] SH mem r mem := by
  refine mk_CtZ ⟨by decide, (Nat.le_of_ble_eq_true rfl)⟩ (fun X S hl hR => ?_)
  have S : Std X E prog_2_method_2_code RK 1 0 := S
  show J X E 1 0 [(0, .int a1)] [] SH mem
  unfold f_K_known at h
  refine j_iload_n S D_K_known_0 0 rfl rfl ?_
  refine j_dia (P := J X E 1 14 [(0, .int a1)] [.int (if a1 < 0 then (0 : Int32) else if 5 < a1 then (0 : Int32) else 1)] SH mem) (fun hj => ?_) ?_
  · refine j_if_lt S D_K_known_1 (fun c_1 => ?_) (fun c_1 => ?_)
    · refine j_iconst S D_K_known_13 ci_0 ?_
      exact j_jnT hj c_1
    · refine j_iload_n S D_K_known_4 0 rfl rfl ?_
      refine j_iconst S D_K_known_5 ci_5 ?_
      refine j_dia (P := J X E 1 14 [(0, .int a1)] [.int (if 5 < a1 then (0 : Int32) else 1)] SH mem) (fun hj => ?_) ?_
      · refine j_icmp_gt S D_K_known_6 (fun c_6 => ?_) (fun c_6 => ?_)
        · refine j_iconst S D_K_known_13 ci_0 ?_
          exact j_jnT hj c_6
        · refine j_iconst S D_K_known_9 ci_1 ?_
          refine j_goto S D_K_known_10 ?_
          exact j_jnF hj c_6
      exact j_jnF hj c_1
  exact rtIZ hR h (isb_ite isb0 (isb_ite isb0 isb1)) _ _ D_K_known_14

def y_K_above : MethodName := ⟨"SandPicture$Kinds", "above", "(I)I"⟩
theorem D_K_above_0 : decode prog_2_method_3_code 0 = .ok (.iload_n 0, 1) ∧ 0 + 1 = 1 := by decide +kernel
theorem D_K_above_1 : decode prog_2_method_3_code 1 = .ok (.iconst 3, 1) ∧ 1 + 1 = 2 := by decide +kernel
theorem D_K_above_9 : decode prog_2_method_3_code 9 = .ok (.iload_n 0, 1) ∧ 9 + 1 = 10 := by decide +kernel
theorem D_K_above_10 : decode prog_2_method_3_code 10 = .ok (.iconst 4, 1) ∧ 10 + 1 = 11 := by decide +kernel
theorem D_K_above_18 : decode prog_2_method_3_code 18 = .ok (.iconst 0, 1) ∧ 18 + 1 = 19 := by decide +kernel
theorem D_K_above_14 : decode prog_2_method_3_code 14 = .ok (.iconst 2, 1) ∧ 14 + 1 = 15 := by decide +kernel
theorem D_K_above_15 : decode prog_2_method_3_code 15 = .ok (.goto 4, 3) ∧ ((15 : Nat) : Int) + 4 = ((19 : Nat) : Int) := by decide +kernel
theorem D_K_above_11 : decode prog_2_method_3_code 11 = .ok (.if_icmp .ne 7, 3) ∧ ((11 : Nat) : Int) + 7 = ((18 : Nat) : Int) ∧ 11 + 3 = 14 := by decide +kernel
theorem D_K_above_5 : decode prog_2_method_3_code 5 = .ok (.iconst 1, 1) ∧ 5 + 1 = 6 := by decide +kernel
theorem D_K_above_6 : decode prog_2_method_3_code 6 = .ok (.goto 13, 3) ∧ ((6 : Nat) : Int) + 13 = ((19 : Nat) : Int) := by decide +kernel
theorem D_K_above_2 : decode prog_2_method_3_code 2 = .ok (.if_icmp .ne 7, 3) ∧ ((2 : Nat) : Int) + 7 = ((9 : Nat) : Int) ∧ 2 + 3 = 5 := by decide +kernel
theorem D_K_above_19 : decode prog_2_method_3_code 19 = .ok (.ireturn, 1) := by decide +kernel
def f_K_above (a1 : Int32) : Option (Int32) := some (if a1 = 3 then (1 : Int32) else if a1 = 4 then (2 : Int32) else 0)
theorem c_K_above (l : Launch) (E : En) (a1 : Int32) {mem : Mm} {r : Int32} (h : f_K_above a1 = some r) : CtI l E 0 y_K_above prog_2_method_3_code 1 (some .int) [.int a1] SH mem r mem := by
  refine mk_CtI ⟨by decide, (Nat.le_of_ble_eq_true rfl)⟩ (fun X S hl hR => ?_)
  have S : Std X E prog_2_method_3_code RK 1 0 := S
  show J X E 1 0 [(0, .int a1)] [] SH mem
  unfold f_K_above at h
  refine j_iload_n S D_K_above_0 0 rfl rfl ?_
  refine j_iconst S D_K_above_1 ci_3 ?_
  refine j_dia (P := J X E 1 19 [(0, .int a1)] [.int (if a1 = 3 then (1 : Int32) else if a1 = 4 then (2 : Int32) else 0)] SH mem) (fun hj => ?_) ?_
  · refine j_icmp_ne S D_K_above_2 (fun c_2 => ?_) (fun c_2 => ?_)
    · refine j_iload_n S D_K_above_9 0 rfl rfl ?_
      refine j_iconst S D_K_above_10 ci_4 ?_
      refine j_dia (P := J X E 1 19 [(0, .int a1)] [.int (if a1 = 4 then (2 : Int32) else 0)] SH mem) (fun hj => ?_) ?_
      · refine j_icmp_ne S D_K_above_11 (fun c_11 => ?_) (fun c_11 => ?_)
        · refine j_iconst S D_K_above_18 ci_0 ?_
          exact j_jnF hj c_11
        · refine j_iconst S D_K_above_14 ci_2 ?_
          refine j_goto S D_K_above_15 ?_
          exact j_jnT hj c_11
      exact j_jnF hj c_2
    · refine j_iconst S D_K_above_5 ci_1 ?_
      refine j_goto S D_K_above_6 ?_
      exact j_jnT hj c_2
  exact rtI hR h _ _ D_K_above_19

def y_K_isUnder : MethodName := ⟨"SandPicture$Kinds", "isUnder", "(II)Z"⟩
theorem D_K_isUnder_0 : decode prog_2_method_4_code 0 = .ok (.iload_n 1, 1) ∧ 0 + 1 = 1 := by decide +kernel
theorem D_K_isUnder_1 : decode prog_2_method_4_code 1 = .ok (.ifCond .eq 16, 3) ∧ ((1 : Nat) : Int) + 16 = ((17 : Nat) : Int) ∧ 1 + 3 = 4 := by decide +kernel
theorem D_K_isUnder_17 : decode prog_2_method_4_code 17 = .ok (.iconst 1, 1) ∧ 17 + 1 = 18 := by decide +kernel
theorem D_K_isUnder_18 : decode prog_2_method_4_code 18 = .ok (.goto 4, 3) ∧ ((18 : Nat) : Int) + 4 = ((22 : Nat) : Int) := by decide +kernel
theorem D_K_isUnder_22 : decode prog_2_method_4_code 22 = .ok (.ireturn, 1) := by decide +kernel
theorem D_K_isUnder_4 : decode prog_2_method_4_code 4 = .ok (.iload_n 0, 1) ∧ 4 + 1 = 5 := by decide +kernel
theorem D_K_isUnder_5 : decode prog_2_method_4_code 5 = .ok (.iload_n 1, 1) ∧ 5 + 1 = 6 := by decide +kernel
theorem D_K_isUnder_6 : decode prog_2_method_4_code 6 = .ok (.if_icmp .eq 11, 3) ∧ ((6 : Nat) : Int) + 11 = ((17 : Nat) : Int) ∧ 6 + 3 = 9 := by decide +kernel
theorem D_K_isUnder_9 : decode prog_2_method_4_code 9 = .ok (.iload_n 0, 1) ∧ 9 + 1 = 10 := by decide +kernel
theorem D_K_isUnder_10 : decode prog_2_method_4_code 10 = .ok (.invokestatic 9, 3) ∧ 10 + 3 = 13 := by decide +kernel
theorem D_K_isUnder_13 : decode prog_2_method_4_code 13 = .ok (.iload_n 1, 1) ∧ 13 + 1 = 14 := by decide +kernel
theorem D_K_isUnder_21 : decode prog_2_method_4_code 21 = .ok (.iconst 0, 1) ∧ 21 + 1 = 22 := by decide +kernel
theorem D_K_isUnder_14 : decode prog_2_method_4_code 14 = .ok (.if_icmp .ne 7, 3) ∧ ((14 : Nat) : Int) + 7 = ((21 : Nat) : Int) ∧ 14 + 3 = 17 := by decide +kernel
def f_K_isUnder (a1 : Int32) (a2 : Int32) : Option (Int32) := if a2 = 0 then some 1 else if a1 = a2 then some 1 else bp (f_K_above a1) fun r_10 => some (if r_10 = a2 then (1 : Int32) else 0)
theorem c_K_isUnder (l : Launch) (E : En) (a1 : Int32) (a2 : Int32) {mem : Mm} {r : Int32} (h : f_K_isUnder a1 a2 = some r) : CtI l E 1 y_K_isUnder prog_2_method_4_code 2 (some .boolean) [.int a1, .int a2] SH mem r mem := by
  refine mk_CtZ ⟨by decide, (Nat.le_of_ble_eq_true rfl)⟩ (fun X S hl hR => ?_)
  have S : Std X E prog_2_method_4_code RK 2 1 := S
  show J X E 2 0 [(0, .int a1), (1, .int a2)] [] SH mem
  unfold f_K_isUnder at h
  refine j_iload_n S D_K_isUnder_0 1 rfl rfl ?_
  refine j_if_eq S D_K_isUnder_1 (fun c_1 => ?_) (fun c_1 => ?_)
  · have h := ifT c_1 h
    refine j_iconst S D_K_isUnder_17 ci_1 ?_
    refine j_goto S D_K_isUnder_18 ?_
    exact rtIZ hR h isb1 _ _ D_K_isUnder_22
  · have h := ifF c_1 h
    refine j_iload_n S D_K_isUnder_4 0 rfl rfl ?_
    refine j_iload_n S D_K_isUnder_5 1 rfl rfl ?_
    refine j_icmp_eq S D_K_isUnder_6 (fun c_6 => ?_) (fun c_6 => ?_)
    · have h := ifT c_6 h
      refine j_iconst S D_K_isUnder_17 ci_1 ?_
      refine j_goto S D_K_isUnder_18 ?_
      exact rtIZ hR h isb1 _ _ D_K_isUnder_22
    · have h := ifF c_6 h
      refine j_iload_n S D_K_isUnder_9 0 rfl rfl ?_
      obtain ⟨r_10, e_10, h⟩ := bpE h
      refine j_callSI (As := [.int a1]) S D_K_isUnder_10 ms_RK_9 (c_K_above (cxL X) E a1 (mem := mem) e_10) (by decide) rfl rfl (Nat.le_of_ble_eq_true rfl) ?_
      refine j_iload_n S D_K_isUnder_13 1 rfl rfl ?_
      refine j_dia (P := J X E 2 22 [(0, .int a1), (1, .int a2)] [.int (if r_10 = a2 then (1 : Int32) else 0)] SH mem) (fun hj => ?_) ?_
      · refine j_icmp_ne S D_K_isUnder_14 (fun c_14 => ?_) (fun c_14 => ?_)
        · refine j_iconst S D_K_isUnder_21 ci_0 ?_
          exact j_jnF hj c_14
        · refine j_iconst S D_K_isUnder_17 ci_1 ?_
          refine j_goto S D_K_isUnder_18 ?_
          exact j_jnT hj c_14
      exact rtIZ hR h (isb_ite isb1 isb0) _ _ D_K_isUnder_22

def y_K_poursOf : MethodName := ⟨"SandPicture$Kinds", "poursOf", "(III)I"⟩
theorem D_K_poursOf_0 : decode prog_2_method_5_code 0 = .ok (.iload_n 0, 1) ∧ 0 + 1 = 1 := by decide +kernel
theorem D_K_poursOf_1 : decode prog_2_method_5_code 1 = .ok (.tableswitch 68 1 5 #[35, 51, 39, 55, 61], 35) := by decide +kernel
theorem D_K_poursOf_36 : decode prog_2_method_5_code 36 = .ok (.iload_n 1, 1) ∧ 36 + 1 = 37 := by decide +kernel
theorem D_K_poursOf_37 : decode prog_2_method_5_code 37 = .ok (.iconst 2, 1) ∧ 37 + 1 = 38 := by decide +kernel
theorem D_K_poursOf_38 : decode prog_2_method_5_code 38 = .ok (.idiv, 1) ∧ 38 + 1 = 39 := by decide +kernel
theorem D_K_poursOf_39 : decode prog_2_method_5_code 39 = .ok (.ireturn, 1) := by decide +kernel
theorem D_K_poursOf_52 : decode prog_2_method_5_code 52 = .ok (.iload_n 1, 1) ∧ 52 + 1 = 53 := by decide +kernel
theorem D_K_poursOf_53 : decode prog_2_method_5_code 53 = .ok (.iload_n 2, 1) ∧ 53 + 1 = 54 := by decide +kernel
theorem D_K_poursOf_54 : decode prog_2_method_5_code 54 = .ok (.iadd, 1) ∧ 54 + 1 = 55 := by decide +kernel
theorem D_K_poursOf_55 : decode prog_2_method_5_code 55 = .ok (.ireturn, 1) := by decide +kernel
theorem D_K_poursOf_40 : decode prog_2_method_5_code 40 = .ok (.iconst 0, 1) ∧ 40 + 1 = 41 := by decide +kernel
theorem D_K_poursOf_41 : decode prog_2_method_5_code 41 = .ok (.iload_n 1, 1) ∧ 41 + 1 = 42 := by decide +kernel
theorem D_K_poursOf_42 : decode prog_2_method_5_code 42 = .ok (.iconst 2, 1) ∧ 42 + 1 = 43 := by decide +kernel
theorem D_K_poursOf_43 : decode prog_2_method_5_code 43 = .ok (.idiv, 1) ∧ 43 + 1 = 44 := by decide +kernel
theorem D_K_poursOf_44 : decode prog_2_method_5_code 44 = .ok (.iload_n 2, 1) ∧ 44 + 1 = 45 := by decide +kernel
theorem D_K_poursOf_45 : decode prog_2_method_5_code 45 = .ok (.iconst 3, 1) ∧ 45 + 1 = 46 := by decide +kernel
theorem D_K_poursOf_46 : decode prog_2_method_5_code 46 = .ok (.idiv, 1) ∧ 46 + 1 = 47 := by decide +kernel
theorem D_K_poursOf_47 : decode prog_2_method_5_code 47 = .ok (.isub, 1) ∧ 47 + 1 = 48 := by decide +kernel
theorem D_K_poursOf_48 : decode prog_2_method_5_code 48 = .ok (.invokestatic 13, 3) ∧ 48 + 3 = 51 := by decide +kernel
theorem D_K_poursOf_51 : decode prog_2_method_5_code 51 = .ok (.ireturn, 1) := by decide +kernel
theorem D_K_poursOf_56 : decode prog_2_method_5_code 56 = .ok (.iconst 2, 1) ∧ 56 + 1 = 57 := by decide +kernel
theorem D_K_poursOf_57 : decode prog_2_method_5_code 57 = .ok (.iload_n 1, 1) ∧ 57 + 1 = 58 := by decide +kernel
theorem D_K_poursOf_58 : decode prog_2_method_5_code 58 = .ok (.iload_n 2, 1) ∧ 58 + 1 = 59 := by decide +kernel
theorem D_K_poursOf_59 : decode prog_2_method_5_code 59 = .ok (.iadd, 1) ∧ 59 + 1 = 60 := by decide +kernel
theorem D_K_poursOf_60 : decode prog_2_method_5_code 60 = .ok (.imul, 1) ∧ 60 + 1 = 61 := by decide +kernel
theorem D_K_poursOf_61 : decode prog_2_method_5_code 61 = .ok (.ireturn, 1) := by decide +kernel
theorem D_K_poursOf_62 : decode prog_2_method_5_code 62 = .ok (.bipush 9, 2) ∧ 62 + 2 = 64 := by decide +kernel
theorem D_K_poursOf_64 : decode prog_2_method_5_code 64 = .ok (.iload_n 1, 1) ∧ 64 + 1 = 65 := by decide +kernel
theorem D_K_poursOf_65 : decode prog_2_method_5_code 65 = .ok (.invokestatic 19, 3) ∧ 65 + 3 = 68 := by decide +kernel
theorem D_K_poursOf_68 : decode prog_2_method_5_code 68 = .ok (.ireturn, 1) := by decide +kernel
theorem D_K_poursOf_69 : decode prog_2_method_5_code 69 = .ok (.iload_n 1, 1) ∧ 69 + 1 = 70 := by decide +kernel
theorem D_K_poursOf_70 : decode prog_2_method_5_code 70 = .ok (.ireturn, 1) := by decide +kernel
theorem D_K_poursOf_1o : decode prog_2_method_5_code 1 = .ok (.tableswitch 68 1 5 #[35, 51, 39, 55, 61], 35) ∧ ((1 : Nat) : Int) + 68 = ((69 : Nat) : Int) := by decide +kernel
def f_K_poursOf (a1 : Int32) (a2 : Int32) (a3 : Int32) : Option (Int32) := if a1 = 1 then some (a2 / 2) else if a1 = 2 then some (a2 + a3) else if a1 = 3 then some (if 0 < ((a2 / 2) - (a3 / 3)) then (a2 / 2) - (a3 / 3) else 0) else if a1 = 4 then some (2 * (a2 + a3)) else if a1 = 5 then some (if a2 < 9 then a2 else 9) else some a2
theorem c_K_poursOf (l : Launch) (E : En) (a1 : Int32) (a2 : Int32) (a3 : Int32) {mem : Mm} {r : Int32} (h : f_K_poursOf a1 a2 a3 = some r) : CtI l E 1 y_K_poursOf prog_2_method_5_code 3 (some .int) [.int a1, .int a2, .int a3] SH mem r mem := by
  refine mk_CtI ⟨by decide, (Nat.le_of_ble_eq_true rfl)⟩ (fun X S hl hR => ?_)
  have S : Std X E prog_2_method_5_code RK 3 1 := S
  show J X E 3 0 [(0, .int a1), (1, .int a2), (2, .int a3)] [] SH mem
  unfold f_K_poursOf at h
  refine j_iload_n S D_K_poursOf_0 0 rfl rfl ?_
  by_cases c_1_0 : a1 = 1
  · have h := ifT c_1_0 h
    refine j_tabIn (tg := 36) (off := 35) S D_K_poursOf_1 1 c_1_0 (by decide +kernel) ?_
    refine j_iload_n S D_K_poursOf_36 1 rfl rfl ?_
    refine j_iconst S D_K_poursOf_37 ci_2 ?_
    refine j_idiv S D_K_poursOf_38 nz_2 ?_
    exact rtI hR h _ _ D_K_poursOf_39
  · have h := ifF c_1_0 h
    by_cases c_1_1 : a1 = 2
    · have h := ifT c_1_1 h
      refine j_tabIn (tg := 52) (off := 51) S D_K_poursOf_1 2 c_1_1 (by decide +kernel) ?_
      refine j_iload_n S D_K_poursOf_52 1 rfl rfl ?_
      refine j_iload_n S D_K_poursOf_53 2 rfl rfl ?_
      refine j_iadd S D_K_poursOf_54 ?_
      exact rtI hR h _ _ D_K_poursOf_55
    · have h := ifF c_1_1 h
      by_cases c_1_2 : a1 = 3
      · have h := ifT c_1_2 h
        refine j_tabIn (tg := 40) (off := 39) S D_K_poursOf_1 3 c_1_2 (by decide +kernel) ?_
        refine j_iconst S D_K_poursOf_40 ci_0 ?_
        refine j_iload_n S D_K_poursOf_41 1 rfl rfl ?_
        refine j_iconst S D_K_poursOf_42 ci_2 ?_
        refine j_idiv S D_K_poursOf_43 nz_2 ?_
        refine j_iload_n S D_K_poursOf_44 2 rfl rfl ?_
        refine j_iconst S D_K_poursOf_45 ci_3 ?_
        refine j_idiv S D_K_poursOf_46 nz_3 ?_
        refine j_isub S D_K_poursOf_47 ?_
        refine j_mmax S D_K_poursOf_48 (by decide) mm_RK_13 (Nat.le_of_ble_eq_true rfl) ?_
        exact rtI hR h _ _ D_K_poursOf_51
      · have h := ifF c_1_2 h
        by_cases c_1_3 : a1 = 4
        · have h := ifT c_1_3 h
          refine j_tabIn (tg := 56) (off := 55) S D_K_poursOf_1 4 c_1_3 (by decide +kernel) ?_
          refine j_iconst S D_K_poursOf_56 ci_2 ?_
          refine j_iload_n S D_K_poursOf_57 1 rfl rfl ?_
          refine j_iload_n S D_K_poursOf_58 2 rfl rfl ?_
          refine j_iadd S D_K_poursOf_59 ?_
          refine j_imul S D_K_poursOf_60 ?_
          exact rtI hR h _ _ D_K_poursOf_61
        · have h := ifF c_1_3 h
          by_cases c_1_4 : a1 = 5
          · have h := ifT c_1_4 h
            refine j_tabIn (tg := 62) (off := 61) S D_K_poursOf_1 5 c_1_4 (by decide +kernel) ?_
            refine j_bipush S D_K_poursOf_62 cb_9 ?_
            refine j_iload_n S D_K_poursOf_64 1 rfl rfl ?_
            refine j_mmin S D_K_poursOf_65 (by decide) mm_RK_19 (Nat.le_of_ble_eq_true rfl) ?_
            exact rtI hR h _ _ D_K_poursOf_68
          · have h := ifF c_1_4 h
            refine j_tabOut S D_K_poursOf_1o (tout_1_5 c_1_0 c_1_1 c_1_2 c_1_3 c_1_4) ?_
            refine j_iload_n S D_K_poursOf_69 1 rfl rfl ?_
            exact rtI hR h _ _ D_K_poursOf_70

def y_K_spills : MethodName := ⟨"SandPicture$Kinds", "spills", "(II)I"⟩
theorem D_K_spills_0 : decode prog_2_method_6_code 0 = .ok (.iload_n 0, 1) ∧ 0 + 1 = 1 := by decide +kernel
theorem D_K_spills_1 : decode prog_2_method_6_code 1 = .ok (.lookupswitch 47 #[(2, 27), (4, 32)], 27) := by decide +kernel
theorem D_K_spills_28 : decode prog_2_method_6_code 28 = .ok (.iload_n 1, 1) ∧ 28 + 1 = 29 := by decide +kernel
theorem D_K_spills_29 : decode prog_2_method_6_code 29 = .ok (.bipush 10, 2) ∧ 29 + 2 = 31 := by decide +kernel
theorem D_K_spills_31 : decode prog_2_method_6_code 31 = .ok (.idiv, 1) ∧ 31 + 1 = 32 := by decide +kernel
theorem D_K_spills_32 : decode prog_2_method_6_code 32 = .ok (.ireturn, 1) := by decide +kernel
theorem D_K_spills_33 : decode prog_2_method_6_code 33 = .ok (.iload_n 1, 1) ∧ 33 + 1 = 34 := by decide +kernel
theorem D_K_spills_46 : decode prog_2_method_6_code 46 = .ok (.iconst 0, 1) ∧ 46 + 1 = 47 := by decide +kernel
theorem D_K_spills_37 : decode prog_2_method_6_code 37 = .ok (.iload_n 1, 1) ∧ 37 + 1 = 38 := by decide +kernel
theorem D_K_spills_38 : decode prog_2_method_6_code 38 = .ok (.bipush 10, 2) ∧ 38 + 2 = 40 := by decide +kernel
theorem D_K_spills_40 : decode prog_2_method_6_code 40 = .ok (.idiv, 1) ∧ 40 + 1 = 41 := by decide +kernel
theorem D_K_spills_41 : decode prog_2_method_6_code 41 = .ok (.iconst 1, 1) ∧ 41 + 1 = 42 := by decide +kernel
theorem D_K_spills_42 : decode prog_2_method_6_code 42 = .ok (.iadd, 1) ∧ 42 + 1 = 43 := by decide +kernel
theorem D_K_spills_43 : decode prog_2_method_6_code 43 = .ok (.goto 4, 3) ∧ ((43 : Nat) : Int) + 4 = ((47 : Nat) : Int) := by decide +kernel
theorem D_K_spills_34 : decode prog_2_method_6_code 34 = .ok (.ifCond .le 12, 3) ∧ ((34 : Nat) : Int) + 12 = ((46 : Nat) : Int) ∧ 34 + 3 = 37 := by decide +kernel
theorem D_K_spills_47 : decode prog_2_method_6_code 47 = .ok (.ireturn, 1) := by decide +kernel
theorem D_K_spills_48 : decode prog_2_method_6_code 48 = .ok (.iconst 0, 1) ∧ 48 + 1 = 49 := by decide +kernel
theorem D_K_spills_49 : decode prog_2_method_6_code 49 = .ok (.ireturn, 1) := by decide +kernel
def f_K_spills (a1 : Int32) (a2 : Int32) : Option (Int32) := if a1 = 2 then some (a2 / 10) else if a1 = 4 then some (if a2 ≤ 0 then (0 : Int32) else (a2 / 10) + 1) else some 0
theorem c_K_spills (l : Launch) (E : En) (a1 : Int32) (a2 : Int32) {mem : Mm} {r : Int32} (h : f_K_spills a1 a2 = some r) : CtI l E 0 y_K_spills prog_2_method_6_code 2 (some .int) [.int a1, .int a2] SH mem r mem := by
  refine mk_CtI ⟨by decide, (Nat.le_of_ble_eq_true rfl)⟩ (fun X S hl hR => ?_)
  have S : Std X E prog_2_method_6_code RK 2 0 := S
  show J X E 2 0 [(0, .int a1), (1, .int a2)] [] SH mem
  unfold f_K_spills at h
  refine j_iload_n S D_K_spills_0 0 rfl rfl ?_
  by_cases c_1_0 : a1 = 2
  · have h := ifT c_1_0 h
    refine j_lookE (tg := 28) (off := 27) S D_K_spills_1 2 c_1_0 (by decide +kernel) ?_
    refine j_iload_n S D_K_spills_28 1 rfl rfl ?_
    refine j_bipush S D_K_spills_29 cb_10 ?_
    refine j_idiv S D_K_spills_31 nz_10 ?_
    exact rtI hR h _ _ D_K_spills_32
  · have h := ifF c_1_0 h
    by_cases c_1_1 : a1 = 4
    · have h := ifT c_1_1 h
      refine j_lookE (tg := 33) (off := 32) S D_K_spills_1 4 c_1_1 (by decide +kernel) ?_
      refine j_iload_n S D_K_spills_33 1 rfl rfl ?_
      refine j_dia (P := J X E 2 47 [(0, .int a1), (1, .int a2)] [.int (if a2 ≤ 0 then (0 : Int32) else (a2 / 10) + 1)] SH mem) (fun hj => ?_) ?_
      · refine j_if_le S D_K_spills_34 (fun c_34 => ?_) (fun c_34 => ?_)
        · refine j_iconst S D_K_spills_46 ci_0 ?_
          exact j_jnT hj c_34
        · refine j_iload_n S D_K_spills_37 1 rfl rfl ?_
          refine j_bipush S D_K_spills_38 cb_10 ?_
          refine j_idiv S D_K_spills_40 nz_10 ?_
          refine j_iconst S D_K_spills_41 ci_1 ?_
          refine j_iadd S D_K_spills_42 ?_
          refine j_goto S D_K_spills_43 ?_
          exact j_jnF hj c_34
      exact rtI hR h _ _ D_K_spills_47
    · have h := ifF c_1_1 h
      refine j_look (tg := 48) S D_K_spills_1 (by decide +kernel) (by show Op.lookupswitch.offset [(2, 27), (4, 32)] 47 (a1 : Int32).toInt = 47; rw [lv_osw c_1_0 (by decide +kernel), lv_osw c_1_1 (by decide +kernel)]; rfl) rfl ?_
      refine j_iconst S D_K_spills_48 ci_0 ?_
      exact rtI hR h _ _ D_K_spills_49

def y_K_adds : MethodName := ⟨"SandPicture$Kinds", "adds", "(II)I"⟩
theorem D_K_adds_0 : decode prog_2_method_7_code 0 = .ok (.iload_n 0, 1) ∧ 0 + 1 = 1 := by decide +kernel
theorem D_K_adds_1 : decode prog_2_method_7_code 1 = .ok (.iconst 5, 1) ∧ 1 + 1 = 2 := by decide +kernel
theorem D_K_adds_2 : decode prog_2_method_7_code 2 = .ok (.if_icmp .ne 5, 3) ∧ ((2 : Nat) : Int) + 5 = ((7 : Nat) : Int) ∧ 2 + 3 = 5 := by decide +kernel
theorem D_K_adds_7 : decode prog_2_method_7_code 7 = .ok (.iload_n 0, 1) ∧ 7 + 1 = 8 := by decide +kernel
theorem D_K_adds_8 : decode prog_2_method_7_code 8 = .ok (.iload_n 1, 1) ∧ 8 + 1 = 9 := by decide +kernel
theorem D_K_adds_9 : decode prog_2_method_7_code 9 = .ok (.invokestatic 22, 3) ∧ 9 + 3 = 12 := by decide +kernel
theorem D_K_adds_19 : decode prog_2_method_7_code 19 = .ok (.iconst 0, 1) ∧ 19 + 1 = 20 := by decide +kernel
theorem D_K_adds_15 : decode prog_2_method_7_code 15 = .ok (.iconst 1, 1) ∧ 15 + 1 = 16 := by decide +kernel
theorem D_K_adds_16 : decode prog_2_method_7_code 16 = .ok (.goto 4, 3) ∧ ((16 : Nat) : Int) + 4 = ((20 : Nat) : Int) := by decide +kernel
theorem D_K_adds_12 : decode prog_2_method_7_code 12 = .ok (.ifCond .le 7, 3) ∧ ((12 : Nat) : Int) + 7 = ((19 : Nat) : Int) ∧ 12 + 3 = 15 := by decide +kernel
theorem D_K_adds_20 : decode prog_2_method_7_code 20 = .ok (.ireturn, 1) := by decide +kernel
theorem D_K_adds_5 : decode prog_2_method_7_code 5 = .ok (.iconst 1, 1) ∧ 5 + 1 = 6 := by decide +kernel
theorem D_K_adds_6 : decode prog_2_method_7_code 6 = .ok (.ireturn, 1) := by decide +kernel
def f_K_adds (a1 : Int32) (a2 : Int32) : Option (Int32) := if a1 = 5 then some 1 else bp (f_K_spills a1 a2) fun r_9 => some (if r_9 ≤ 0 then (0 : Int32) else 1)
theorem c_K_adds (l : Launch) (E : En) (a1 : Int32) (a2 : Int32) {mem : Mm} {r : Int32} (h : f_K_adds a1 a2 = some r) : CtI l E 1 y_K_adds prog_2_method_7_code 2 (some .int) [.int a1, .int a2] SH mem r mem := by
  refine mk_CtI ⟨by decide, (Nat.le_of_ble_eq_true rfl)⟩ (fun X S hl hR => ?_)
  have S : Std X E prog_2_method_7_code RK 2 1 := S
  show J X E 2 0 [(0, .int a1), (1, .int a2)] [] SH mem
  unfold f_K_adds at h
  refine j_iload_n S D_K_adds_0 0 rfl rfl ?_
  refine j_iconst S D_K_adds_1 ci_5 ?_
  refine j_icmp_ne S D_K_adds_2 (fun c_2 => ?_) (fun c_2 => ?_)
  · have h := ifF c_2 h
    refine j_iload_n S D_K_adds_7 0 rfl rfl ?_
    refine j_iload_n S D_K_adds_8 1 rfl rfl ?_
    obtain ⟨r_9, e_9, h⟩ := bpE h
    refine j_callSI (As := [.int a1, .int a2]) S D_K_adds_9 ms_RK_22 (c_K_spills (cxL X) E a1 a2 (mem := mem) e_9) (by decide) rfl rfl (Nat.le_of_ble_eq_true rfl) ?_
    refine j_dia (P := J X E 2 20 [(0, .int a1), (1, .int a2)] [.int (if r_9 ≤ 0 then (0 : Int32) else 1)] SH mem) (fun hj => ?_) ?_
    · refine j_if_le S D_K_adds_12 (fun c_12 => ?_) (fun c_12 => ?_)
      · refine j_iconst S D_K_adds_19 ci_0 ?_
        exact j_jnT hj c_12
      · refine j_iconst S D_K_adds_15 ci_1 ?_
        refine j_goto S D_K_adds_16 ?_
        exact j_jnF hj c_12
    exact rtI hR h _ _ D_K_adds_20
  · have h := ifT c_2 h
    refine j_iconst S D_K_adds_5 ci_1 ?_
    exact rtI hR h _ _ D_K_adds_6

def y_K_worth : MethodName := ⟨"SandPicture$Kinds", "worth", "(II)I"⟩
theorem D_K_worth_0 : decode prog_2_method_8_code 0 = .ok (.iload_n 0, 1) ∧ 0 + 1 = 1 := by decide +kernel
theorem D_K_worth_1 : decode prog_2_method_8_code 1 = .ok (.tableswitch 62 1 5 #[35, 47, 40, 52, 60], 35) := by decide +kernel
theorem D_K_worth_36 : decode prog_2_method_8_code 36 = .ok (.iload_n 1, 1) ∧ 36 + 1 = 37 := by decide +kernel
theorem D_K_worth_37 : decode prog_2_method_8_code 37 = .ok (.bipush 6, 2) ∧ 37 + 2 = 39 := by decide +kernel
theorem D_K_worth_39 : decode prog_2_method_8_code 39 = .ok (.iadd, 1) ∧ 39 + 1 = 40 := by decide +kernel
theorem D_K_worth_40 : decode prog_2_method_8_code 40 = .ok (.ireturn, 1) := by decide +kernel
theorem D_K_worth_48 : decode prog_2_method_8_code 48 = .ok (.bipush 99, 2) ∧ 48 + 2 = 50 := by decide +kernel
theorem D_K_worth_50 : decode prog_2_method_8_code 50 = .ok (.iload_n 1, 1) ∧ 50 + 1 = 51 := by decide +kernel
theorem D_K_worth_51 : decode prog_2_method_8_code 51 = .ok (.isub, 1) ∧ 51 + 1 = 52 := by decide +kernel
theorem D_K_worth_52 : decode prog_2_method_8_code 52 = .ok (.ireturn, 1) := by decide +kernel
theorem D_K_worth_41 : decode prog_2_method_8_code 41 = .ok (.iconst 2, 1) ∧ 41 + 1 = 42 := by decide +kernel
theorem D_K_worth_42 : decode prog_2_method_8_code 42 = .ok (.iload_n 1, 1) ∧ 42 + 1 = 43 := by decide +kernel
theorem D_K_worth_43 : decode prog_2_method_8_code 43 = .ok (.bipush 6, 2) ∧ 43 + 2 = 45 := by decide +kernel
theorem D_K_worth_45 : decode prog_2_method_8_code 45 = .ok (.iadd, 1) ∧ 45 + 1 = 46 := by decide +kernel
theorem D_K_worth_46 : decode prog_2_method_8_code 46 = .ok (.imul, 1) ∧ 46 + 1 = 47 := by decide +kernel
theorem D_K_worth_47 : decode prog_2_method_8_code 47 = .ok (.ireturn, 1) := by decide +kernel
theorem D_K_worth_53 : decode prog_2_method_8_code 53 = .ok (.bipush 99, 2) ∧ 53 + 2 = 55 := by decide +kernel
theorem D_K_worth_55 : decode prog_2_method_8_code 55 = .ok (.iload_n 1, 1) ∧ 55 + 1 = 56 := by decide +kernel
theorem D_K_worth_56 : decode prog_2_method_8_code 56 = .ok (.isub, 1) ∧ 56 + 1 = 57 := by decide +kernel
theorem D_K_worth_57 : decode prog_2_method_8_code 57 = .ok (.bipush 9, 2) ∧ 57 + 2 = 59 := by decide +kernel
theorem D_K_worth_59 : decode prog_2_method_8_code 59 = .ok (.isub, 1) ∧ 59 + 1 = 60 := by decide +kernel
theorem D_K_worth_60 : decode prog_2_method_8_code 60 = .ok (.ireturn, 1) := by decide +kernel
theorem D_K_worth_61 : decode prog_2_method_8_code 61 = .ok (.iconst 4, 1) ∧ 61 + 1 = 62 := by decide +kernel
theorem D_K_worth_62 : decode prog_2_method_8_code 62 = .ok (.ireturn, 1) := by decide +kernel
theorem D_K_worth_63 : decode prog_2_method_8_code 63 = .ok (.iload_n 1, 1) ∧ 63 + 1 = 64 := by decide +kernel
theorem D_K_worth_64 : decode prog_2_method_8_code 64 = .ok (.ireturn, 1) := by decide +kernel
theorem D_K_worth_1o : decode prog_2_method_8_code 1 = .ok (.tableswitch 62 1 5 #[35, 47, 40, 52, 60], 35) ∧ ((1 : Nat) : Int) + 62 = ((63 : Nat) : Int) := by decide +kernel
def f_K_worth (a1 : Int32) (a2 : Int32) : Option (Int32) := if a1 = 1 then some (a2 + 6) else if a1 = 2 then some (99 - a2) else if a1 = 3 then some (2 * (a2 + 6)) else if a1 = 4 then some ((99 - a2) - 9) else if a1 = 5 then some 4 else some a2
theorem c_K_worth (l : Launch) (E : En) (a1 : Int32) (a2 : Int32) {mem : Mm} {r : Int32} (h : f_K_worth a1 a2 = some r) : CtI l E 0 y_K_worth prog_2_method_8_code 2 (some .int) [.int a1, .int a2] SH mem r mem := by
  refine mk_CtI ⟨by decide, (Nat.le_of_ble_eq_true rfl)⟩ (fun X S hl hR => ?_)
  have S : Std X E prog_2_method_8_code RK 2 0 := S
  show J X E 2 0 [(0, .int a1), (1, .int a2)] [] SH mem
  unfold f_K_worth at h
  refine j_iload_n S D_K_worth_0 0 rfl rfl ?_
  by_cases c_1_0 : a1 = 1
  · have h := ifT c_1_0 h
    refine j_tabIn (tg := 36) (off := 35) S D_K_worth_1 1 c_1_0 (by decide +kernel) ?_
    refine j_iload_n S D_K_worth_36 1 rfl rfl ?_
    refine j_bipush S D_K_worth_37 cb_6 ?_
    refine j_iadd S D_K_worth_39 ?_
    exact rtI hR h _ _ D_K_worth_40
  · have h := ifF c_1_0 h
    by_cases c_1_1 : a1 = 2
    · have h := ifT c_1_1 h
      refine j_tabIn (tg := 48) (off := 47) S D_K_worth_1 2 c_1_1 (by decide +kernel) ?_
      refine j_bipush S D_K_worth_48 cb_99 ?_
      refine j_iload_n S D_K_worth_50 1 rfl rfl ?_
      refine j_isub S D_K_worth_51 ?_
      exact rtI hR h _ _ D_K_worth_52
    · have h := ifF c_1_1 h
      by_cases c_1_2 : a1 = 3
      · have h := ifT c_1_2 h
        refine j_tabIn (tg := 41) (off := 40) S D_K_worth_1 3 c_1_2 (by decide +kernel) ?_
        refine j_iconst S D_K_worth_41 ci_2 ?_
        refine j_iload_n S D_K_worth_42 1 rfl rfl ?_
        refine j_bipush S D_K_worth_43 cb_6 ?_
        refine j_iadd S D_K_worth_45 ?_
        refine j_imul S D_K_worth_46 ?_
        exact rtI hR h _ _ D_K_worth_47
      · have h := ifF c_1_2 h
        by_cases c_1_3 : a1 = 4
        · have h := ifT c_1_3 h
          refine j_tabIn (tg := 53) (off := 52) S D_K_worth_1 4 c_1_3 (by decide +kernel) ?_
          refine j_bipush S D_K_worth_53 cb_99 ?_
          refine j_iload_n S D_K_worth_55 1 rfl rfl ?_
          refine j_isub S D_K_worth_56 ?_
          refine j_bipush S D_K_worth_57 cb_9 ?_
          refine j_isub S D_K_worth_59 ?_
          exact rtI hR h _ _ D_K_worth_60
        · have h := ifF c_1_3 h
          by_cases c_1_4 : a1 = 5
          · have h := ifT c_1_4 h
            refine j_tabIn (tg := 61) (off := 60) S D_K_worth_1 5 c_1_4 (by decide +kernel) ?_
            refine j_iconst S D_K_worth_61 ci_4 ?_
            exact rtI hR h _ _ D_K_worth_62
          · have h := ifF c_1_4 h
            refine j_tabOut S D_K_worth_1o (tout_1_5 c_1_0 c_1_1 c_1_2 c_1_3 c_1_4) ?_
            refine j_iload_n S D_K_worth_63 1 rfl rfl ?_
            exact rtI hR h _ _ D_K_worth_64

def y_H_renew : MethodName := ⟨"SandPicture$Sheet", "renew", "(II)V"⟩
theorem D_H_renew_0 : decode prog_4_method_2_code 0 = .ok (.aload_n 0, 1) ∧ 0 + 1 = 1 := by decide +kernel
theorem D_H_renew_1 : decode prog_4_method_2_code 1 = .ok (.iload_n 1, 1) ∧ 1 + 1 = 2 := by decide +kernel
theorem D_H_renew_2 : decode prog_4_method_2_code 2 = .ok (.putfield 9, 3) ∧ 2 + 3 = 5 := by decide +kernel
theorem D_H_renew_5 : decode prog_4_method_2_code 5 = .ok (.aload_n 0, 1) ∧ 5 + 1 = 6 := by decide +kernel
theorem D_H_renew_6 : decode prog_4_method_2_code 6 = .ok (.iload_n 2, 1) ∧ 6 + 1 = 7 := by decide +kernel
theorem D_H_renew_7 : decode prog_4_method_2_code 7 = .ok (.putfield 15, 3) ∧ 7 + 3 = 10 := by decide +kernel
theorem D_H_renew_10 : decode prog_4_method_2_code 10 = .ok (.iconst 0, 1) ∧ 10 + 1 = 11 := by decide +kernel
theorem D_H_renew_11 : decode prog_4_method_2_code 11 = .ok (.istore_n 3, 1) ∧ 11 + 1 = 12 := by decide +kernel
theorem D_H_renew_12 : decode prog_4_method_2_code 12 = .ok (.iload_n 3, 1) ∧ 12 + 1 = 13 := by decide +kernel
theorem D_H_renew_13 : decode prog_4_method_2_code 13 = .ok (.aload_n 0, 1) ∧ 13 + 1 = 14 := by decide +kernel
theorem D_H_renew_14 : decode prog_4_method_2_code 14 = .ok (.getfield 18, 3) ∧ 14 + 3 = 17 := by decide +kernel
theorem D_H_renew_17 : decode prog_4_method_2_code 17 = .ok (.arraylength, 1) ∧ 17 + 1 = 18 := by decide +kernel
theorem D_H_renew_18 : decode prog_4_method_2_code 18 = .ok (.if_icmp .ge 16, 3) ∧ ((18 : Nat) : Int) + 16 = ((34 : Nat) : Int) ∧ 18 + 3 = 21 := by decide +kernel
theorem D_H_renew_21 : decode prog_4_method_2_code 21 = .ok (.aload_n 0, 1) ∧ 21 + 1 = 22 := by decide +kernel
theorem D_H_renew_22 : decode prog_4_method_2_code 22 = .ok (.getfield 18, 3) ∧ 22 + 3 = 25 := by decide +kernel
theorem D_H_renew_25 : decode prog_4_method_2_code 25 = .ok (.iload_n 3, 1) ∧ 25 + 1 = 26 := by decide +kernel
theorem D_H_renew_26 : decode prog_4_method_2_code 26 = .ok (.iconst 0, 1) ∧ 26 + 1 = 27 := by decide +kernel
theorem D_H_renew_27 : decode prog_4_method_2_code 27 = .ok (.iastore, 1) ∧ 27 + 1 = 28 := by decide +kernel
theorem D_H_renew_28 : decode prog_4_method_2_code 28 = .ok (.iinc 3 1, 3) ∧ 28 + 3 = 31 := by decide +kernel
theorem D_H_renew_31 : decode prog_4_method_2_code 31 = .ok (.goto (-19), 3) ∧ ((31 : Nat) : Int) + (-19) = ((12 : Nat) : Int) := by decide +kernel
theorem D_H_renew_34 : decode prog_4_method_2_code 34 = .ok (.return_, 1) := by decide +kernel
def f_H_renew_L12 (p : Nat) : Nat → Int32 → Int32 → Int32 → Mm → Option (Int32 × Mm)
  | 0, _, _, _, _ => none
  | n + 1, b1, b2, b3, mem => if 24 ≤ b3 then some (b3, mem) else if inb b3 24 = true then lt (mst mem (p + 1) (ix b3) 0) fun m_27 => f_H_renew_L12 p n b1 b2 (b3 + 1) m_27 else none
def f_H_renew (N : Nat) (p : Nat) (a1 : Int32) (a2 : Int32) (mem : Mm) : Option (Mm) := lt (mst mem p 0 a1) fun m_2 => lt (mst m_2 p 1 a2) fun m_7 => bd (f_H_renew_L12 p N a1 a2 0 m_7) fun y_12 m_12 => some m_12
theorem L_H_renew_12 {X : Cx} {E : En} (S : Std X E prog_4_method_2_code R1 4 0) (p : Nat) (hp : isSht p) : ∀ (n : Nat) (b1 : Int32) (b2 : Int32) (b3 : Int32) (mem : Mm) (z : Int32) (m2 : Mm), f_H_renew_L12 p n b1 b2 b3 mem = some (z, m2) → J X E 4 34 [(0, .ref (eb E + p)), (1, .int b1), (2, .int b2), (3, .int z)] [] SH m2 → J X E 4 12 [(0, .ref (eb E + p)), (1, .int b1), (2, .int b2), (3, .int b3)] [] SH mem := by
  intro n
  induction n with
  | zero =>
    intro b1 b2 b3 mem z m2 h hk; cases h
  | succ n ih =>
    intro b1 b2 b3 mem z m2 h hk
    rw [f_H_renew_L12] at h
    refine j_iload_n S D_H_renew_12 3 rfl rfl ?_
    refine j_aload_n S D_H_renew_13 0 rfl rfl ?_
    refine j_getR S D_H_renew_14 fl_R1_18 (sh_sht hp) rfl ?_
    refine j_alen S D_H_renew_17 (sh_sht1 hp) cn_24 ?_
    refine j_icmp_ge S D_H_renew_18 (fun c_18 => ?_) (fun c_18 => ?_)
    · have h := ifT c_18 h
      cases h
      exact j_locals [0, 1, 2, 3] rfl hk
    · have h := ifF c_18 h
      refine j_aload_n S D_H_renew_21 0 rfl rfl ?_
      refine j_getR S D_H_renew_22 fl_R1_18 (sh_sht hp) rfl ?_
      refine j_iload_n S D_H_renew_25 3 rfl rfl ?_
      refine j_iconst S D_H_renew_26 ci_0 ?_
      obtain ⟨g_27, h⟩ := gdE h
      obtain ⟨m_27, hm_27, h⟩ := ltE h
      refine j_iast S D_H_renew_27 (sh_sht1 hp) g_27 ?_
      refine j_mem hm_27 ?_
      refine j_iinc S D_H_renew_28 3 rfl (congrArg (fun z => b3 + z) ci_1) (lv := [(3, .int (b3 + 1)), (0, .ref (eb E + p)), (1, .int b1), (2, .int b2)]) rfl (Nat.le_of_ble_eq_true rfl) ?_
      refine j_goto S D_H_renew_31 ?_
      refine j_locals [1, 2, 3, 0] rfl (ih b1 b2 (b3 + 1) m_27 _ _ h hk)
theorem c_H_renew (l : Launch) (E : En) (N : Nat) (p : Nat) (hp : isSht p) (a1 : Int32) (a2 : Int32) {mem : Mm} {m2 : Mm} (h : f_H_renew N p a1 a2 mem = some m2) : CtV l E 0 y_H_renew prog_4_method_2_code 4 [.ref (eb E + p), .int a1, .int a2] SH mem m2 := by
  refine mk_CtV ⟨by decide, (Nat.le_of_ble_eq_true rfl)⟩ (fun X S hl hR => ?_)
  have S : Std X E prog_4_method_2_code R1 4 0 := S
  show J X E 4 0 [(0, .ref (eb E + p)), (1, .int a1), (2, .int a2)] [] SH mem
  unfold f_H_renew at h
  refine j_aload_n S D_H_renew_0 0 rfl rfl ?_
  refine j_iload_n S D_H_renew_1 1 rfl rfl ?_
  obtain ⟨m_2, hm_2, h⟩ := ltE h
  refine j_putI S D_H_renew_2 fp_R1_9 (sh_sht hp) rfl ?_
  refine j_mem hm_2 ?_
  refine j_aload_n S D_H_renew_5 0 rfl rfl ?_
  refine j_iload_n S D_H_renew_6 2 rfl rfl ?_
  obtain ⟨m_7, hm_7, h⟩ := ltE h
  refine j_putI S D_H_renew_7 fp_R1_15 (sh_sht hp) rfl ?_
  refine j_mem hm_7 ?_
  refine j_iconst S D_H_renew_10 ci_0 ?_
  refine j_istore_n S D_H_renew_11 (lv := [(3, .int 0), (0, .ref (eb E + p)), (1, .int a1), (2, .int a2)]) rfl ⟨rfl, (Nat.le_of_ble_eq_true rfl)⟩ ?_
  refine j_locals [1, 2, 3, 0] rfl ?_
  obtain ⟨y_12, m_12, e_12, h⟩ := bdE h
  refine L_H_renew_12 S p hp N a1 a2 0 m_7 _ _ e_12 ?_
  exact rtV hR h _ _ D_H_renew_34

def y_H_become : MethodName := ⟨"SandPicture$Sheet", "become", "(LSandPicture$Sheet;)V"⟩
theorem D_H_become_0 : decode prog_4_method_3_code 0 = .ok (.aload_n 0, 1) ∧ 0 + 1 = 1 := by decide +kernel
theorem D_H_become_1 : decode prog_4_method_3_code 1 = .ok (.aload_n 1, 1) ∧ 1 + 1 = 2 := by decide +kernel
theorem D_H_become_2 : decode prog_4_method_3_code 2 = .ok (.getfield 9, 3) ∧ 2 + 3 = 5 := by decide +kernel
theorem D_H_become_5 : decode prog_4_method_3_code 5 = .ok (.putfield 9, 3) ∧ 5 + 3 = 8 := by decide +kernel
theorem D_H_become_8 : decode prog_4_method_3_code 8 = .ok (.aload_n 0, 1) ∧ 8 + 1 = 9 := by decide +kernel
theorem D_H_become_9 : decode prog_4_method_3_code 9 = .ok (.aload_n 1, 1) ∧ 9 + 1 = 10 := by decide +kernel
theorem D_H_become_10 : decode prog_4_method_3_code 10 = .ok (.getfield 15, 3) ∧ 10 + 3 = 13 := by decide +kernel
theorem D_H_become_13 : decode prog_4_method_3_code 13 = .ok (.putfield 15, 3) ∧ 13 + 3 = 16 := by decide +kernel
theorem D_H_become_16 : decode prog_4_method_3_code 16 = .ok (.aload_n 1, 1) ∧ 16 + 1 = 17 := by decide +kernel
theorem D_H_become_17 : decode prog_4_method_3_code 17 = .ok (.getfield 18, 3) ∧ 17 + 3 = 20 := by decide +kernel
theorem D_H_become_20 : decode prog_4_method_3_code 20 = .ok (.iconst 0, 1) ∧ 20 + 1 = 21 := by decide +kernel
theorem D_H_become_21 : decode prog_4_method_3_code 21 = .ok (.aload_n 0, 1) ∧ 21 + 1 = 22 := by decide +kernel
theorem D_H_become_22 : decode prog_4_method_3_code 22 = .ok (.getfield 18, 3) ∧ 22 + 3 = 25 := by decide +kernel
theorem D_H_become_25 : decode prog_4_method_3_code 25 = .ok (.iconst 0, 1) ∧ 25 + 1 = 26 := by decide +kernel
theorem D_H_become_26 : decode prog_4_method_3_code 26 = .ok (.bipush 24, 2) ∧ 26 + 2 = 28 := by decide +kernel
theorem D_H_become_28 : decode prog_4_method_3_code 28 = .ok (.invokestatic 22, 3) ∧ 28 + 3 = 31 := by decide +kernel
theorem D_H_become_31 : decode prog_4_method_3_code 31 = .ok (.return_, 1) := by decide +kernel
def f_H_become (p : Nat) (o1 : Nat) (mem : Mm) : Option (Mm) := lt (mst mem p 0 (mem o1 0)) fun m_5 => lt (mst m_5 p 1 (m_5 o1 1)) fun m_13 => lt (va_up m_13 (p + 1) (va_cpy (m_13 (o1 + 1)) (m_13 (p + 1)) (ix 0) (ix 0) (ix 24))) fun m_28 => some m_28
theorem c_H_become (l : Launch) (E : En) (p : Nat) (hp : isSht p) (o1 : Nat) (ho1 : isSht o1) {mem : Mm} {m2 : Mm} (h : f_H_become p o1 mem = some m2) : CtV l E 1 y_H_become prog_4_method_3_code 2 [.ref (eb E + p), .ref (eb E + o1)] SH mem m2 := by
  refine mk_CtV ⟨by decide, (Nat.le_of_ble_eq_true rfl)⟩ (fun X S hl hR => ?_)
  have S : Std X E prog_4_method_3_code R1 2 1 := S
  show J X E 2 0 [(0, .ref (eb E + p)), (1, .ref (eb E + o1))] [] SH mem
  unfold f_H_become at h
  refine j_aload_n S D_H_become_0 0 rfl rfl ?_
  refine j_aload_n S D_H_become_1 1 rfl rfl ?_
  refine j_getI S D_H_become_2 fl_R1_9 (sh_sht ho1) rfl ?_
  obtain ⟨m_5, hm_5, h⟩ := ltE h
  refine j_putI S D_H_become_5 fp_R1_9 (sh_sht hp) rfl ?_
  refine j_mem hm_5 ?_
  refine j_aload_n S D_H_become_8 0 rfl rfl ?_
  refine j_aload_n S D_H_become_9 1 rfl rfl ?_
  refine j_getI S D_H_become_10 fl_R1_15 (sh_sht ho1) rfl ?_
  obtain ⟨m_13, hm_13, h⟩ := ltE h
  refine j_putI S D_H_become_13 fp_R1_15 (sh_sht hp) rfl ?_
  refine j_mem hm_13 ?_
  refine j_aload_n S D_H_become_16 1 rfl rfl ?_
  refine j_getR S D_H_become_17 fl_R1_18 (sh_sht ho1) rfl ?_
  refine j_iconst S D_H_become_20 ci_0 ?_
  refine j_aload_n S D_H_become_21 0 rfl rfl ?_
  refine j_getR S D_H_become_22 fl_R1_18 (sh_sht hp) rfl ?_
  refine j_iconst S D_H_become_25 ci_0 ?_
  refine j_bipush S D_H_become_26 cb_24 ?_
  obtain ⟨m_28, hm_28, h⟩ := ltE h
  refine j_copy S D_H_become_28 (by decide) ac_R1_22 (Nat.le_of_ble_eq_true rfl) (sh_sht1 ho1) (sh_sht1 hp) nn_24 cp_0_24_24 cp_0_24_24 ?_
  refine j_mem hm_28 ?_
  exact rtV hR h _ _ D_H_become_31

def y_H_hasNumber : MethodName := ⟨"SandPicture$Sheet", "hasNumber", "(I)Z"⟩
theorem D_H_hasNumber_0 : decode prog_4_method_4_code 0 = .ok (.iload_n 1, 1) ∧ 0 + 1 = 1 := by decide +kernel
theorem D_H_hasNumber_1 : decode prog_4_method_4_code 1 = .ok (.ifCond .lt 26, 3) ∧ ((1 : Nat) : Int) + 26 = ((27 : Nat) : Int) ∧ 1 + 3 = 4 := by decide +kernel
theorem D_H_hasNumber_27 : decode prog_4_method_4_code 27 = .ok (.iconst 0, 1) ∧ 27 + 1 = 28 := by decide +kernel
theorem D_H_hasNumber_28 : decode prog_4_method_4_code 28 = .ok (.ireturn, 1) := by decide +kernel
theorem D_H_hasNumber_4 : decode prog_4_method_4_code 4 = .ok (.iload_n 1, 1) ∧ 4 + 1 = 5 := by decide +kernel
theorem D_H_hasNumber_5 : decode prog_4_method_4_code 5 = .ok (.aload_n 0, 1) ∧ 5 + 1 = 6 := by decide +kernel
theorem D_H_hasNumber_6 : decode prog_4_method_4_code 6 = .ok (.getfield 15, 3) ∧ 6 + 3 = 9 := by decide +kernel
theorem D_H_hasNumber_9 : decode prog_4_method_4_code 9 = .ok (.if_icmp .ge 18, 3) ∧ ((9 : Nat) : Int) + 18 = ((27 : Nat) : Int) ∧ 9 + 3 = 12 := by decide +kernel
theorem D_H_hasNumber_12 : decode prog_4_method_4_code 12 = .ok (.aload_n 0, 1) ∧ 12 + 1 = 13 := by decide +kernel
theorem D_H_hasNumber_13 : decode prog_4_method_4_code 13 = .ok (.getfield 18, 3) ∧ 13 + 3 = 16 := by decide +kernel
theorem D_H_hasNumber_16 : decode prog_4_method_4_code 16 = .ok (.iload_n 1, 1) ∧ 16 + 1 = 17 := by decide +kernel
theorem D_H_hasNumber_17 : decode prog_4_method_4_code 17 = .ok (.iaload, 1) ∧ 17 + 1 = 18 := by decide +kernel
theorem D_H_hasNumber_18 : decode prog_4_method_4_code 18 = .ok (.ldc 28, 2) ∧ 18 + 2 = 20 := by decide +kernel
theorem D_H_hasNumber_23 : decode prog_4_method_4_code 23 = .ok (.iconst 1, 1) ∧ 23 + 1 = 24 := by decide +kernel
theorem D_H_hasNumber_24 : decode prog_4_method_4_code 24 = .ok (.goto 4, 3) ∧ ((24 : Nat) : Int) + 4 = ((28 : Nat) : Int) := by decide +kernel
theorem D_H_hasNumber_20 : decode prog_4_method_4_code 20 = .ok (.if_icmp .eq 7, 3) ∧ ((20 : Nat) : Int) + 7 = ((27 : Nat) : Int) ∧ 20 + 3 = 23 := by decide +kernel
def f_H_hasNumber (p : Nat) (a1 : Int32) (mem : Mm) : Option (Int32) := if a1 < 0 then some 0 else if mem p 1 ≤ a1 then some 0 else if inb a1 24 = true then some (if mem (p + 1) (ix a1) = (-1000000005) then (0 : Int32) else 1) else none
theorem c_H_hasNumber (l : Launch) (E : En) (p : Nat) (hp : isSht p) (a1 : Int32) {mem : Mm} {r : Int32} (h : f_H_hasNumber p a1 mem = some r) : CtI l E 0 y_H_hasNumber prog_4_method_4_code 2 (some .boolean) [.ref (eb E + p), .int a1] SH mem r mem := by
  refine mk_CtZ ⟨by decide, (Nat.le_of_ble_eq_true rfl)⟩ (fun X S hl hR => ?_)
  have S : Std X E prog_4_method_4_code R1 2 0 := S
  show J X E 2 0 [(0, .ref (eb E + p)), (1, .int a1)] [] SH mem
  unfold f_H_hasNumber at h
  refine j_iload_n S D_H_hasNumber_0 1 rfl rfl ?_
  refine j_if_lt S D_H_hasNumber_1 (fun c_1 => ?_) (fun c_1 => ?_)
  · have h := ifT c_1 h
    refine j_iconst S D_H_hasNumber_27 ci_0 ?_
    exact rtIZ hR h isb0 _ _ D_H_hasNumber_28
  · have h := ifF c_1 h
    refine j_iload_n S D_H_hasNumber_4 1 rfl rfl ?_
    refine j_aload_n S D_H_hasNumber_5 0 rfl rfl ?_
    refine j_getI S D_H_hasNumber_6 fl_R1_15 (sh_sht hp) rfl ?_
    refine j_icmp_ge S D_H_hasNumber_9 (fun c_9 => ?_) (fun c_9 => ?_)
    · have h := ifT c_9 h
      refine j_iconst S D_H_hasNumber_27 ci_0 ?_
      exact rtIZ hR h isb0 _ _ D_H_hasNumber_28
    · have h := ifF c_9 h
      refine j_aload_n S D_H_hasNumber_12 0 rfl rfl ?_
      refine j_getR S D_H_hasNumber_13 fl_R1_18 (sh_sht hp) rfl ?_
      refine j_iload_n S D_H_hasNumber_16 1 rfl rfl ?_
      obtain ⟨g_17, h⟩ := gdE h
      refine j_iald S D_H_hasNumber_17 (sh_sht1 hp) g_17 ?_
      refine j_ldc S D_H_hasNumber_18 co_R1_28 ?_
      refine j_dia (P := J X E 2 28 [(0, .ref (eb E + p)), (1, .int a1)] [.int (if mem (p + 1) (ix a1) = (-1000000005) then (0 : Int32) else 1)] SH mem) (fun hj => ?_) ?_
      · refine j_icmp_eq S D_H_hasNumber_20 (fun c_20 => ?_) (fun c_20 => ?_)
        · refine j_iconst S D_H_hasNumber_27 ci_0 ?_
          exact j_jnT hj c_20
        · refine j_iconst S D_H_hasNumber_23 ci_1 ?_
          refine j_goto S D_H_hasNumber_24 ?_
          exact j_jnF hj c_20
      exact rtIZ hR h (isb_ite isb0 isb1) _ _ D_H_hasNumber_28

def y_H_hasStretch : MethodName := ⟨"SandPicture$Sheet", "hasStretch", "(II)Z"⟩
theorem D_H_hasStretch_0 : decode prog_4_method_5_code 0 = .ok (.iload_n 1, 1) ∧ 0 + 1 = 1 := by decide +kernel
theorem D_H_hasStretch_30 : decode prog_4_method_5_code 30 = .ok (.iconst 0, 1) ∧ 30 + 1 = 31 := by decide +kernel
theorem D_H_hasStretch_4 : decode prog_4_method_5_code 4 = .ok (.iload_n 2, 1) ∧ 4 + 1 = 5 := by decide +kernel
theorem D_H_hasStretch_8 : decode prog_4_method_5_code 8 = .ok (.iload_n 1, 1) ∧ 8 + 1 = 9 := by decide +kernel
theorem D_H_hasStretch_9 : decode prog_4_method_5_code 9 = .ok (.aload_n 0, 1) ∧ 9 + 1 = 10 := by decide +kernel
theorem D_H_hasStretch_10 : decode prog_4_method_5_code 10 = .ok (.getfield 15, 3) ∧ 10 + 3 = 13 := by decide +kernel
theorem D_H_hasStretch_16 : decode prog_4_method_5_code 16 = .ok (.iload_n 2, 1) ∧ 16 + 1 = 17 := by decide +kernel
theorem D_H_hasStretch_17 : decode prog_4_method_5_code 17 = .ok (.aload_n 0, 1) ∧ 17 + 1 = 18 := by decide +kernel
theorem D_H_hasStretch_18 : decode prog_4_method_5_code 18 = .ok (.getfield 15, 3) ∧ 18 + 3 = 21 := by decide +kernel
theorem D_H_hasStretch_21 : decode prog_4_method_5_code 21 = .ok (.iload_n 1, 1) ∧ 21 + 1 = 22 := by decide +kernel
theorem D_H_hasStretch_22 : decode prog_4_method_5_code 22 = .ok (.isub, 1) ∧ 22 + 1 = 23 := by decide +kernel
theorem D_H_hasStretch_26 : decode prog_4_method_5_code 26 = .ok (.iconst 1, 1) ∧ 26 + 1 = 27 := by decide +kernel
theorem D_H_hasStretch_27 : decode prog_4_method_5_code 27 = .ok (.goto 4, 3) ∧ ((27 : Nat) : Int) + 4 = ((31 : Nat) : Int) := by decide +kernel
theorem D_H_hasStretch_23 : decode prog_4_method_5_code 23 = .ok (.if_icmp .gt 7, 3) ∧ ((23 : Nat) : Int) + 7 = ((30 : Nat) : Int) ∧ 23 + 3 = 26 := by decide +kernel
theorem D_H_hasStretch_13 : decode prog_4_method_5_code 13 = .ok (.if_icmp .gt 17, 3) ∧ ((13 : Nat) : Int) + 17 = ((30 : Nat) : Int) ∧ 13 + 3 = 16 := by decide +kernel
theorem D_H_hasStretch_5 : decode prog_4_method_5_code 5 = .ok (.ifCond .lt 25, 3) ∧ ((5 : Nat) : Int) + 25 = ((30 : Nat) : Int) ∧ 5 + 3 = 8 := by decide +kernel
theorem D_H_hasStretch_1 : decode prog_4_method_5_code 1 = .ok (.ifCond .lt 29, 3) ∧ ((1 : Nat) : Int) + 29 = ((30 : Nat) : Int) ∧ 1 + 3 = 4 := by decide +kernel
theorem D_H_hasStretch_31 : decode prog_4_method_5_code 31 = .ok (.ireturn, 1) := by decide +kernel
def f_H_hasStretch (p : Nat) (a1 : Int32) (a2 : Int32) (mem : Mm) : Option (Int32) := some (if a1 < 0 then (0 : Int32) else if a2 < 0 then (0 : Int32) else if mem p 1 < a1 then (0 : Int32) else if (mem p 1) - a1 < a2 then (0 : Int32) else 1)
theorem c_H_hasStretch (l : Launch) (E : En) (p : Nat) (hp : isSht p) (a1 : Int32) (a2 : Int32) {mem : Mm} {r : Int32} (h : f_H_hasStretch p a1 a2 mem = some r) : CtI l E 0 y_H_hasStretch prog_4_method_5_code 3 (some .boolean) [.ref (eb E + p), .int a1, .int a2] SH mem r mem := by
  refine mk_CtZ ⟨by decide, (Nat.le_of_ble_eq_true rfl)⟩ (fun X S hl hR => ?_)
  have S : Std X E prog_4_method_5_code R1 3 0 := S
  show J X E 3 0 [(0, .ref (eb E + p)), (1, .int a1), (2, .int a2)] [] SH mem
  unfold f_H_hasStretch at h
  refine j_iload_n S D_H_hasStretch_0 1 rfl rfl ?_
  refine j_dia (P := J X E 3 31 [(0, .ref (eb E + p)), (1, .int a1), (2, .int a2)] [.int (if a1 < 0 then (0 : Int32) else if a2 < 0 then (0 : Int32) else if mem p 1 < a1 then (0 : Int32) else if (mem p 1) - a1 < a2 then (0 : Int32) else 1)] SH mem) (fun hj => ?_) ?_
  · refine j_if_lt S D_H_hasStretch_1 (fun c_1 => ?_) (fun c_1 => ?_)
    · refine j_iconst S D_H_hasStretch_30 ci_0 ?_
      exact j_jnT hj c_1
    · refine j_iload_n S D_H_hasStretch_4 2 rfl rfl ?_
      refine j_dia (P := J X E 3 31 [(0, .ref (eb E + p)), (1, .int a1), (2, .int a2)] [.int (if a2 < 0 then (0 : Int32) else if mem p 1 < a1 then (0 : Int32) else if (mem p 1) - a1 < a2 then (0 : Int32) else 1)] SH mem) (fun hj => ?_) ?_
      · refine j_if_lt S D_H_hasStretch_5 (fun c_5 => ?_) (fun c_5 => ?_)
        · refine j_iconst S D_H_hasStretch_30 ci_0 ?_
          exact j_jnT hj c_5
        · refine j_iload_n S D_H_hasStretch_8 1 rfl rfl ?_
          refine j_aload_n S D_H_hasStretch_9 0 rfl rfl ?_
          refine j_getI S D_H_hasStretch_10 fl_R1_15 (sh_sht hp) rfl ?_
          refine j_dia (P := J X E 3 31 [(0, .ref (eb E + p)), (1, .int a1), (2, .int a2)] [.int (if mem p 1 < a1 then (0 : Int32) else if (mem p 1) - a1 < a2 then (0 : Int32) else 1)] SH mem) (fun hj => ?_) ?_
          · refine j_icmp_gt S D_H_hasStretch_13 (fun c_13 => ?_) (fun c_13 => ?_)
            · refine j_iconst S D_H_hasStretch_30 ci_0 ?_
              exact j_jnT hj c_13
            · refine j_iload_n S D_H_hasStretch_16 2 rfl rfl ?_
              refine j_aload_n S D_H_hasStretch_17 0 rfl rfl ?_
              refine j_getI S D_H_hasStretch_18 fl_R1_15 (sh_sht hp) rfl ?_
              refine j_iload_n S D_H_hasStretch_21 1 rfl rfl ?_
              refine j_isub S D_H_hasStretch_22 ?_
              refine j_dia (P := J X E 3 31 [(0, .ref (eb E + p)), (1, .int a1), (2, .int a2)] [.int (if (mem p 1) - a1 < a2 then (0 : Int32) else 1)] SH mem) (fun hj => ?_) ?_
              · refine j_icmp_gt S D_H_hasStretch_23 (fun c_23 => ?_) (fun c_23 => ?_)
                · refine j_iconst S D_H_hasStretch_30 ci_0 ?_
                  exact j_jnT hj c_23
                · refine j_iconst S D_H_hasStretch_26 ci_1 ?_
                  refine j_goto S D_H_hasStretch_27 ?_
                  exact j_jnF hj c_23
              exact j_jnF hj c_13
          exact j_jnF hj c_5
      exact j_jnF hj c_1
  exact rtIZ hR h (isb_ite isb0 (isb_ite isb0 (isb_ite isb0 (isb_ite isb0 isb1)))) _ _ D_H_hasStretch_31

def y_H_differsFrom : MethodName := ⟨"SandPicture$Sheet", "differsFrom", "([I)I"⟩
theorem D_H_differsFrom_0 : decode prog_4_method_6_code 0 = .ok (.iconst 0, 1) ∧ 0 + 1 = 1 := by decide +kernel
theorem D_H_differsFrom_1 : decode prog_4_method_6_code 1 = .ok (.istore_n 2, 1) ∧ 1 + 1 = 2 := by decide +kernel
theorem D_H_differsFrom_2 : decode prog_4_method_6_code 2 = .ok (.iconst 0, 1) ∧ 2 + 1 = 3 := by decide +kernel
theorem D_H_differsFrom_3 : decode prog_4_method_6_code 3 = .ok (.istore_n 3, 1) ∧ 3 + 1 = 4 := by decide +kernel
theorem D_H_differsFrom_4 : decode prog_4_method_6_code 4 = .ok (.iload_n 3, 1) ∧ 4 + 1 = 5 := by decide +kernel
theorem D_H_differsFrom_5 : decode prog_4_method_6_code 5 = .ok (.aload_n 0, 1) ∧ 5 + 1 = 6 := by decide +kernel
theorem D_H_differsFrom_6 : decode prog_4_method_6_code 6 = .ok (.getfield 15, 3) ∧ 6 + 3 = 9 := by decide +kernel
theorem D_H_differsFrom_9 : decode prog_4_method_6_code 9 = .ok (.if_icmp .ge 47, 3) ∧ ((9 : Nat) : Int) + 47 = ((56 : Nat) : Int) ∧ 9 + 3 = 12 := by decide +kernel
theorem D_H_differsFrom_12 : decode prog_4_method_6_code 12 = .ok (.aload_n 0, 1) ∧ 12 + 1 = 13 := by decide +kernel
theorem D_H_differsFrom_13 : decode prog_4_method_6_code 13 = .ok (.iload_n 3, 1) ∧ 13 + 1 = 14 := by decide +kernel
theorem D_H_differsFrom_14 : decode prog_4_method_6_code 14 = .ok (.invokevirtual 29, 3) ∧ 14 + 3 = 17 := by decide +kernel
theorem D_H_differsFrom_17 : decode prog_4_method_6_code 17 = .ok (.ifCond .eq 33, 3) ∧ ((17 : Nat) : Int) + 33 = ((50 : Nat) : Int) ∧ 17 + 3 = 20 := by decide +kernel
theorem D_H_differsFrom_50 : decode prog_4_method_6_code 50 = .ok (.iinc 3 1, 3) ∧ 50 + 3 = 53 := by decide +kernel
theorem D_H_differsFrom_53 : decode prog_4_method_6_code 53 = .ok (.goto (-49), 3) ∧ ((53 : Nat) : Int) + (-49) = ((4 : Nat) : Int) := by decide +kernel
theorem D_H_differsFrom_20 : decode prog_4_method_6_code 20 = .ok (.iload_n 3, 1) ∧ 20 + 1 = 21 := by decide +kernel
theorem D_H_differsFrom_21 : decode prog_4_method_6_code 21 = .ok (.aload_n 1, 1) ∧ 21 + 1 = 22 := by decide +kernel
theorem D_H_differsFrom_22 : decode prog_4_method_6_code 22 = .ok (.arraylength, 1) ∧ 22 + 1 = 23 := by decide +kernel
theorem D_H_differsFrom_23 : decode prog_4_method_6_code 23 = .ok (.if_icmp .ge 9, 3) ∧ ((23 : Nat) : Int) + 9 = ((32 : Nat) : Int) ∧ 23 + 3 = 26 := by decide +kernel
theorem D_H_differsFrom_32 : decode prog_4_method_6_code 32 = .ok (.iconst 0, 1) ∧ 32 + 1 = 33 := by decide +kernel
theorem D_H_differsFrom_33 : decode prog_4_method_6_code 33 = .ok (.istore 4, 2) ∧ 33 + 2 = 35 := by decide +kernel
theorem D_H_differsFrom_35 : decode prog_4_method_6_code 35 = .ok (.iload_n 2, 1) ∧ 35 + 1 = 36 := by decide +kernel
theorem D_H_differsFrom_36 : decode prog_4_method_6_code 36 = .ok (.iload 4, 2) ∧ 36 + 2 = 38 := by decide +kernel
theorem D_H_differsFrom_38 : decode prog_4_method_6_code 38 = .ok (.aload_n 0, 1) ∧ 38 + 1 = 39 := by decide +kernel
theorem D_H_differsFrom_39 : decode prog_4_method_6_code 39 = .ok (.getfield 18, 3) ∧ 39 + 3 = 42 := by decide +kernel
theorem D_H_differsFrom_42 : decode prog_4_method_6_code 42 = .ok (.iload_n 3, 1) ∧ 42 + 1 = 43 := by decide +kernel
theorem D_H_differsFrom_43 : decode prog_4_method_6_code 43 = .ok (.iaload, 1) ∧ 43 + 1 = 44 := by decide +kernel
theorem D_H_differsFrom_44 : decode prog_4_method_6_code 44 = .ok (.isub, 1) ∧ 44 + 1 = 45 := by decide +kernel
theorem D_H_differsFrom_45 : decode prog_4_method_6_code 45 = .ok (.invokestatic 33, 3) ∧ 45 + 3 = 48 := by decide +kernel
theorem D_H_differsFrom_48 : decode prog_4_method_6_code 48 = .ok (.iadd, 1) ∧ 48 + 1 = 49 := by decide +kernel
theorem D_H_differsFrom_49 : decode prog_4_method_6_code 49 = .ok (.istore_n 2, 1) ∧ 49 + 1 = 50 := by decide +kernel
theorem D_H_differsFrom_26 : decode prog_4_method_6_code 26 = .ok (.aload_n 1, 1) ∧ 26 + 1 = 27 := by decide +kernel
theorem D_H_differsFrom_27 : decode prog_4_method_6_code 27 = .ok (.iload_n 3, 1) ∧ 27 + 1 = 28 := by decide +kernel
theorem D_H_differsFrom_28 : decode prog_4_method_6_code 28 = .ok (.iaload, 1) ∧ 28 + 1 = 29 := by decide +kernel
theorem D_H_differsFrom_29 : decode prog_4_method_6_code 29 = .ok (.goto 4, 3) ∧ ((29 : Nat) : Int) + 4 = ((33 : Nat) : Int) := by decide +kernel
theorem D_H_differsFrom_56 : decode prog_4_method_6_code 56 = .ok (.iload_n 2, 1) ∧ 56 + 1 = 57 := by decide +kernel
theorem D_H_differsFrom_57 : decode prog_4_method_6_code 57 = .ok (.ireturn, 1) := by decide +kernel
def f_H_differsFrom_L4 (p : Nat) (o1 : Nat) : Nat → Int32 → Int32 → Mm → Option (Int32 × Int32)
  | 0, _, _, _ => none
  | n + 1, b2, b3, mem => if mem p 1 ≤ b3 then some (b2, b3) else bp (f_H_hasNumber p b3 mem) fun r_14 => if r_14 = 0 then f_H_differsFrom_L4 p o1 n b2 (b3 + 1) mem else if 6 ≤ b3 then if inb b3 24 = true then lt (b2 + (if 0 ≤ (0 - (mem (p + 1) (ix b3))) then 0 - (mem (p + 1) (ix b3)) else 0 - (0 - (mem (p + 1) (ix b3))))) fun x_49 => f_H_differsFrom_L4 p o1 n x_49 (b3 + 1) mem else none else if inb b3 6 = true then lt (mem o1 (ix b3)) fun x_33 => if inb b3 24 = true then lt (b2 + (if 0 ≤ (x_33 - (mem (p + 1) (ix b3))) then x_33 - (mem (p + 1) (ix b3)) else 0 - (x_33 - (mem (p + 1) (ix b3))))) fun x_49 => f_H_differsFrom_L4 p o1 n x_49 (b3 + 1) mem else none else none
def f_H_differsFrom (N : Nat) (p : Nat) (o1 : Nat) (mem : Mm) : Option (Int32) := bp (f_H_differsFrom_L4 p o1 N 0 0 mem) fun y_4 => some y_4.1
theorem L_H_differsFrom_4 {X : Cx} {E : En} (S : Std X E prog_4_method_6_code R1 5 1) (p : Nat) (hp : isSht p) (o1 : Nat) (ho1 : SH[o1]? = some (.inr (.inl (0, 6)))) {mem : Mm} : ∀ (n : Nat) (b2 : Int32) (b3 : Int32) (z : Int32 × Int32), f_H_differsFrom_L4 p o1 n b2 b3 mem = some z → J X E 5 56 [(0, .ref (eb E + p)), (1, .ref (eb E + o1)), (2, .int z.1), (3, .int z.2)] [] SH mem → J X E 5 4 [(0, .ref (eb E + p)), (1, .ref (eb E + o1)), (2, .int b2), (3, .int b3)] [] SH mem := by
  intro n
  induction n with
  | zero =>
    intro b2 b3 z h hk; cases h
  | succ n ih =>
    intro b2 b3 z h hk
    rw [f_H_differsFrom_L4] at h
    refine j_iload_n S D_H_differsFrom_4 3 rfl rfl ?_
    refine j_aload_n S D_H_differsFrom_5 0 rfl rfl ?_
    refine j_getI S D_H_differsFrom_6 fl_R1_15 (sh_sht hp) rfl ?_
    refine j_icmp_ge S D_H_differsFrom_9 (fun c_9 => ?_) (fun c_9 => ?_)
    · have h := ifT c_9 h
      cases h
      exact j_locals [0, 1, 2, 3] rfl hk
    · have h := ifF c_9 h
      refine j_aload_n S D_H_differsFrom_12 0 rfl rfl ?_
      refine j_iload_n S D_H_differsFrom_13 3 rfl rfl ?_
      obtain ⟨r_14, e_14, h⟩ := bpE h
      refine j_callVI (As := [.int b3]) S D_H_differsFrom_14 mv_R1_29 (c_H_hasNumber (cxL X) E p hp b3 e_14) (by decide) (sh_sht hp) rfl rfl rfl rfl (Nat.le_of_ble_eq_true rfl) ?_
      refine j_if_eq S D_H_differsFrom_17 (fun c_17 => ?_) (fun c_17 => ?_)
      · have h := ifT c_17 h
        refine j_iinc S D_H_differsFrom_50 3 rfl (congrArg (fun z => b3 + z) ci_1) (lv := [(3, .int (b3 + 1)), (0, .ref (eb E + p)), (1, .ref (eb E + o1)), (2, .int b2)]) rfl (Nat.le_of_ble_eq_true rfl) ?_
        refine j_goto S D_H_differsFrom_53 ?_
        refine j_locals [1, 2, 3, 0] rfl (ih b2 (b3 + 1) _ h hk)
      · have h := ifF c_17 h
        refine j_iload_n S D_H_differsFrom_20 3 rfl rfl ?_
        refine j_aload_n S D_H_differsFrom_21 1 rfl rfl ?_
        refine j_alen S D_H_differsFrom_22 ho1 cn_6 ?_
        refine j_icmp_ge S D_H_differsFrom_23 (fun c_23 => ?_) (fun c_23 => ?_)
        · have h := ifT c_23 h
          refine j_iconst S D_H_differsFrom_32 ci_0 ?_
          refine j_istore S D_H_differsFrom_33 (lv := [(4, .int 0), (0, .ref (eb E + p)), (1, .ref (eb E + o1)), (2, .int b2), (3, .int b3)]) rfl (Nat.le_of_ble_eq_true rfl) ?_
          refine j_iload_n S D_H_differsFrom_35 3 rfl rfl ?_
          refine j_iload S D_H_differsFrom_36 0 rfl ?_
          refine j_aload_n S D_H_differsFrom_38 1 rfl rfl ?_
          refine j_getR S D_H_differsFrom_39 fl_R1_18 (sh_sht hp) rfl ?_
          refine j_iload_n S D_H_differsFrom_42 4 rfl rfl ?_
          obtain ⟨g_43, h⟩ := gdE h
          refine j_iald S D_H_differsFrom_43 (sh_sht1 hp) g_43 ?_
          refine j_isub S D_H_differsFrom_44 ?_
          refine j_mabs S D_H_differsFrom_45 (by decide) mm_R1_33 (Nat.le_of_ble_eq_true rfl) ?_
          refine j_iadd S D_H_differsFrom_48 ?_
          obtain ⟨x_49, hx_49, h⟩ := ltE h
          refine j_nm hx_49 ?_
          refine j_istore_n S D_H_differsFrom_49 (lv := [(2, .int x_49), (4, .int 0), (0, .ref (eb E + p)), (1, .ref (eb E + o1)), (3, .int b3)]) rfl ⟨rfl, (Nat.le_of_ble_eq_true rfl)⟩ ?_
          refine j_iinc S D_H_differsFrom_50 4 rfl (congrArg (fun z => b3 + z) ci_1) (lv := [(3, .int (b3 + 1)), (2, .int x_49), (4, .int 0), (0, .ref (eb E + p)), (1, .ref (eb E + o1))]) rfl (Nat.le_of_ble_eq_true rfl) ?_
          refine j_goto S D_H_differsFrom_53 ?_
          refine j_locals [3, 4, 1, 0] rfl (ih x_49 (b3 + 1) _ h hk)
        · have h := ifF c_23 h
          refine j_aload_n S D_H_differsFrom_26 1 rfl rfl ?_
          refine j_iload_n S D_H_differsFrom_27 3 rfl rfl ?_
          obtain ⟨g_28, h⟩ := gdE h
          refine j_iald S D_H_differsFrom_28 ho1 g_28 ?_
          refine j_goto S D_H_differsFrom_29 ?_
          obtain ⟨x_33, hx_33, h⟩ := ltE h
          refine j_nm hx_33 ?_
          refine j_istore S D_H_differsFrom_33 (lv := [(4, .int x_33), (0, .ref (eb E + p)), (1, .ref (eb E + o1)), (2, .int b2), (3, .int b3)]) rfl (Nat.le_of_ble_eq_true rfl) ?_
          refine j_iload_n S D_H_differsFrom_35 3 rfl rfl ?_
          refine j_iload S D_H_differsFrom_36 0 rfl ?_
          refine j_aload_n S D_H_differsFrom_38 1 rfl rfl ?_
          refine j_getR S D_H_differsFrom_39 fl_R1_18 (sh_sht hp) rfl ?_
          refine j_iload_n S D_H_differsFrom_42 4 rfl rfl ?_
          obtain ⟨g_43, h⟩ := gdE h
          refine j_iald S D_H_differsFrom_43 (sh_sht1 hp) g_43 ?_
          refine j_isub S D_H_differsFrom_44 ?_
          refine j_mabs S D_H_differsFrom_45 (by decide) mm_R1_33 (Nat.le_of_ble_eq_true rfl) ?_
          refine j_iadd S D_H_differsFrom_48 ?_
          obtain ⟨x_49, hx_49, h⟩ := ltE h
          refine j_nm hx_49 ?_
          refine j_istore_n S D_H_differsFrom_49 (lv := [(2, .int x_49), (4, .int x_33), (0, .ref (eb E + p)), (1, .ref (eb E + o1)), (3, .int b3)]) rfl ⟨rfl, (Nat.le_of_ble_eq_true rfl)⟩ ?_
          refine j_iinc S D_H_differsFrom_50 4 rfl (congrArg (fun z => b3 + z) ci_1) (lv := [(3, .int (b3 + 1)), (2, .int x_49), (4, .int x_33), (0, .ref (eb E + p)), (1, .ref (eb E + o1))]) rfl (Nat.le_of_ble_eq_true rfl) ?_
          refine j_goto S D_H_differsFrom_53 ?_
          refine j_locals [3, 4, 1, 0] rfl (ih x_49 (b3 + 1) _ h hk)
theorem c_H_differsFrom (l : Launch) (E : En) (N : Nat) (p : Nat) (hp : isSht p) (o1 : Nat) (ho1 : SH[o1]? = some (.inr (.inl (0, 6)))) {mem : Mm} {r : Int32} (h : f_H_differsFrom N p o1 mem = some r) : CtI l E 1 y_H_differsFrom prog_4_method_6_code 5 (some .int) [.ref (eb E + p), .ref (eb E + o1)] SH mem r mem := by
  refine mk_CtI ⟨by decide, (Nat.le_of_ble_eq_true rfl)⟩ (fun X S hl hR => ?_)
  have S : Std X E prog_4_method_6_code R1 5 1 := S
  show J X E 5 0 [(0, .ref (eb E + p)), (1, .ref (eb E + o1))] [] SH mem
  unfold f_H_differsFrom at h
  refine j_iconst S D_H_differsFrom_0 ci_0 ?_
  refine j_istore_n S D_H_differsFrom_1 (lv := [(2, .int 0), (0, .ref (eb E + p)), (1, .ref (eb E + o1))]) rfl ⟨rfl, (Nat.le_of_ble_eq_true rfl)⟩ ?_
  refine j_iconst S D_H_differsFrom_2 ci_0 ?_
  refine j_istore_n S D_H_differsFrom_3 (lv := [(3, .int 0), (2, .int 0), (0, .ref (eb E + p)), (1, .ref (eb E + o1))]) rfl ⟨rfl, (Nat.le_of_ble_eq_true rfl)⟩ ?_
  refine j_locals [2, 3, 1, 0] rfl ?_
  obtain ⟨y_4, e_4, h⟩ := bpE h
  refine L_H_differsFrom_4 S p hp o1 ho1 N 0 0 _ e_4 ?_
  refine j_iload_n S D_H_differsFrom_56 2 rfl rfl ?_
  exact rtI hR h _ _ D_H_differsFrom_57

def y_X_leaf : MethodName := ⟨"SandPicture$Text", "leaf", "(IIII)I"⟩
theorem D_X_leaf_0 : decode prog_7_method_8_code 0 = .ok (.iload_n 0, 1) ∧ 0 + 1 = 1 := by decide +kernel
theorem D_X_leaf_1 : decode prog_7_method_8_code 1 = .ok (.ifCond .lt 5, 3) ∧ ((1 : Nat) : Int) + 5 = ((6 : Nat) : Int) ∧ 1 + 3 = 4 := by decide +kernel
theorem D_X_leaf_6 : decode prog_7_method_8_code 6 = .ok (.iload_n 0, 1) ∧ 6 + 1 = 7 := by decide +kernel
theorem D_X_leaf_7 : decode prog_7_method_8_code 7 = .ok (.iconst (-1), 1) ∧ 7 + 1 = 8 := by decide +kernel
theorem D_X_leaf_15 : decode prog_7_method_8_code 15 = .ok (.iload_n 0, 1) ∧ 15 + 1 = 16 := by decide +kernel
theorem D_X_leaf_16 : decode prog_7_method_8_code 16 = .ok (.bipush (-3), 2) ∧ 16 + 2 = 18 := by decide +kernel
theorem D_X_leaf_25 : decode prog_7_method_8_code 25 = .ok (.iload_n 2, 1) ∧ 25 + 1 = 26 := by decide +kernel
theorem D_X_leaf_21 : decode prog_7_method_8_code 21 = .ok (.iload_n 3, 1) ∧ 21 + 1 = 22 := by decide +kernel
theorem D_X_leaf_22 : decode prog_7_method_8_code 22 = .ok (.goto 4, 3) ∧ ((22 : Nat) : Int) + 4 = ((26 : Nat) : Int) := by decide +kernel
theorem D_X_leaf_18 : decode prog_7_method_8_code 18 = .ok (.if_icmp .ne 7, 3) ∧ ((18 : Nat) : Int) + 7 = ((25 : Nat) : Int) ∧ 18 + 3 = 21 := by decide +kernel
theorem D_X_leaf_11 : decode prog_7_method_8_code 11 = .ok (.iload_n 1, 1) ∧ 11 + 1 = 12 := by decide +kernel
theorem D_X_leaf_12 : decode prog_7_method_8_code 12 = .ok (.goto 14, 3) ∧ ((12 : Nat) : Int) + 14 = ((26 : Nat) : Int) := by decide +kernel
theorem D_X_leaf_8 : decode prog_7_method_8_code 8 = .ok (.if_icmp .ne 7, 3) ∧ ((8 : Nat) : Int) + 7 = ((15 : Nat) : Int) ∧ 8 + 3 = 11 := by decide +kernel
theorem D_X_leaf_26 : decode prog_7_method_8_code 26 = .ok (.ireturn, 1) := by decide +kernel
theorem D_X_leaf_4 : decode prog_7_method_8_code 4 = .ok (.iload_n 0, 1) ∧ 4 + 1 = 5 := by decide +kernel
theorem D_X_leaf_5 : decode prog_7_method_8_code 5 = .ok (.ireturn, 1) := by decide +kernel
def f_X_leaf (a1 : Int32) (a2 : Int32) (a3 : Int32) (a4 : Int32) : Option (Int32) := if a1 < 0 then some (if a1 = (-1) then a2 else if a1 = (-3) then a4 else a3) else some a1
theorem c_X_leaf (l : Launch) (E : En) (a1 : Int32) (a2 : Int32) (a3 : Int32) (a4 : Int32) {mem : Mm} {r : Int32} (h : f_X_leaf a1 a2 a3 a4 = some r) : CtI l E 0 y_X_leaf prog_7_method_8_code 4 (some .int) [.int a1, .int a2, .int a3, .int a4] SH mem r mem := by
  refine mk_CtI ⟨by decide, (Nat.le_of_ble_eq_true rfl)⟩ (fun X S hl hR => ?_)
  have S : Std X E prog_7_method_8_code R4 4 0 := S
  show J X E 4 0 [(0, .int a1), (1, .int a2), (2, .int a3), (3, .int a4)] [] SH mem
  unfold f_X_leaf at h
  refine j_iload_n S D_X_leaf_0 0 rfl rfl ?_
  refine j_if_lt S D_X_leaf_1 (fun c_1 => ?_) (fun c_1 => ?_)
  · have h := ifT c_1 h
    refine j_iload_n S D_X_leaf_6 0 rfl rfl ?_
    refine j_iconst S D_X_leaf_7 ci_m1 ?_
    refine j_dia (P := J X E 4 26 [(0, .int a1), (1, .int a2), (2, .int a3), (3, .int a4)] [.int (if a1 = (-1) then a2 else if a1 = (-3) then a4 else a3)] SH mem) (fun hj => ?_) ?_
    · refine j_icmp_ne S D_X_leaf_8 (fun c_8 => ?_) (fun c_8 => ?_)
      · refine j_iload_n S D_X_leaf_15 0 rfl rfl ?_
        refine j_bipush S D_X_leaf_16 cb_m3 ?_
        refine j_dia (P := J X E 4 26 [(0, .int a1), (1, .int a2), (2, .int a3), (3, .int a4)] [.int (if a1 = (-3) then a4 else a3)] SH mem) (fun hj => ?_) ?_
        · refine j_icmp_ne S D_X_leaf_18 (fun c_18 => ?_) (fun c_18 => ?_)
          · refine j_iload_n S D_X_leaf_25 2 rfl rfl ?_
            exact j_jnF hj c_18
          · refine j_iload_n S D_X_leaf_21 3 rfl rfl ?_
            refine j_goto S D_X_leaf_22 ?_
            exact j_jnT hj c_18
        exact j_jnF hj c_8
      · refine j_iload_n S D_X_leaf_11 1 rfl rfl ?_
        refine j_goto S D_X_leaf_12 ?_
        exact j_jnT hj c_8
    exact rtI hR h _ _ D_X_leaf_26
  · have h := ifF c_1 h
    refine j_iload_n S D_X_leaf_4 0 rfl rfl ?_
    exact rtI hR h _ _ D_X_leaf_5

def y_X_joined : MethodName := ⟨"SandPicture$Text", "joined", "(III)I"⟩
theorem D_X_joined_0 : decode prog_7_method_9_code 0 = .ok (.iload_n 0, 1) ∧ 0 + 1 = 1 := by decide +kernel
theorem D_X_joined_1 : decode prog_7_method_9_code 1 = .ok (.lookupswitch 148 #[(38, 89), (42, 144), (43, 136), (45, 140), (60, 103), (61, 114), (62, 125), (124, 75)], 75) := by decide +kernel
theorem D_X_joined_90 : decode prog_7_method_9_code 90 = .ok (.iload_n 1, 1) ∧ 90 + 1 = 91 := by decide +kernel
theorem D_X_joined_102 : decode prog_7_method_9_code 102 = .ok (.iconst 0, 1) ∧ 102 + 1 = 103 := by decide +kernel
theorem D_X_joined_94 : decode prog_7_method_9_code 94 = .ok (.iload_n 2, 1) ∧ 94 + 1 = 95 := by decide +kernel
theorem D_X_joined_98 : decode prog_7_method_9_code 98 = .ok (.iconst 1, 1) ∧ 98 + 1 = 99 := by decide +kernel
theorem D_X_joined_99 : decode prog_7_method_9_code 99 = .ok (.goto 4, 3) ∧ ((99 : Nat) : Int) + 4 = ((103 : Nat) : Int) := by decide +kernel
theorem D_X_joined_95 : decode prog_7_method_9_code 95 = .ok (.ifCond .eq 7, 3) ∧ ((95 : Nat) : Int) + 7 = ((102 : Nat) : Int) ∧ 95 + 3 = 98 := by decide +kernel
theorem D_X_joined_91 : decode prog_7_method_9_code 91 = .ok (.ifCond .eq 11, 3) ∧ ((91 : Nat) : Int) + 11 = ((102 : Nat) : Int) ∧ 91 + 3 = 94 := by decide +kernel
theorem D_X_joined_103 : decode prog_7_method_9_code 103 = .ok (.ireturn, 1) := by decide +kernel
theorem D_X_joined_145 : decode prog_7_method_9_code 145 = .ok (.iload_n 1, 1) ∧ 145 + 1 = 146 := by decide +kernel
theorem D_X_joined_146 : decode prog_7_method_9_code 146 = .ok (.iload_n 2, 1) ∧ 146 + 1 = 147 := by decide +kernel
theorem D_X_joined_147 : decode prog_7_method_9_code 147 = .ok (.imul, 1) ∧ 147 + 1 = 148 := by decide +kernel
theorem D_X_joined_148 : decode prog_7_method_9_code 148 = .ok (.ireturn, 1) := by decide +kernel
theorem D_X_joined_137 : decode prog_7_method_9_code 137 = .ok (.iload_n 1, 1) ∧ 137 + 1 = 138 := by decide +kernel
theorem D_X_joined_138 : decode prog_7_method_9_code 138 = .ok (.iload_n 2, 1) ∧ 138 + 1 = 139 := by decide +kernel
theorem D_X_joined_139 : decode prog_7_method_9_code 139 = .ok (.iadd, 1) ∧ 139 + 1 = 140 := by decide +kernel
theorem D_X_joined_140 : decode prog_7_method_9_code 140 = .ok (.ireturn, 1) := by decide +kernel
theorem D_X_joined_141 : decode prog_7_method_9_code 141 = .ok (.iload_n 1, 1) ∧ 141 + 1 = 142 := by decide +kernel
theorem D_X_joined_142 : decode prog_7_method_9_code 142 = .ok (.iload_n 2, 1) ∧ 142 + 1 = 143 := by decide +kernel
theorem D_X_joined_143 : decode prog_7_method_9_code 143 = .ok (.isub, 1) ∧ 143 + 1 = 144 := by decide +kernel
theorem D_X_joined_144 : decode prog_7_method_9_code 144 = .ok (.ireturn, 1) := by decide +kernel
theorem D_X_joined_104 : decode prog_7_method_9_code 104 = .ok (.iload_n 1, 1) ∧ 104 + 1 = 105 := by decide +kernel
theorem D_X_joined_105 : decode prog_7_method_9_code 105 = .ok (.iload_n 2, 1) ∧ 105 + 1 = 106 := by decide +kernel
theorem D_X_joined_113 : decode prog_7_method_9_code 113 = .ok (.iconst 0, 1) ∧ 113 + 1 = 114 := by decide +kernel
theorem D_X_joined_109 : decode prog_7_method_9_code 109 = .ok (.iconst 1, 1) ∧ 109 + 1 = 110 := by decide +kernel
theorem D_X_joined_110 : decode prog_7_method_9_code 110 = .ok (.goto 4, 3) ∧ ((110 : Nat) : Int) + 4 = ((114 : Nat) : Int) := by decide +kernel
theorem D_X_joined_106 : decode prog_7_method_9_code 106 = .ok (.if_icmp .ge 7, 3) ∧ ((106 : Nat) : Int) + 7 = ((113 : Nat) : Int) ∧ 106 + 3 = 109 := by decide +kernel
theorem D_X_joined_114 : decode prog_7_method_9_code 114 = .ok (.ireturn, 1) := by decide +kernel
theorem D_X_joined_115 : decode prog_7_method_9_code 115 = .ok (.iload_n 1, 1) ∧ 115 + 1 = 116 := by decide +kernel
theorem D_X_joined_116 : decode prog_7_method_9_code 116 = .ok (.iload_n 2, 1) ∧ 116 + 1 = 117 := by decide +kernel
theorem D_X_joined_124 : decode prog_7_method_9_code 124 = .ok (.iconst 0, 1) ∧ 124 + 1 = 125 := by decide +kernel
theorem D_X_joined_120 : decode prog_7_method_9_code 120 = .ok (.iconst 1, 1) ∧ 120 + 1 = 121 := by decide +kernel
theorem D_X_joined_121 : decode prog_7_method_9_code 121 = .ok (.goto 4, 3) ∧ ((121 : Nat) : Int) + 4 = ((125 : Nat) : Int) := by decide +kernel
theorem D_X_joined_117 : decode prog_7_method_9_code 117 = .ok (.if_icmp .ne 7, 3) ∧ ((117 : Nat) : Int) + 7 = ((124 : Nat) : Int) ∧ 117 + 3 = 120 := by decide +kernel
theorem D_X_joined_125 : decode prog_7_method_9_code 125 = .ok (.ireturn, 1) := by decide +kernel
theorem D_X_joined_126 : decode prog_7_method_9_code 126 = .ok (.iload_n 1, 1) ∧ 126 + 1 = 127 := by decide +kernel
theorem D_X_joined_127 : decode prog_7_method_9_code 127 = .ok (.iload_n 2, 1) ∧ 127 + 1 = 128 := by decide +kernel
theorem D_X_joined_135 : decode prog_7_method_9_code 135 = .ok (.iconst 0, 1) ∧ 135 + 1 = 136 := by decide +kernel
theorem D_X_joined_131 : decode prog_7_method_9_code 131 = .ok (.iconst 1, 1) ∧ 131 + 1 = 132 := by decide +kernel
theorem D_X_joined_132 : decode prog_7_method_9_code 132 = .ok (.goto 4, 3) ∧ ((132 : Nat) : Int) + 4 = ((136 : Nat) : Int) := by decide +kernel
theorem D_X_joined_128 : decode prog_7_method_9_code 128 = .ok (.if_icmp .le 7, 3) ∧ ((128 : Nat) : Int) + 7 = ((135 : Nat) : Int) ∧ 128 + 3 = 131 := by decide +kernel
theorem D_X_joined_136 : decode prog_7_method_9_code 136 = .ok (.ireturn, 1) := by decide +kernel
theorem D_X_joined_76 : decode prog_7_method_9_code 76 = .ok (.iload_n 1, 1) ∧ 76 + 1 = 77 := by decide +kernel
theorem D_X_joined_84 : decode prog_7_method_9_code 84 = .ok (.iconst 1, 1) ∧ 84 + 1 = 85 := by decide +kernel
theorem D_X_joined_85 : decode prog_7_method_9_code 85 = .ok (.goto 4, 3) ∧ ((85 : Nat) : Int) + 4 = ((89 : Nat) : Int) := by decide +kernel
theorem D_X_joined_80 : decode prog_7_method_9_code 80 = .ok (.iload_n 2, 1) ∧ 80 + 1 = 81 := by decide +kernel
theorem D_X_joined_88 : decode prog_7_method_9_code 88 = .ok (.iconst 0, 1) ∧ 88 + 1 = 89 := by decide +kernel
theorem D_X_joined_81 : decode prog_7_method_9_code 81 = .ok (.ifCond .eq 7, 3) ∧ ((81 : Nat) : Int) + 7 = ((88 : Nat) : Int) ∧ 81 + 3 = 84 := by decide +kernel
theorem D_X_joined_77 : decode prog_7_method_9_code 77 = .ok (.ifCond .ne 7, 3) ∧ ((77 : Nat) : Int) + 7 = ((84 : Nat) : Int) ∧ 77 + 3 = 80 := by decide +kernel
theorem D_X_joined_89 : decode prog_7_method_9_code 89 = .ok (.ireturn, 1) := by decide +kernel
theorem D_X_joined_149 : decode prog_7_method_9_code 149 = .ok (.iload_n 2, 1) ∧ 149 + 1 = 150 := by decide +kernel
theorem D_X_joined_150 : decode prog_7_method_9_code 150 = .ok (.ifCond .ne 7, 3) ∧ ((150 : Nat) : Int) + 7 = ((157 : Nat) : Int) ∧ 150 + 3 = 153 := by decide +kernel
theorem D_X_joined_157 : decode prog_7_method_9_code 157 = .ok (.iload_n 1, 1) ∧ 157 + 1 = 158 := by decide +kernel
theorem D_X_joined_158 : decode prog_7_method_9_code 158 = .ok (.iload_n 2, 1) ∧ 158 + 1 = 159 := by decide +kernel
theorem D_X_joined_159 : decode prog_7_method_9_code 159 = .ok (.idiv, 1) ∧ 159 + 1 = 160 := by decide +kernel
theorem D_X_joined_160 : decode prog_7_method_9_code 160 = .ok (.ireturn, 1) := by decide +kernel
theorem D_X_joined_153 : decode prog_7_method_9_code 153 = .ok (.iconst 0, 1) ∧ 153 + 1 = 154 := by decide +kernel
theorem D_X_joined_154 : decode prog_7_method_9_code 154 = .ok (.goto 6, 3) ∧ ((154 : Nat) : Int) + 6 = ((160 : Nat) : Int) := by decide +kernel
def f_X_joined (a1 : Int32) (a2 : Int32) (a3 : Int32) : Option (Int32) := if a1 = 38 then some (if a2 = 0 then (0 : Int32) else if a3 = 0 then (0 : Int32) else 1) else if a1 = 42 then some (a2 * a3) else if a1 = 43 then some (a2 + a3) else if a1 = 45 then some (a2 - a3) else if a1 = 60 then some (if a3 ≤ a2 then (0 : Int32) else 1) else if a1 = 61 then some (if a2 = a3 then (1 : Int32) else 0) else if a1 = 62 then some (if a2 ≤ a3 then (0 : Int32) else 1) else if a1 = 124 then some (if a2 = 0 then if a3 = 0 then (0 : Int32) else 1 else 1) else if a3 = 0 then some 0 else some (a2 / a3)
theorem c_X_joined (l : Launch) (E : En) (a1 : Int32) (a2 : Int32) (a3 : Int32) {mem : Mm} {r : Int32} (h : f_X_joined a1 a2 a3 = some r) : CtI l E 0 y_X_joined prog_7_method_9_code 3 (some .int) [.int a1, .int a2, .int a3] SH mem r mem := by
  refine mk_CtI ⟨by decide, (Nat.le_of_ble_eq_true rfl)⟩ (fun X S hl hR => ?_)
  have S : Std X E prog_7_method_9_code R4 3 0 := S
  show J X E 3 0 [(0, .int a1), (1, .int a2), (2, .int a3)] [] SH mem
  unfold f_X_joined at h
  refine j_iload_n S D_X_joined_0 0 rfl rfl ?_
  by_cases c_1_0 : a1 = 38
  · have h := ifT c_1_0 h
    refine j_lookE (tg := 90) (off := 89) S D_X_joined_1 38 c_1_0 (by decide +kernel) ?_
    refine j_iload_n S D_X_joined_90 1 rfl rfl ?_
    refine j_dia (P := J X E 3 103 [(0, .int a1), (1, .int a2), (2, .int a3)] [.int (if a2 = 0 then (0 : Int32) else if a3 = 0 then (0 : Int32) else 1)] SH mem) (fun hj => ?_) ?_
    · refine j_if_eq S D_X_joined_91 (fun c_91 => ?_) (fun c_91 => ?_)
      · refine j_iconst S D_X_joined_102 ci_0 ?_
        exact j_jnT hj c_91
      · refine j_iload_n S D_X_joined_94 2 rfl rfl ?_
        refine j_dia (P := J X E 3 103 [(0, .int a1), (1, .int a2), (2, .int a3)] [.int (if a3 = 0 then (0 : Int32) else 1)] SH mem) (fun hj => ?_) ?_
        · refine j_if_eq S D_X_joined_95 (fun c_95 => ?_) (fun c_95 => ?_)
          · refine j_iconst S D_X_joined_102 ci_0 ?_
            exact j_jnT hj c_95
          · refine j_iconst S D_X_joined_98 ci_1 ?_
            refine j_goto S D_X_joined_99 ?_
            exact j_jnF hj c_95
        exact j_jnF hj c_91
    exact rtI hR h _ _ D_X_joined_103
  · have h := ifF c_1_0 h
    by_cases c_1_1 : a1 = 42
    · have h := ifT c_1_1 h
      refine j_lookE (tg := 145) (off := 144) S D_X_joined_1 42 c_1_1 (by decide +kernel) ?_
      refine j_iload_n S D_X_joined_145 1 rfl rfl ?_
      refine j_iload_n S D_X_joined_146 2 rfl rfl ?_
      refine j_imul S D_X_joined_147 ?_
      exact rtI hR h _ _ D_X_joined_148
    · have h := ifF c_1_1 h
      by_cases c_1_2 : a1 = 43
      · have h := ifT c_1_2 h
        refine j_lookE (tg := 137) (off := 136) S D_X_joined_1 43 c_1_2 (by decide +kernel) ?_
        refine j_iload_n S D_X_joined_137 1 rfl rfl ?_
        refine j_iload_n S D_X_joined_138 2 rfl rfl ?_
        refine j_iadd S D_X_joined_139 ?_
        exact rtI hR h _ _ D_X_joined_140
      · have h := ifF c_1_2 h
        by_cases c_1_3 : a1 = 45
        · have h := ifT c_1_3 h
          refine j_lookE (tg := 141) (off := 140) S D_X_joined_1 45 c_1_3 (by decide +kernel) ?_
          refine j_iload_n S D_X_joined_141 1 rfl rfl ?_
          refine j_iload_n S D_X_joined_142 2 rfl rfl ?_
          refine j_isub S D_X_joined_143 ?_
          exact rtI hR h _ _ D_X_joined_144
        · have h := ifF c_1_3 h
          by_cases c_1_4 : a1 = 60
          · have h := ifT c_1_4 h
            refine j_lookE (tg := 104) (off := 103) S D_X_joined_1 60 c_1_4 (by decide +kernel) ?_
            refine j_iload_n S D_X_joined_104 1 rfl rfl ?_
            refine j_iload_n S D_X_joined_105 2 rfl rfl ?_
            refine j_dia (P := J X E 3 114 [(0, .int a1), (1, .int a2), (2, .int a3)] [.int (if a3 ≤ a2 then (0 : Int32) else 1)] SH mem) (fun hj => ?_) ?_
            · refine j_icmp_ge S D_X_joined_106 (fun c_106 => ?_) (fun c_106 => ?_)
              · refine j_iconst S D_X_joined_113 ci_0 ?_
                exact j_jnT hj c_106
              · refine j_iconst S D_X_joined_109 ci_1 ?_
                refine j_goto S D_X_joined_110 ?_
                exact j_jnF hj c_106
            exact rtI hR h _ _ D_X_joined_114
          · have h := ifF c_1_4 h
            by_cases c_1_5 : a1 = 61
            · have h := ifT c_1_5 h
              refine j_lookE (tg := 115) (off := 114) S D_X_joined_1 61 c_1_5 (by decide +kernel) ?_
              refine j_iload_n S D_X_joined_115 1 rfl rfl ?_
              refine j_iload_n S D_X_joined_116 2 rfl rfl ?_
              refine j_dia (P := J X E 3 125 [(0, .int a1), (1, .int a2), (2, .int a3)] [.int (if a2 = a3 then (1 : Int32) else 0)] SH mem) (fun hj => ?_) ?_
              · refine j_icmp_ne S D_X_joined_117 (fun c_117 => ?_) (fun c_117 => ?_)
                · refine j_iconst S D_X_joined_124 ci_0 ?_
                  exact j_jnF hj c_117
                · refine j_iconst S D_X_joined_120 ci_1 ?_
                  refine j_goto S D_X_joined_121 ?_
                  exact j_jnT hj c_117
              exact rtI hR h _ _ D_X_joined_125
            · have h := ifF c_1_5 h
              by_cases c_1_6 : a1 = 62
              · have h := ifT c_1_6 h
                refine j_lookE (tg := 126) (off := 125) S D_X_joined_1 62 c_1_6 (by decide +kernel) ?_
                refine j_iload_n S D_X_joined_126 1 rfl rfl ?_
                refine j_iload_n S D_X_joined_127 2 rfl rfl ?_
                refine j_dia (P := J X E 3 136 [(0, .int a1), (1, .int a2), (2, .int a3)] [.int (if a2 ≤ a3 then (0 : Int32) else 1)] SH mem) (fun hj => ?_) ?_
                · refine j_icmp_le S D_X_joined_128 (fun c_128 => ?_) (fun c_128 => ?_)
                  · refine j_iconst S D_X_joined_135 ci_0 ?_
                    exact j_jnT hj c_128
                  · refine j_iconst S D_X_joined_131 ci_1 ?_
                    refine j_goto S D_X_joined_132 ?_
                    exact j_jnF hj c_128
                exact rtI hR h _ _ D_X_joined_136
              · have h := ifF c_1_6 h
                by_cases c_1_7 : a1 = 124
                · have h := ifT c_1_7 h
                  refine j_lookE (tg := 76) (off := 75) S D_X_joined_1 124 c_1_7 (by decide +kernel) ?_
                  refine j_iload_n S D_X_joined_76 1 rfl rfl ?_
                  refine j_dia (P := J X E 3 89 [(0, .int a1), (1, .int a2), (2, .int a3)] [.int (if a2 = 0 then if a3 = 0 then (0 : Int32) else 1 else 1)] SH mem) (fun hj => ?_) ?_
                  · refine j_if_ne S D_X_joined_77 (fun c_77 => ?_) (fun c_77 => ?_)
                    · refine j_iconst S D_X_joined_84 ci_1 ?_
                      refine j_goto S D_X_joined_85 ?_
                      exact j_jnF hj c_77
                    · refine j_iload_n S D_X_joined_80 2 rfl rfl ?_
                      refine j_dia (P := J X E 3 89 [(0, .int a1), (1, .int a2), (2, .int a3)] [.int (if a3 = 0 then (0 : Int32) else 1)] SH mem) (fun hj => ?_) ?_
                      · refine j_if_eq S D_X_joined_81 (fun c_81 => ?_) (fun c_81 => ?_)
                        · refine j_iconst S D_X_joined_88 ci_0 ?_
                          exact j_jnT hj c_81
                        · refine j_iconst S D_X_joined_84 ci_1 ?_
                          refine j_goto S D_X_joined_85 ?_
                          exact j_jnF hj c_81
                      exact j_jnT hj c_77
                  exact rtI hR h _ _ D_X_joined_89
                · have h := ifF c_1_7 h
                  refine j_look (tg := 149) S D_X_joined_1 (by decide +kernel) (by show Op.lookupswitch.offset [(38, 89), (42, 144), (43, 136), (45, 140), (60, 103), (61, 114), (62, 125), (124, 75)] 148 (a1 : Int32).toInt = 148; rw [lv_osw c_1_0 (by decide +kernel), lv_osw c_1_1 (by decide +kernel), lv_osw c_1_2 (by decide +kernel), lv_osw c_1_3 (by decide +kernel), lv_osw c_1_4 (by decide +kernel), lv_osw c_1_5 (by decide +kernel), lv_osw c_1_6 (by decide +kernel), lv_osw c_1_7 (by decide +kernel)]; rfl) rfl ?_
                  refine j_iload_n S D_X_joined_149 2 rfl rfl ?_
                  refine j_if_ne S D_X_joined_150 (fun c_150 => ?_) (fun c_150 => ?_)
                  · have h := ifF c_150 h
                    refine j_iload_n S D_X_joined_157 1 rfl rfl ?_
                    refine j_iload_n S D_X_joined_158 2 rfl rfl ?_
                    refine j_idiv S D_X_joined_159 c_150 ?_
                    exact rtI hR h _ _ D_X_joined_160
                  · have h := ifT c_150 h
                    refine j_iconst S D_X_joined_153 ci_0 ?_
                    refine j_goto S D_X_joined_154 ?_
                    exact rtI hR h _ _ D_X_joined_160

def y_X_worksOut : MethodName := ⟨"SandPicture$Text", "worksOut", "(III[I)I"⟩
theorem D_X_worksOut_0 : decode prog_7_method_7_code 0 = .ok (.iconst 0, 1) ∧ 0 + 1 = 1 := by decide +kernel
theorem D_X_worksOut_1 : decode prog_7_method_7_code 1 = .ok (.istore 5, 2) ∧ 1 + 2 = 3 := by decide +kernel
theorem D_X_worksOut_3 : decode prog_7_method_7_code 3 = .ok (.iconst 0, 1) ∧ 3 + 1 = 4 := by decide +kernel
theorem D_X_worksOut_4 : decode prog_7_method_7_code 4 = .ok (.istore 6, 2) ∧ 4 + 2 = 6 := by decide +kernel
theorem D_X_worksOut_6 : decode prog_7_method_7_code 6 = .ok (.iload 6, 2) ∧ 6 + 2 = 8 := by decide +kernel
theorem D_X_worksOut_8 : decode prog_7_method_7_code 8 = .ok (.aload_n 0, 1) ∧ 8 + 1 = 9 := by decide +kernel
theorem D_X_worksOut_9 : decode prog_7_method_7_code 9 = .ok (.getfield 18, 3) ∧ 9 + 3 = 12 := by decide +kernel
theorem D_X_worksOut_12 : decode prog_7_method_7_code 12 = .ok (.if_icmp .ge 124, 3) ∧ ((12 : Nat) : Int) + 124 = ((136 : Nat) : Int) ∧ 12 + 3 = 15 := by decide +kernel
theorem D_X_worksOut_15 : decode prog_7_method_7_code 15 = .ok (.aload_n 0, 1) ∧ 15 + 1 = 16 := by decide +kernel
theorem D_X_worksOut_16 : decode prog_7_method_7_code 16 = .ok (.getfield 21, 3) ∧ 16 + 3 = 19 := by decide +kernel
theorem D_X_worksOut_19 : decode prog_7_method_7_code 19 = .ok (.iload 6, 2) ∧ 19 + 2 = 21 := by decide +kernel
theorem D_X_worksOut_21 : decode prog_7_method_7_code 21 = .ok (.iaload, 1) ∧ 21 + 1 = 22 := by decide +kernel
theorem D_X_worksOut_22 : decode prog_7_method_7_code 22 = .ok (.istore 7, 2) ∧ 22 + 2 = 24 := by decide +kernel
theorem D_X_worksOut_24 : decode prog_7_method_7_code 24 = .ok (.iload 7, 2) ∧ 24 + 2 = 26 := by decide +kernel
theorem D_X_worksOut_26 : decode prog_7_method_7_code 26 = .ok (.bipush (-3), 2) ∧ 26 + 2 = 28 := by decide +kernel
theorem D_X_worksOut_28 : decode prog_7_method_7_code 28 = .ok (.if_icmp .lt 30, 3) ∧ ((28 : Nat) : Int) + 30 = ((58 : Nat) : Int) ∧ 28 + 3 = 31 := by decide +kernel
theorem D_X_worksOut_58 : decode prog_7_method_7_code 58 = .ok (.iload 7, 2) ∧ 58 + 2 = 60 := by decide +kernel
theorem D_X_worksOut_60 : decode prog_7_method_7_code 60 = .ok (.bipush (-33), 2) ∧ 60 + 2 = 62 := by decide +kernel
theorem D_X_worksOut_62 : decode prog_7_method_7_code 62 = .ok (.if_icmp .ne 34, 3) ∧ ((62 : Nat) : Int) + 34 = ((96 : Nat) : Int) ∧ 62 + 3 = 65 := by decide +kernel
theorem D_X_worksOut_96 : decode prog_7_method_7_code 96 = .ok (.iload 5, 2) ∧ 96 + 2 = 98 := by decide +kernel
theorem D_X_worksOut_98 : decode prog_7_method_7_code 98 = .ok (.iconst 2, 1) ∧ 98 + 1 = 99 := by decide +kernel
theorem D_X_worksOut_99 : decode prog_7_method_7_code 99 = .ok (.if_icmp .lt 31, 3) ∧ ((99 : Nat) : Int) + 31 = ((130 : Nat) : Int) ∧ 99 + 3 = 102 := by decide +kernel
theorem D_X_worksOut_130 : decode prog_7_method_7_code 130 = .ok (.iinc 6 1, 3) ∧ 130 + 3 = 133 := by decide +kernel
theorem D_X_worksOut_133 : decode prog_7_method_7_code 133 = .ok (.goto (-127), 3) ∧ ((133 : Nat) : Int) + (-127) = ((6 : Nat) : Int) := by decide +kernel
theorem D_X_worksOut_102 : decode prog_7_method_7_code 102 = .ok (.iinc 5 (-1), 3) ∧ 102 + 3 = 105 := by decide +kernel
theorem D_X_worksOut_105 : decode prog_7_method_7_code 105 = .ok (.aload 4, 2) ∧ 105 + 2 = 107 := by decide +kernel
theorem D_X_worksOut_107 : decode prog_7_method_7_code 107 = .ok (.iload 5, 2) ∧ 107 + 2 = 109 := by decide +kernel
theorem D_X_worksOut_109 : decode prog_7_method_7_code 109 = .ok (.iconst 1, 1) ∧ 109 + 1 = 110 := by decide +kernel
theorem D_X_worksOut_110 : decode prog_7_method_7_code 110 = .ok (.isub, 1) ∧ 110 + 1 = 111 := by decide +kernel
theorem D_X_worksOut_111 : decode prog_7_method_7_code 111 = .ok (.iload 7, 2) ∧ 111 + 2 = 113 := by decide +kernel
theorem D_X_worksOut_113 : decode prog_7_method_7_code 113 = .ok (.ineg, 1) ∧ 113 + 1 = 114 := by decide +kernel
theorem D_X_worksOut_114 : decode prog_7_method_7_code 114 = .ok (.aload 4, 2) ∧ 114 + 2 = 116 := by decide +kernel
theorem D_X_worksOut_116 : decode prog_7_method_7_code 116 = .ok (.iload 5, 2) ∧ 116 + 2 = 118 := by decide +kernel
theorem D_X_worksOut_118 : decode prog_7_method_7_code 118 = .ok (.iconst 1, 1) ∧ 118 + 1 = 119 := by decide +kernel
theorem D_X_worksOut_119 : decode prog_7_method_7_code 119 = .ok (.isub, 1) ∧ 119 + 1 = 120 := by decide +kernel
theorem D_X_worksOut_120 : decode prog_7_method_7_code 120 = .ok (.iaload, 1) ∧ 120 + 1 = 121 := by decide +kernel
theorem D_X_worksOut_121 : decode prog_7_method_7_code 121 = .ok (.aload 4, 2) ∧ 121 + 2 = 123 := by decide +kernel
theorem D_X_worksOut_123 : decode prog_7_method_7_code 123 = .ok (.iload 5, 2) ∧ 123 + 2 = 125 := by decide +kernel
theorem D_X_worksOut_125 : decode prog_7_method_7_code 125 = .ok (.iaload, 1) ∧ 125 + 1 = 126 := by decide +kernel
theorem D_X_worksOut_126 : decode prog_7_method_7_code 126 = .ok (.invokestatic 33, 3) ∧ 126 + 3 = 129 := by decide +kernel
theorem D_X_worksOut_129 : decode prog_7_method_7_code 129 = .ok (.iastore, 1) ∧ 129 + 1 = 130 := by decide +kernel
theorem D_X_worksOut_65 : decode prog_7_method_7_code 65 = .ok (.iload 5, 2) ∧ 65 + 2 = 67 := by decide +kernel
theorem D_X_worksOut_67 : decode prog_7_method_7_code 67 = .ok (.iconst 1, 1) ∧ 67 + 1 = 68 := by decide +kernel
theorem D_X_worksOut_68 : decode prog_7_method_7_code 68 = .ok (.if_icmp .lt 62, 3) ∧ ((68 : Nat) : Int) + 62 = ((130 : Nat) : Int) ∧ 68 + 3 = 71 := by decide +kernel
theorem D_X_worksOut_71 : decode prog_7_method_7_code 71 = .ok (.aload 4, 2) ∧ 71 + 2 = 73 := by decide +kernel
theorem D_X_worksOut_73 : decode prog_7_method_7_code 73 = .ok (.iload 5, 2) ∧ 73 + 2 = 75 := by decide +kernel
theorem D_X_worksOut_75 : decode prog_7_method_7_code 75 = .ok (.iconst 1, 1) ∧ 75 + 1 = 76 := by decide +kernel
theorem D_X_worksOut_76 : decode prog_7_method_7_code 76 = .ok (.isub, 1) ∧ 76 + 1 = 77 := by decide +kernel
theorem D_X_worksOut_77 : decode prog_7_method_7_code 77 = .ok (.aload 4, 2) ∧ 77 + 2 = 79 := by decide +kernel
theorem D_X_worksOut_79 : decode prog_7_method_7_code 79 = .ok (.iload 5, 2) ∧ 79 + 2 = 81 := by decide +kernel
theorem D_X_worksOut_81 : decode prog_7_method_7_code 81 = .ok (.iconst 1, 1) ∧ 81 + 1 = 82 := by decide +kernel
theorem D_X_worksOut_82 : decode prog_7_method_7_code 82 = .ok (.isub, 1) ∧ 82 + 1 = 83 := by decide +kernel
theorem D_X_worksOut_83 : decode prog_7_method_7_code 83 = .ok (.iaload, 1) ∧ 83 + 1 = 84 := by decide +kernel
theorem D_X_worksOut_91 : decode prog_7_method_7_code 91 = .ok (.iconst 0, 1) ∧ 91 + 1 = 92 := by decide +kernel
theorem D_X_worksOut_87 : decode prog_7_method_7_code 87 = .ok (.iconst 1, 1) ∧ 87 + 1 = 88 := by decide +kernel
theorem D_X_worksOut_88 : decode prog_7_method_7_code 88 = .ok (.goto 4, 3) ∧ ((88 : Nat) : Int) + 4 = ((92 : Nat) : Int) := by decide +kernel
theorem D_X_worksOut_84 : decode prog_7_method_7_code 84 = .ok (.ifCond .ne 7, 3) ∧ ((84 : Nat) : Int) + 7 = ((91 : Nat) : Int) ∧ 84 + 3 = 87 := by decide +kernel
theorem D_X_worksOut_92 : decode prog_7_method_7_code 92 = .ok (.iastore, 1) ∧ 92 + 1 = 93 := by decide +kernel
theorem D_X_worksOut_93 : decode prog_7_method_7_code 93 = .ok (.goto 37, 3) ∧ ((93 : Nat) : Int) + 37 = ((130 : Nat) : Int) := by decide +kernel
theorem D_X_worksOut_31 : decode prog_7_method_7_code 31 = .ok (.iload 5, 2) ∧ 31 + 2 = 33 := by decide +kernel
theorem D_X_worksOut_33 : decode prog_7_method_7_code 33 = .ok (.aload 4, 2) ∧ 33 + 2 = 35 := by decide +kernel
theorem D_X_worksOut_35 : decode prog_7_method_7_code 35 = .ok (.arraylength, 1) ∧ 35 + 1 = 36 := by decide +kernel
theorem D_X_worksOut_36 : decode prog_7_method_7_code 36 = .ok (.if_icmp .ge 94, 3) ∧ ((36 : Nat) : Int) + 94 = ((130 : Nat) : Int) ∧ 36 + 3 = 39 := by decide +kernel
theorem D_X_worksOut_39 : decode prog_7_method_7_code 39 = .ok (.aload 4, 2) ∧ 39 + 2 = 41 := by decide +kernel
theorem D_X_worksOut_41 : decode prog_7_method_7_code 41 = .ok (.iload 5, 2) ∧ 41 + 2 = 43 := by decide +kernel
theorem D_X_worksOut_43 : decode prog_7_method_7_code 43 = .ok (.iload 7, 2) ∧ 43 + 2 = 45 := by decide +kernel
theorem D_X_worksOut_45 : decode prog_7_method_7_code 45 = .ok (.iload_n 1, 1) ∧ 45 + 1 = 46 := by decide +kernel
theorem D_X_worksOut_46 : decode prog_7_method_7_code 46 = .ok (.iload_n 2, 1) ∧ 46 + 1 = 47 := by decide +kernel
theorem D_X_worksOut_47 : decode prog_7_method_7_code 47 = .ok (.iload_n 3, 1) ∧ 47 + 1 = 48 := by decide +kernel
theorem D_X_worksOut_48 : decode prog_7_method_7_code 48 = .ok (.invokestatic 29, 3) ∧ 48 + 3 = 51 := by decide +kernel
theorem D_X_worksOut_51 : decode prog_7_method_7_code 51 = .ok (.iastore, 1) ∧ 51 + 1 = 52 := by decide +kernel
theorem D_X_worksOut_52 : decode prog_7_method_7_code 52 = .ok (.iinc 5 1, 3) ∧ 52 + 3 = 55 := by decide +kernel
theorem D_X_worksOut_55 : decode prog_7_method_7_code 55 = .ok (.goto 75, 3) ∧ ((55 : Nat) : Int) + 75 = ((130 : Nat) : Int) := by decide +kernel
theorem D_X_worksOut_136 : decode prog_7_method_7_code 136 = .ok (.iload 5, 2) ∧ 136 + 2 = 138 := by decide +kernel
theorem D_X_worksOut_148 : decode prog_7_method_7_code 148 = .ok (.iconst 0, 1) ∧ 148 + 1 = 149 := by decide +kernel
theorem D_X_worksOut_141 : decode prog_7_method_7_code 141 = .ok (.aload 4, 2) ∧ 141 + 2 = 143 := by decide +kernel
theorem D_X_worksOut_143 : decode prog_7_method_7_code 143 = .ok (.iconst 0, 1) ∧ 143 + 1 = 144 := by decide +kernel
theorem D_X_worksOut_144 : decode prog_7_method_7_code 144 = .ok (.iaload, 1) ∧ 144 + 1 = 145 := by decide +kernel
theorem D_X_worksOut_145 : decode prog_7_method_7_code 145 = .ok (.goto 4, 3) ∧ ((145 : Nat) : Int) + 4 = ((149 : Nat) : Int) := by decide +kernel
theorem D_X_worksOut_138 : decode prog_7_method_7_code 138 = .ok (.ifCond .le 10, 3) ∧ ((138 : Nat) : Int) + 10 = ((148 : Nat) : Int) ∧ 138 + 3 = 141 := by decide +kernel
theorem D_X_worksOut_149 : decode prog_7_method_7_code 149 = .ok (.ireturn, 1) := by decide +kernel
def f_X_worksOut_L6 (p : Nat) : Nat → Int32 → Int32 → Int32 → Int32 → Int32 → Mm → Option ((Int32 × Int32) × Mm)
  | 0, _, _, _, _, _, _ => none
  | n + 1, b1, b2, b3, b5, b6, mem => if mem p 2 ≤ b6 then some ((b5, b6), mem) else if inb b6 96 = true then lt (mem (p + 1) (ix b6)) fun x_22 => if x_22 < (-3) then if x_22 = (-33) then if b5 < 1 then f_X_worksOut_L6 p n b1 b2 b3 b5 (b6 + 1) mem else if inb (b5 - 1) 96 = true then lt (mst mem 37 (ix (b5 - 1)) (if mem 37 (ix (b5 - 1)) = 0 then (1 : Int32) else 0)) fun m_92 => f_X_worksOut_L6 p n b1 b2 b3 b5 (b6 + 1) m_92 else none else if b5 < 2 then f_X_worksOut_L6 p n b1 b2 b3 b5 (b6 + 1) mem else if inb ((b5 + (-1)) - 1) 96 = true then if inb (b5 + (-1)) 96 = true then bp (f_X_joined (-x_22) (mem 37 (ix ((b5 + (-1)) - 1))) (mem 37 (ix (b5 + (-1))))) fun r_126 => lt (mst mem 37 (ix ((b5 + (-1)) - 1)) r_126) fun m_129 => f_X_worksOut_L6 p n b1 b2 b3 (b5 + (-1)) (b6 + 1) m_129 else none else none else if 96 ≤ b5 then f_X_worksOut_L6 p n b1 b2 b3 b5 (b6 + 1) mem else bp (f_X_leaf x_22 b1 b2 b3) fun r_48 => if inb b5 96 = true then lt (mst mem 37 (ix b5) r_48) fun m_51 => f_X_worksOut_L6 p n b1 b2 b3 (b5 + 1) (b6 + 1) m_51 else none else none
def f_X_worksOut (N : Nat) (p : Nat) (a1 : Int32) (a2 : Int32) (a3 : Int32) (mem : Mm) : Option (Int32 × Mm) := bd (f_X_worksOut_L6 p N a1 a2 a3 0 0 mem) fun y_6 m_6 => some (if y_6.1 ≤ 0 then (0 : Int32) else m_6 37 (ix 0), m_6)
theorem L_X_worksOut_6 {X : Cx} {E : En} (S : Std X E prog_7_method_7_code R4 8 1) (p : Nat) (hp : isTxt p) : ∀ (n : Nat) (b1 : Int32) (b2 : Int32) (b3 : Int32) (b5 : Int32) (b6 : Int32) (mem : Mm) (z : Int32 × Int32) (m2 : Mm), f_X_worksOut_L6 p n b1 b2 b3 b5 b6 mem = some (z, m2) → J X E 8 136 [(0, .ref (eb E + p)), (1, .int b1), (2, .int b2), (3, .int b3), (4, .ref (eb E + 37)), (5, .int z.1), (6, .int z.2)] [] SH m2 → J X E 8 6 [(0, .ref (eb E + p)), (1, .int b1), (2, .int b2), (3, .int b3), (4, .ref (eb E + 37)), (5, .int b5), (6, .int b6)] [] SH mem := by
  intro n
  induction n with
  | zero =>
    intro b1 b2 b3 b5 b6 mem z m2 h hk; cases h
  | succ n ih =>
    intro b1 b2 b3 b5 b6 mem z m2 h hk
    rw [f_X_worksOut_L6] at h
    refine j_iload S D_X_worksOut_6 6 rfl ?_
    refine j_aload_n S D_X_worksOut_8 0 rfl rfl ?_
    refine j_getI S D_X_worksOut_9 fl_R4_18 (sh_txt hp) rfl ?_
    refine j_icmp_ge S D_X_worksOut_12 (fun c_12 => ?_) (fun c_12 => ?_)
    · have h := ifT c_12 h
      cases h
      exact j_locals [0, 1, 2, 3, 4, 5, 6] rfl hk
    · have h := ifF c_12 h
      refine j_aload_n S D_X_worksOut_15 0 rfl rfl ?_
      refine j_getR S D_X_worksOut_16 fl_R4_21 (sh_txt hp) rfl ?_
      refine j_iload S D_X_worksOut_19 6 rfl ?_
      obtain ⟨g_21, h⟩ := gdE h
      refine j_iald S D_X_worksOut_21 (sh_txt1 hp) g_21 ?_
      obtain ⟨x_22, hx_22, h⟩ := ltE h
      refine j_nm hx_22 ?_
      refine j_istore S D_X_worksOut_22 (lv := [(7, .int x_22), (0, .ref (eb E + p)), (1, .int b1), (2, .int b2), (3, .int b3), (4, .ref (eb E + 37)), (5, .int b5), (6, .int b6)]) rfl (Nat.le_of_ble_eq_true rfl) ?_
      refine j_iload S D_X_worksOut_24 0 rfl ?_
      refine j_bipush S D_X_worksOut_26 cb_m3 ?_
      refine j_icmp_lt S D_X_worksOut_28 (fun c_28 => ?_) (fun c_28 => ?_)
      · have h := ifT c_28 h
        refine j_iload S D_X_worksOut_58 0 rfl ?_
        refine j_bipush S D_X_worksOut_60 cb_m33 ?_
        refine j_icmp_ne S D_X_worksOut_62 (fun c_62 => ?_) (fun c_62 => ?_)
        · have h := ifF c_62 h
          refine j_iload S D_X_worksOut_96 6 rfl ?_
          refine j_iconst S D_X_worksOut_98 ci_2 ?_
          refine j_icmp_lt S D_X_worksOut_99 (fun c_99 => ?_) (fun c_99 => ?_)
          · have h := ifT c_99 h
            refine j_iinc S D_X_worksOut_130 7 rfl (congrArg (fun z => b6 + z) ci_1) (lv := [(6, .int (b6 + 1)), (7, .int x_22), (0, .ref (eb E + p)), (1, .int b1), (2, .int b2), (3, .int b3), (4, .ref (eb E + 37)), (5, .int b5)]) rfl (Nat.le_of_ble_eq_true rfl) ?_
            refine j_goto S D_X_worksOut_133 ?_
            refine j_locals [2, 3, 4, 5, 6, 7, 0] rfl (ih b1 b2 b3 b5 (b6 + 1) mem _ _ h hk)
          · have h := ifF c_99 h
            refine j_iinc S D_X_worksOut_102 6 rfl (congrArg (fun z => b5 + z) ci_m1) (lv := [(5, .int (b5 + (-1))), (7, .int x_22), (0, .ref (eb E + p)), (1, .int b1), (2, .int b2), (3, .int b3), (4, .ref (eb E + 37)), (6, .int b6)]) rfl (Nat.le_of_ble_eq_true rfl) ?_
            refine j_aload S D_X_worksOut_105 6 rfl ?_
            refine j_iload S D_X_worksOut_107 0 rfl ?_
            refine j_iconst S D_X_worksOut_109 ci_1 ?_
            refine j_isub S D_X_worksOut_110 ?_
            refine j_iload S D_X_worksOut_111 1 rfl ?_
            refine j_ineg S D_X_worksOut_113 ?_
            refine j_aload S D_X_worksOut_114 6 rfl ?_
            refine j_iload S D_X_worksOut_116 0 rfl ?_
            refine j_iconst S D_X_worksOut_118 ci_1 ?_
            refine j_isub S D_X_worksOut_119 ?_
            obtain ⟨g_120, h⟩ := gdE h
            refine j_iald S D_X_worksOut_120 sh_37 g_120 ?_
            refine j_aload S D_X_worksOut_121 6 rfl ?_
            refine j_iload S D_X_worksOut_123 0 rfl ?_
            obtain ⟨g_125, h⟩ := gdE h
            refine j_iald S D_X_worksOut_125 sh_37 g_125 ?_
            obtain ⟨r_126, e_126, h⟩ := bpE h
            refine j_callSI (As := [.int (-x_22), .int (mem 37 (ix ((b5 + (-1)) - 1))), .int (mem 37 (ix (b5 + (-1))))]) S D_X_worksOut_126 ms_R4_33 (c_X_joined (cxL X) E (-x_22) (mem 37 (ix ((b5 + (-1)) - 1))) (mem 37 (ix (b5 + (-1)))) (mem := mem) e_126) (by decide) rfl rfl (Nat.le_of_ble_eq_true rfl) ?_
            obtain ⟨m_129, hm_129, h⟩ := ltE h
            refine j_iast S D_X_worksOut_129 sh_37 g_120 ?_
            refine j_mem hm_129 ?_
            refine j_iinc S D_X_worksOut_130 7 rfl (congrArg (fun z => b6 + z) ci_1) (lv := [(6, .int (b6 + 1)), (5, .int (b5 + (-1))), (7, .int x_22), (0, .ref (eb E + p)), (1, .int b1), (2, .int b2), (3, .int b3), (4, .ref (eb E + 37))]) rfl (Nat.le_of_ble_eq_true rfl) ?_
            refine j_goto S D_X_worksOut_133 ?_
            refine j_locals [3, 4, 5, 6, 7, 1, 0] rfl (ih b1 b2 b3 (b5 + (-1)) (b6 + 1) m_129 _ _ h hk)
        · have h := ifT c_62 h
          refine j_iload S D_X_worksOut_65 6 rfl ?_
          refine j_iconst S D_X_worksOut_67 ci_1 ?_
          refine j_icmp_lt S D_X_worksOut_68 (fun c_68 => ?_) (fun c_68 => ?_)
          · have h := ifT c_68 h
            refine j_iinc S D_X_worksOut_130 7 rfl (congrArg (fun z => b6 + z) ci_1) (lv := [(6, .int (b6 + 1)), (7, .int x_22), (0, .ref (eb E + p)), (1, .int b1), (2, .int b2), (3, .int b3), (4, .ref (eb E + 37)), (5, .int b5)]) rfl (Nat.le_of_ble_eq_true rfl) ?_
            refine j_goto S D_X_worksOut_133 ?_
            refine j_locals [2, 3, 4, 5, 6, 7, 0] rfl (ih b1 b2 b3 b5 (b6 + 1) mem _ _ h hk)
          · have h := ifF c_68 h
            refine j_aload S D_X_worksOut_71 5 rfl ?_
            refine j_iload S D_X_worksOut_73 6 rfl ?_
            refine j_iconst S D_X_worksOut_75 ci_1 ?_
            refine j_isub S D_X_worksOut_76 ?_
            refine j_aload S D_X_worksOut_77 5 rfl ?_
            refine j_iload S D_X_worksOut_79 6 rfl ?_
            refine j_iconst S D_X_worksOut_81 ci_1 ?_
            refine j_isub S D_X_worksOut_82 ?_
            obtain ⟨g_83, h⟩ := gdE h
            refine j_iald S D_X_worksOut_83 sh_37 g_83 ?_
            refine j_dia (P := J X E 8 92 [(7, .int x_22), (0, .ref (eb E + p)), (1, .int b1), (2, .int b2), (3, .int b3), (4, .ref (eb E + 37)), (5, .int b5), (6, .int b6)] [.int (if mem 37 (ix (b5 - 1)) = 0 then (1 : Int32) else 0), .int (b5 - 1), .ref (eb E + 37)] SH mem) (fun hj => ?_) ?_
            · refine j_if_ne S D_X_worksOut_84 (fun c_84 => ?_) (fun c_84 => ?_)
              · refine j_iconst S D_X_worksOut_91 ci_0 ?_
                exact j_jnF hj c_84
              · refine j_iconst S D_X_worksOut_87 ci_1 ?_
                refine j_goto S D_X_worksOut_88 ?_
                exact j_jnT hj c_84
            obtain ⟨m_92, hm_92, h⟩ := ltE h
            refine j_iast S D_X_worksOut_92 sh_37 g_83 ?_
            refine j_mem hm_92 ?_
            refine j_goto S D_X_worksOut_93 ?_
            refine j_iinc S D_X_worksOut_130 7 rfl (congrArg (fun z => b6 + z) ci_1) (lv := [(6, .int (b6 + 1)), (7, .int x_22), (0, .ref (eb E + p)), (1, .int b1), (2, .int b2), (3, .int b3), (4, .ref (eb E + 37)), (5, .int b5)]) rfl (Nat.le_of_ble_eq_true rfl) ?_
            refine j_goto S D_X_worksOut_133 ?_
            refine j_locals [2, 3, 4, 5, 6, 7, 0] rfl (ih b1 b2 b3 b5 (b6 + 1) m_92 _ _ h hk)
      · have h := ifF c_28 h
        refine j_iload S D_X_worksOut_31 6 rfl ?_
        refine j_aload S D_X_worksOut_33 5 rfl ?_
        refine j_alen S D_X_worksOut_35 sh_37 cn_96 ?_
        refine j_icmp_ge S D_X_worksOut_36 (fun c_36 => ?_) (fun c_36 => ?_)
        · have h := ifT c_36 h
          refine j_iinc S D_X_worksOut_130 7 rfl (congrArg (fun z => b6 + z) ci_1) (lv := [(6, .int (b6 + 1)), (7, .int x_22), (0, .ref (eb E + p)), (1, .int b1), (2, .int b2), (3, .int b3), (4, .ref (eb E + 37)), (5, .int b5)]) rfl (Nat.le_of_ble_eq_true rfl) ?_
          refine j_goto S D_X_worksOut_133 ?_
          refine j_locals [2, 3, 4, 5, 6, 7, 0] rfl (ih b1 b2 b3 b5 (b6 + 1) mem _ _ h hk)
        · have h := ifF c_36 h
          refine j_aload S D_X_worksOut_39 5 rfl ?_
          refine j_iload S D_X_worksOut_41 6 rfl ?_
          refine j_iload S D_X_worksOut_43 0 rfl ?_
          refine j_iload_n S D_X_worksOut_45 2 rfl rfl ?_
          refine j_iload_n S D_X_worksOut_46 3 rfl rfl ?_
          refine j_iload_n S D_X_worksOut_47 4 rfl rfl ?_
          obtain ⟨r_48, e_48, h⟩ := bpE h
          refine j_callSI (As := [.int x_22, .int b1, .int b2, .int b3]) S D_X_worksOut_48 ms_R4_29 (c_X_leaf (cxL X) E x_22 b1 b2 b3 (mem := mem) e_48) (by decide) rfl rfl (Nat.le_of_ble_eq_true rfl) ?_
          obtain ⟨g_51, h⟩ := gdE h
          obtain ⟨m_51, hm_51, h⟩ := ltE h
          refine j_iast S D_X_worksOut_51 sh_37 g_51 ?_
          refine j_mem hm_51 ?_
          refine j_iinc S D_X_worksOut_52 6 rfl (congrArg (fun z => b5 + z) ci_1) (lv := [(5, .int (b5 + 1)), (7, .int x_22), (0, .ref (eb E + p)), (1, .int b1), (2, .int b2), (3, .int b3), (4, .ref (eb E + 37)), (6, .int b6)]) rfl (Nat.le_of_ble_eq_true rfl) ?_
          refine j_goto S D_X_worksOut_55 ?_
          refine j_iinc S D_X_worksOut_130 7 rfl (congrArg (fun z => b6 + z) ci_1) (lv := [(6, .int (b6 + 1)), (5, .int (b5 + 1)), (7, .int x_22), (0, .ref (eb E + p)), (1, .int b1), (2, .int b2), (3, .int b3), (4, .ref (eb E + 37))]) rfl (Nat.le_of_ble_eq_true rfl) ?_
          refine j_goto S D_X_worksOut_133 ?_
          refine j_locals [3, 4, 5, 6, 7, 1, 0] rfl (ih b1 b2 b3 (b5 + 1) (b6 + 1) m_51 _ _ h hk)
theorem c_X_worksOut (l : Launch) (E : En) (N : Nat) (p : Nat) (hp : isTxt p) (a1 : Int32) (a2 : Int32) (a3 : Int32) {mem : Mm} {r : Int32} {m2 : Mm} (h : f_X_worksOut N p a1 a2 a3 mem = some (r, m2)) : CtI l E 1 y_X_worksOut prog_7_method_7_code 8 (some .int) [.ref (eb E + p), .int a1, .int a2, .int a3, .ref (eb E + 37)] SH mem r m2 := by
  refine mk_CtI ⟨by decide, (Nat.le_of_ble_eq_true rfl)⟩ (fun X S hl hR => ?_)
  have S : Std X E prog_7_method_7_code R4 8 1 := S
  show J X E 8 0 [(0, .ref (eb E + p)), (1, .int a1), (2, .int a2), (3, .int a3), (4, .ref (eb E + 37))] [] SH mem
  unfold f_X_worksOut at h
  refine j_iconst S D_X_worksOut_0 ci_0 ?_
  refine j_istore S D_X_worksOut_1 (lv := [(5, .int 0), (0, .ref (eb E + p)), (1, .int a1), (2, .int a2), (3, .int a3), (4, .ref (eb E + 37))]) rfl (Nat.le_of_ble_eq_true rfl) ?_
  refine j_iconst S D_X_worksOut_3 ci_0 ?_
  refine j_istore S D_X_worksOut_4 (lv := [(6, .int 0), (5, .int 0), (0, .ref (eb E + p)), (1, .int a1), (2, .int a2), (3, .int a3), (4, .ref (eb E + 37))]) rfl (Nat.le_of_ble_eq_true rfl) ?_
  refine j_locals [2, 3, 4, 5, 6, 1, 0] rfl ?_
  obtain ⟨y_6, m_6, e_6, h⟩ := bdE h
  refine L_X_worksOut_6 S p hp N a1 a2 a3 0 0 mem _ _ e_6 ?_
  refine j_iload S D_X_worksOut_136 5 rfl ?_
  refine j_dia (P := J X E 8 149 [(0, .ref (eb E + p)), (1, .int a1), (2, .int a2), (3, .int a3), (4, .ref (eb E + 37)), (5, .int y_6.1), (6, .int y_6.2)] [.int (if y_6.1 ≤ 0 then (0 : Int32) else m_6 37 (ix 0))] SH m_6) (fun hj => ?_) ?_
  · refine j_if_le S D_X_worksOut_138 (fun c_138 => ?_) (fun c_138 => ?_)
    · refine j_iconst S D_X_worksOut_148 ci_0 ?_
      exact j_jnT hj c_138
    · refine j_aload S D_X_worksOut_141 4 rfl ?_
      refine j_iconst S D_X_worksOut_143 ci_0 ?_
      refine j_iald S D_X_worksOut_144 sh_37 inbc_0_96 ?_
      refine j_goto S D_X_worksOut_145 ?_
      exact j_jnF hj c_138
  exact rtM hR h _ _ D_X_worksOut_149

def y_X_addCode : MethodName := ⟨"SandPicture$Text", "addCode", "(I)V"⟩
theorem D_X_addCode_0 : decode prog_7_method_6_code 0 = .ok (.aload_n 0, 1) ∧ 0 + 1 = 1 := by decide +kernel
theorem D_X_addCode_1 : decode prog_7_method_6_code 1 = .ok (.getfield 18, 3) ∧ 1 + 3 = 4 := by decide +kernel
theorem D_X_addCode_4 : decode prog_7_method_6_code 4 = .ok (.aload_n 0, 1) ∧ 4 + 1 = 5 := by decide +kernel
theorem D_X_addCode_5 : decode prog_7_method_6_code 5 = .ok (.getfield 21, 3) ∧ 5 + 3 = 8 := by decide +kernel
theorem D_X_addCode_8 : decode prog_7_method_6_code 8 = .ok (.arraylength, 1) ∧ 8 + 1 = 9 := by decide +kernel
theorem D_X_addCode_9 : decode prog_7_method_6_code 9 = .ok (.if_icmp .ge 23, 3) ∧ ((9 : Nat) : Int) + 23 = ((32 : Nat) : Int) ∧ 9 + 3 = 12 := by decide +kernel
theorem D_X_addCode_32 : decode prog_7_method_6_code 32 = .ok (.return_, 1) := by decide +kernel
theorem D_X_addCode_12 : decode prog_7_method_6_code 12 = .ok (.aload_n 0, 1) ∧ 12 + 1 = 13 := by decide +kernel
theorem D_X_addCode_13 : decode prog_7_method_6_code 13 = .ok (.getfield 21, 3) ∧ 13 + 3 = 16 := by decide +kernel
theorem D_X_addCode_16 : decode prog_7_method_6_code 16 = .ok (.aload_n 0, 1) ∧ 16 + 1 = 17 := by decide +kernel
theorem D_X_addCode_17 : decode prog_7_method_6_code 17 = .ok (.getfield 18, 3) ∧ 17 + 3 = 20 := by decide +kernel
theorem D_X_addCode_20 : decode prog_7_method_6_code 20 = .ok (.iload_n 1, 1) ∧ 20 + 1 = 21 := by decide +kernel
theorem D_X_addCode_21 : decode prog_7_method_6_code 21 = .ok (.iastore, 1) ∧ 21 + 1 = 22 := by decide +kernel
theorem D_X_addCode_22 : decode prog_7_method_6_code 22 = .ok (.aload_n 0, 1) ∧ 22 + 1 = 23 := by decide +kernel
theorem D_X_addCode_23 : decode prog_7_method_6_code 23 = .ok (.dup, 1) ∧ 23 + 1 = 24 := by decide +kernel
theorem D_X_addCode_24 : decode prog_7_method_6_code 24 = .ok (.getfield 18, 3) ∧ 24 + 3 = 27 := by decide +kernel
theorem D_X_addCode_27 : decode prog_7_method_6_code 27 = .ok (.iconst 1, 1) ∧ 27 + 1 = 28 := by decide +kernel
theorem D_X_addCode_28 : decode prog_7_method_6_code 28 = .ok (.iadd, 1) ∧ 28 + 1 = 29 := by decide +kernel
theorem D_X_addCode_29 : decode prog_7_method_6_code 29 = .ok (.putfield 18, 3) ∧ 29 + 3 = 32 := by decide +kernel
def f_X_addCode (p : Nat) (a1 : Int32) (mem : Mm) : Option (Mm) := if 96 ≤ mem p 2 then some mem else if inb (mem p 2) 96 = true then lt (mst mem (p + 1) (ix (mem p 2)) a1) fun m_21 => lt (mst m_21 p 2 ((m_21 p 2) + 1)) fun m_29 => some m_29 else none
theorem c_X_addCode (l : Launch) (E : En) (p : Nat) (hp : isTxt p) (a1 : Int32) {mem : Mm} {m2 : Mm} (h : f_X_addCode p a1 mem = some m2) : CtV l E 0 y_X_addCode prog_7_method_6_code 2 [.ref (eb E + p), .int a1] SH mem m2 := by
  refine mk_CtV ⟨by decide, (Nat.le_of_ble_eq_true rfl)⟩ (fun X S hl hR => ?_)
  have S : Std X E prog_7_method_6_code R4 2 0 := S
  show J X E 2 0 [(0, .ref (eb E + p)), (1, .int a1)] [] SH mem
  unfold f_X_addCode at h
  refine j_aload_n S D_X_addCode_0 0 rfl rfl ?_
  refine j_getI S D_X_addCode_1 fl_R4_18 (sh_txt hp) rfl ?_
  refine j_aload_n S D_X_addCode_4 0 rfl rfl ?_
  refine j_getR S D_X_addCode_5 fl_R4_21 (sh_txt hp) rfl ?_
  refine j_alen S D_X_addCode_8 (sh_txt1 hp) cn_96 ?_
  refine j_icmp_ge S D_X_addCode_9 (fun c_9 => ?_) (fun c_9 => ?_)
  · have h := ifT c_9 h
    exact rtV hR h _ _ D_X_addCode_32
  · have h := ifF c_9 h
    refine j_aload_n S D_X_addCode_12 0 rfl rfl ?_
    refine j_getR S D_X_addCode_13 fl_R4_21 (sh_txt hp) rfl ?_
    refine j_aload_n S D_X_addCode_16 0 rfl rfl ?_
    refine j_getI S D_X_addCode_17 fl_R4_18 (sh_txt hp) rfl ?_
    refine j_iload_n S D_X_addCode_20 1 rfl rfl ?_
    obtain ⟨g_21, h⟩ := gdE h
    obtain ⟨m_21, hm_21, h⟩ := ltE h
    refine j_iast S D_X_addCode_21 (sh_txt1 hp) g_21 ?_
    refine j_mem hm_21 ?_
    refine j_aload_n S D_X_addCode_22 0 rfl rfl ?_
    refine j_dup S D_X_addCode_23 rfl ?_
    refine j_getI S D_X_addCode_24 fl_R4_18 (sh_txt hp) rfl ?_
    refine j_iconst S D_X_addCode_27 ci_1 ?_
    refine j_iadd S D_X_addCode_28 ?_
    obtain ⟨m_29, hm_29, h⟩ := ltE h
    refine j_putI S D_X_addCode_29 fp_R4_18 (sh_txt hp) rfl ?_
    refine j_mem hm_29 ?_
    exact rtV hR h _ _ D_X_addCode_32

def y_X_addNumber : MethodName := ⟨"SandPicture$Text", "addNumber", "(I)V"⟩
theorem D_X_addNumber_0 : decode prog_7_method_3_code 0 = .ok (.aload_n 0, 1) ∧ 0 + 1 = 1 := by decide +kernel
theorem D_X_addNumber_1 : decode prog_7_method_3_code 1 = .ok (.iload_n 1, 1) ∧ 1 + 1 = 2 := by decide +kernel
theorem D_X_addNumber_2 : decode prog_7_method_3_code 2 = .ok (.invokevirtual 25, 3) ∧ 2 + 3 = 5 := by decide +kernel
theorem D_X_addNumber_5 : decode prog_7_method_3_code 5 = .ok (.aload_n 0, 1) ∧ 5 + 1 = 6 := by decide +kernel
theorem D_X_addNumber_6 : decode prog_7_method_3_code 6 = .ok (.dup, 1) ∧ 6 + 1 = 7 := by decide +kernel
theorem D_X_addNumber_7 : decode prog_7_method_3_code 7 = .ok (.getfield 15, 3) ∧ 7 + 3 = 10 := by decide +kernel
theorem D_X_addNumber_10 : decode prog_7_method_3_code 10 = .ok (.iconst 1, 1) ∧ 10 + 1 = 11 := by decide +kernel
theorem D_X_addNumber_11 : decode prog_7_method_3_code 11 = .ok (.iadd, 1) ∧ 11 + 1 = 12 := by decide +kernel
theorem D_X_addNumber_12 : decode prog_7_method_3_code 12 = .ok (.putfield 15, 3) ∧ 12 + 3 = 15 := by decide +kernel
theorem D_X_addNumber_15 : decode prog_7_method_3_code 15 = .ok (.return_, 1) := by decide +kernel
def f_X_addNumber (p : Nat) (a1 : Int32) (mem : Mm) : Option (Mm) := bp (f_X_addCode p a1 mem) fun m_2 => lt (mst m_2 p 1 ((m_2 p 1) + 1)) fun m_12 => some m_12
theorem c_X_addNumber (l : Launch) (E : En) (p : Nat) (hp : isTxt p) (a1 : Int32) {mem : Mm} {m2 : Mm} (h : f_X_addNumber p a1 mem = some m2) : CtV l E 1 y_X_addNumber prog_7_method_3_code 2 [.ref (eb E + p), .int a1] SH mem m2 := by
  refine mk_CtV ⟨by decide, (Nat.le_of_ble_eq_true rfl)⟩ (fun X S hl hR => ?_)
  have S : Std X E prog_7_method_3_code R4 2 1 := S
  show J X E 2 0 [(0, .ref (eb E + p)), (1, .int a1)] [] SH mem
  unfold f_X_addNumber at h
  refine j_aload_n S D_X_addNumber_0 0 rfl rfl ?_
  refine j_iload_n S D_X_addNumber_1 1 rfl rfl ?_
  obtain ⟨m_2, e_2, h⟩ := bpE h
  refine j_callVV (As := [.int a1]) S D_X_addNumber_2 mv_R4_25 (c_X_addCode (cxL X) E p hp a1 e_2) (by decide) (sh_txt hp) rfl rfl rfl rfl (Nat.le_of_ble_eq_true rfl) ?_
  refine j_aload_n S D_X_addNumber_5 0 rfl rfl ?_
  refine j_dup S D_X_addNumber_6 rfl ?_
  refine j_getI S D_X_addNumber_7 fl_R4_15 (sh_txt hp) rfl ?_
  refine j_iconst S D_X_addNumber_10 ci_1 ?_
  refine j_iadd S D_X_addNumber_11 ?_
  obtain ⟨m_12, hm_12, h⟩ := ltE h
  refine j_putI S D_X_addNumber_12 fp_R4_15 (sh_txt hp) rfl ?_
  refine j_mem hm_12 ?_
  exact rtV hR h _ _ D_X_addNumber_15

def y_X_clear : MethodName := ⟨"SandPicture$Text", "clear", "()V"⟩
theorem D_X_clear_0 : decode prog_7_method_2_code 0 = .ok (.aload_n 0, 1) ∧ 0 + 1 = 1 := by decide +kernel
theorem D_X_clear_1 : decode prog_7_method_2_code 1 = .ok (.iconst 0, 1) ∧ 1 + 1 = 2 := by decide +kernel
theorem D_X_clear_2 : decode prog_7_method_2_code 2 = .ok (.putfield 18, 3) ∧ 2 + 3 = 5 := by decide +kernel
theorem D_X_clear_5 : decode prog_7_method_2_code 5 = .ok (.aload_n 0, 1) ∧ 5 + 1 = 6 := by decide +kernel
theorem D_X_clear_6 : decode prog_7_method_2_code 6 = .ok (.iconst 0, 1) ∧ 6 + 1 = 7 := by decide +kernel
theorem D_X_clear_7 : decode prog_7_method_2_code 7 = .ok (.putfield 15, 3) ∧ 7 + 3 = 10 := by decide +kernel
theorem D_X_clear_10 : decode prog_7_method_2_code 10 = .ok (.return_, 1) := by decide +kernel
def f_X_clear (p : Nat) (mem : Mm) : Option (Mm) := lt (mst mem p 2 0) fun m_2 => lt (mst m_2 p 1 0) fun m_7 => some m_7
theorem c_X_clear (l : Launch) (E : En) (p : Nat) (hp : isTxt p) {mem : Mm} {m2 : Mm} (h : f_X_clear p mem = some m2) : CtV l E 0 y_X_clear prog_7_method_2_code 1 [.ref (eb E + p)] SH mem m2 := by
  refine mk_CtV ⟨by decide, (Nat.le_of_ble_eq_true rfl)⟩ (fun X S hl hR => ?_)
  have S : Std X E prog_7_method_2_code R4 1 0 := S
  show J X E 1 0 [(0, .ref (eb E + p))] [] SH mem
  unfold f_X_clear at h
  refine j_aload_n S D_X_clear_0 0 rfl rfl ?_
  refine j_iconst S D_X_clear_1 ci_0 ?_
  obtain ⟨m_2, hm_2, h⟩ := ltE h
  refine j_putI S D_X_clear_2 fp_R4_18 (sh_txt hp) rfl ?_
  refine j_mem hm_2 ?_
  refine j_aload_n S D_X_clear_5 0 rfl rfl ?_
  refine j_iconst S D_X_clear_6 ci_0 ?_
  obtain ⟨m_7, hm_7, h⟩ := ltE h
  refine j_putI S D_X_clear_7 fp_R4_15 (sh_txt hp) rfl ?_
  refine j_mem hm_7 ?_
  exact rtV hR h _ _ D_X_clear_10

def y_X_addName : MethodName := ⟨"SandPicture$Text", "addName", "(I)V"⟩
theorem D_X_addName_0 : decode prog_7_method_4_code 0 = .ok (.aload_n 0, 1) ∧ 0 + 1 = 1 := by decide +kernel
theorem D_X_addName_1 : decode prog_7_method_4_code 1 = .ok (.iconst (-1), 1) ∧ 1 + 1 = 2 := by decide +kernel
theorem D_X_addName_2 : decode prog_7_method_4_code 2 = .ok (.iload_n 1, 1) ∧ 2 + 1 = 3 := by decide +kernel
theorem D_X_addName_3 : decode prog_7_method_4_code 3 = .ok (.isub, 1) ∧ 3 + 1 = 4 := by decide +kernel
theorem D_X_addName_4 : decode prog_7_method_4_code 4 = .ok (.invokevirtual 25, 3) ∧ 4 + 3 = 7 := by decide +kernel
theorem D_X_addName_7 : decode prog_7_method_4_code 7 = .ok (.aload_n 0, 1) ∧ 7 + 1 = 8 := by decide +kernel
theorem D_X_addName_8 : decode prog_7_method_4_code 8 = .ok (.dup, 1) ∧ 8 + 1 = 9 := by decide +kernel
theorem D_X_addName_9 : decode prog_7_method_4_code 9 = .ok (.getfield 15, 3) ∧ 9 + 3 = 12 := by decide +kernel
theorem D_X_addName_12 : decode prog_7_method_4_code 12 = .ok (.iconst 1, 1) ∧ 12 + 1 = 13 := by decide +kernel
theorem D_X_addName_13 : decode prog_7_method_4_code 13 = .ok (.iadd, 1) ∧ 13 + 1 = 14 := by decide +kernel
theorem D_X_addName_14 : decode prog_7_method_4_code 14 = .ok (.putfield 15, 3) ∧ 14 + 3 = 17 := by decide +kernel
theorem D_X_addName_17 : decode prog_7_method_4_code 17 = .ok (.return_, 1) := by decide +kernel
def f_X_addName (p : Nat) (a1 : Int32) (mem : Mm) : Option (Mm) := bp (f_X_addCode p ((-1) - a1) mem) fun m_4 => lt (mst m_4 p 1 ((m_4 p 1) + 1)) fun m_14 => some m_14
theorem c_X_addName (l : Launch) (E : En) (p : Nat) (hp : isTxt p) (a1 : Int32) {mem : Mm} {m2 : Mm} (h : f_X_addName p a1 mem = some m2) : CtV l E 1 y_X_addName prog_7_method_4_code 2 [.ref (eb E + p), .int a1] SH mem m2 := by
  refine mk_CtV ⟨by decide, (Nat.le_of_ble_eq_true rfl)⟩ (fun X S hl hR => ?_)
  have S : Std X E prog_7_method_4_code R4 2 1 := S
  show J X E 2 0 [(0, .ref (eb E + p)), (1, .int a1)] [] SH mem
  unfold f_X_addName at h
  refine j_aload_n S D_X_addName_0 0 rfl rfl ?_
  refine j_iconst S D_X_addName_1 ci_m1 ?_
  refine j_iload_n S D_X_addName_2 1 rfl rfl ?_
  refine j_isub S D_X_addName_3 ?_
  obtain ⟨m_4, e_4, h⟩ := bpE h
  refine j_callVV (As := [.int ((-1) - a1)]) S D_X_addName_4 mv_R4_25 (c_X_addCode (cxL X) E p hp ((-1) - a1) e_4) (by decide) (sh_txt hp) rfl rfl rfl rfl (Nat.le_of_ble_eq_true rfl) ?_
  refine j_aload_n S D_X_addName_7 0 rfl rfl ?_
  refine j_dup S D_X_addName_8 rfl ?_
  refine j_getI S D_X_addName_9 fl_R4_15 (sh_txt hp) rfl ?_
  refine j_iconst S D_X_addName_12 ci_1 ?_
  refine j_iadd S D_X_addName_13 ?_
  obtain ⟨m_14, hm_14, h⟩ := ltE h
  refine j_putI S D_X_addName_14 fp_R4_15 (sh_txt hp) rfl ?_
  refine j_mem hm_14 ?_
  exact rtV hR h _ _ D_X_addName_17

def y_X_addSign : MethodName := ⟨"SandPicture$Text", "addSign", "(I)V"⟩
theorem D_X_addSign_0 : decode prog_7_method_5_code 0 = .ok (.aload_n 0, 1) ∧ 0 + 1 = 1 := by decide +kernel
theorem D_X_addSign_1 : decode prog_7_method_5_code 1 = .ok (.iload_n 1, 1) ∧ 1 + 1 = 2 := by decide +kernel
theorem D_X_addSign_2 : decode prog_7_method_5_code 2 = .ok (.ineg, 1) ∧ 2 + 1 = 3 := by decide +kernel
theorem D_X_addSign_3 : decode prog_7_method_5_code 3 = .ok (.invokevirtual 25, 3) ∧ 3 + 3 = 6 := by decide +kernel
theorem D_X_addSign_6 : decode prog_7_method_5_code 6 = .ok (.return_, 1) := by decide +kernel
def f_X_addSign (p : Nat) (a1 : Int32) (mem : Mm) : Option (Mm) := bp (f_X_addCode p (-a1) mem) fun m_3 => some m_3
theorem c_X_addSign (l : Launch) (E : En) (p : Nat) (hp : isTxt p) (a1 : Int32) {mem : Mm} {m2 : Mm} (h : f_X_addSign p a1 mem = some m2) : CtV l E 1 y_X_addSign prog_7_method_5_code 2 [.ref (eb E + p), .int a1] SH mem m2 := by
  refine mk_CtV ⟨by decide, (Nat.le_of_ble_eq_true rfl)⟩ (fun X S hl hR => ?_)
  have S : Std X E prog_7_method_5_code R4 2 1 := S
  show J X E 2 0 [(0, .ref (eb E + p)), (1, .int a1)] [] SH mem
  unfold f_X_addSign at h
  refine j_aload_n S D_X_addSign_0 0 rfl rfl ?_
  refine j_iload_n S D_X_addSign_1 1 rfl rfl ?_
  refine j_ineg S D_X_addSign_2 ?_
  obtain ⟨m_3, e_3, h⟩ := bpE h
  refine j_callVV (As := [.int (-a1)]) S D_X_addSign_3 mv_R4_25 (c_X_addCode (cxL X) E p hp (-a1) e_3) (by decide) (sh_txt hp) rfl rfl rfl rfl (Nat.le_of_ble_eq_true rfl) ?_
  exact rtV hR h _ _ D_X_addSign_6
