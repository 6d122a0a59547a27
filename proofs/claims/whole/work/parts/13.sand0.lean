def y_S_within : MethodName := ⟨"SandPicture", "within", "(III)Z"⟩
theorem D_S_within_0 : decode prog_1_method_45_code 0 = .ok (.iload_n 0, 1) ∧ 0 + 1 = 1 := by decide +kernel
theorem D_S_within_1 : decode prog_1_method_45_code 1 = .ok (.iload_n 1, 1) ∧ 1 + 1 = 2 := by decide +kernel
theorem D_S_within_14 : decode prog_1_method_45_code 14 = .ok (.iconst 0, 1) ∧ 14 + 1 = 15 := by decide +kernel
theorem D_S_within_5 : decode prog_1_method_45_code 5 = .ok (.iload_n 0, 1) ∧ 5 + 1 = 6 := by decide +kernel
theorem D_S_within_6 : decode prog_1_method_45_code 6 = .ok (.iload_n 2, 1) ∧ 6 + 1 = 7 := by decide +kernel
theorem D_S_within_10 : decode prog_1_method_45_code 10 = .ok (.iconst 1, 1) ∧ 10 + 1 = 11 := by decide +kernel
theorem D_S_within_11 : decode prog_1_method_45_code 11 = .ok (.goto 4, 3) ∧ ((11 : Nat) : Int) + 4 = ((15 : Nat) : Int) := by decide +kernel
theorem D_S_within_7 : decode prog_1_method_45_code 7 = .ok (.if_icmp .gt 7, 3) ∧ ((7 : Nat) : Int) + 7 = ((14 : Nat) : Int) ∧ 7 + 3 = 10 := by decide +kernel
theorem D_S_within_2 : decode prog_1_method_45_code 2 = .ok (.if_icmp .lt 12, 3) ∧ ((2 : Nat) : Int) + 12 = ((14 : Nat) : Int) ∧ 2 + 3 = 5 := by decide +kernel
theorem D_S_within_15 : decode prog_1_method_45_code 15 = .ok (.ireturn, 1) := by decide +kernel
def f_S_within (a1 : Int32) (a2 : Int32) (a3 : Int32) : Option (Int32) := some (if a1 < a2 then (0 : Int32) else if a3 < a1 then (0 : Int32) else 1)
theorem c_S_within (l : Launch) (E : En) (a1 : Int32) (a2 : Int32) (a3 : Int32) {mem : Mm} {r : Int32} (h : f_S_within a1 a2 a3 = some r) : CtI l E 0 y_S_within prog_1_method_45_code 3 (some .boolean) [.int a1, .int a2, .int a3] SH mem r mem := by
  refine mk_CtZ ⟨by decide, (Nat.le_of_ble_eq_true rfl)⟩ (fun X S hl hR => ?_)
  have S : Std X E prog_1_method_45_code R5 3 0 := S
  show J X E 3 0 [(0, .int a1), (1, .int a2), (2, .int a3)] [] SH mem
  unfold f_S_within at h
  refine j_iload_n S D_S_within_0 0 rfl rfl ?_
  refine j_iload_n S D_S_within_1 1 rfl rfl ?_
  refine j_dia (P := J X E 3 15 [(0, .int a1), (1, .int a2), (2, .int a3)] [.int (if a1 < a2 then (0 : Int32) else if a3 < a1 then (0 : Int32) else 1)] SH mem) (fun hj => ?_) ?_
  · refine j_icmp_lt S D_S_within_2 (fun c_2 => ?_) (fun c_2 => ?_)
    · refine j_iconst S D_S_within_14 ci_0 ?_
      exact j_jnT hj c_2
    · refine j_iload_n S D_S_within_5 0 rfl rfl ?_
      refine j_iload_n S D_S_within_6 2 rfl rfl ?_
      refine j_dia (P := J X E 3 15 [(0, .int a1), (1, .int a2), (2, .int a3)] [.int (if a3 < a1 then (0 : Int32) else 1)] SH mem) (fun hj => ?_) ?_
      · refine j_icmp_gt S D_S_within_7 (fun c_7 => ?_) (fun c_7 => ?_)
        · refine j_iconst S D_S_within_14 ci_0 ?_
          exact j_jnT hj c_7
        · refine j_iconst S D_S_within_10 ci_1 ?_
          refine j_goto S D_S_within_11 ?_
          exact j_jnF hj c_7
      exact j_jnF hj c_2
  exact rtIZ hR h (isb_ite isb0 (isb_ite isb0 isb1)) _ _ D_S_within_15

def y_S_isTable : MethodName := ⟨"SandPicture", "isTable", "(I)Z"⟩
theorem D_S_isTable_0 : decode prog_1_method_46_code 0 = .ok (.iload_n 0, 1) ∧ 0 + 1 = 1 := by decide +kernel
theorem D_S_isTable_1 : decode prog_1_method_46_code 1 = .ok (.iconst 0, 1) ∧ 1 + 1 = 2 := by decide +kernel
theorem D_S_isTable_2 : decode prog_1_method_46_code 2 = .ok (.iconst 5, 1) ∧ 2 + 1 = 3 := by decide +kernel
theorem D_S_isTable_3 : decode prog_1_method_46_code 3 = .ok (.invokestatic 70, 3) ∧ 3 + 3 = 6 := by decide +kernel
theorem D_S_isTable_6 : decode prog_1_method_46_code 6 = .ok (.ireturn, 1) := by decide +kernel
def f_S_isTable (a1 : Int32) : Option (Int32) := bp (f_S_within a1 0 5) fun r_3 => if isb r_3 = true then some r_3 else none
theorem c_S_isTable (l : Launch) (E : En) (a1 : Int32) {mem : Mm} {r : Int32} (h : f_S_isTable a1 = some r) : CtI l E 1 y_S_isTable prog_1_method_46_code 1 (some .boolean) [.int a1] SH mem r mem := by
  refine mk_CtZ ⟨by decide, (Nat.le_of_ble_eq_true rfl)⟩ (fun X S hl hR => ?_)
  have S : Std X E prog_1_method_46_code R5 1 1 := S
  show J X E 1 0 [(0, .int a1)] [] SH mem
  unfold f_S_isTable at h
  refine j_iload_n S D_S_isTable_0 0 rfl rfl ?_
  refine j_iconst S D_S_isTable_1 ci_0 ?_
  refine j_iconst S D_S_isTable_2 ci_5 ?_
  obtain ⟨r_3, e_3, h⟩ := bpE h
  refine j_callSI (As := [.int a1, .int 0, .int 5]) S D_S_isTable_3 ms_R5_70 (c_S_within (cxL X) E a1 0 5 (mem := mem) e_3) (by decide) rfl rfl (Nat.le_of_ble_eq_true rfl) ?_
  obtain ⟨z_6, h⟩ := gdE h
  exact rtIZ hR h z_6 _ _ D_S_isTable_6

def y_S_monk : MethodName := ⟨"SandPicture", "monk", "(III)I"⟩
theorem D_S_monk_0 : decode prog_1_method_2_code 0 = .ok (.iload_n 1, 1) ∧ 0 + 1 = 1 := by decide +kernel
theorem D_S_monk_1 : decode prog_1_method_2_code 1 = .ok (.invokestatic 64, 3) ∧ 1 + 3 = 4 := by decide +kernel
theorem D_S_monk_4 : decode prog_1_method_2_code 4 = .ok (.ifCond .eq 20, 3) ∧ ((4 : Nat) : Int) + 20 = ((24 : Nat) : Int) ∧ 4 + 3 = 7 := by decide +kernel
theorem D_S_monk_24 : decode prog_1_method_2_code 24 = .ok (.ldc 77, 2) ∧ 24 + 2 = 26 := by decide +kernel
theorem D_S_monk_26 : decode prog_1_method_2_code 26 = .ok (.ireturn, 1) := by decide +kernel
theorem D_S_monk_7 : decode prog_1_method_2_code 7 = .ok (.iload_n 2, 1) ∧ 7 + 1 = 8 := by decide +kernel
theorem D_S_monk_8 : decode prog_1_method_2_code 8 = .ok (.iconst 1, 1) ∧ 8 + 1 = 9 := by decide +kernel
theorem D_S_monk_9 : decode prog_1_method_2_code 9 = .ok (.bipush 99, 2) ∧ 9 + 2 = 11 := by decide +kernel
theorem D_S_monk_11 : decode prog_1_method_2_code 11 = .ok (.invokestatic 70, 3) ∧ 11 + 3 = 14 := by decide +kernel
theorem D_S_monk_14 : decode prog_1_method_2_code 14 = .ok (.ifCond .eq 10, 3) ∧ ((14 : Nat) : Int) + 10 = ((24 : Nat) : Int) ∧ 14 + 3 = 17 := by decide +kernel
theorem D_S_monk_17 : decode prog_1_method_2_code 17 = .ok (.iload_n 3, 1) ∧ 17 + 1 = 18 := by decide +kernel
theorem D_S_monk_18 : decode prog_1_method_2_code 18 = .ok (.invokestatic 74, 3) ∧ 18 + 3 = 21 := by decide +kernel
theorem D_S_monk_21 : decode prog_1_method_2_code 21 = .ok (.ifCond .ne 6, 3) ∧ ((21 : Nat) : Int) + 6 = ((27 : Nat) : Int) ∧ 21 + 3 = 24 := by decide +kernel
theorem D_S_monk_27 : decode prog_1_method_2_code 27 = .ok (.aload_n 0, 1) ∧ 27 + 1 = 28 := by decide +kernel
theorem D_S_monk_28 : decode prog_1_method_2_code 28 = .ok (.getfield 52, 3) ∧ 28 + 3 = 31 := by decide +kernel
theorem D_S_monk_31 : decode prog_1_method_2_code 31 = .ok (.getfield 78, 3) ∧ 31 + 3 = 34 := by decide +kernel
theorem D_S_monk_34 : decode prog_1_method_2_code 34 = .ok (.bipush 10, 2) ∧ 34 + 2 = 36 := by decide +kernel
theorem D_S_monk_36 : decode prog_1_method_2_code 36 = .ok (.if_icmp .lt 6, 3) ∧ ((36 : Nat) : Int) + 6 = ((42 : Nat) : Int) ∧ 36 + 3 = 39 := by decide +kernel
theorem D_S_monk_42 : decode prog_1_method_2_code 42 = .ok (.aload_n 0, 1) ∧ 42 + 1 = 43 := by decide +kernel
theorem D_S_monk_43 : decode prog_1_method_2_code 43 = .ok (.getfield 52, 3) ∧ 43 + 3 = 46 := by decide +kernel
theorem D_S_monk_46 : decode prog_1_method_2_code 46 = .ok (.iload_n 1, 1) ∧ 46 + 1 = 47 := by decide +kernel
theorem D_S_monk_47 : decode prog_1_method_2_code 47 = .ok (.iload_n 2, 1) ∧ 47 + 1 = 48 := by decide +kernel
theorem D_S_monk_48 : decode prog_1_method_2_code 48 = .ok (.iload_n 3, 1) ∧ 48 + 1 = 49 := by decide +kernel
theorem D_S_monk_49 : decode prog_1_method_2_code 49 = .ok (.invokevirtual 82, 3) ∧ 49 + 3 = 52 := by decide +kernel
theorem D_S_monk_52 : decode prog_1_method_2_code 52 = .ok (.ireturn, 1) := by decide +kernel
theorem D_S_monk_39 : decode prog_1_method_2_code 39 = .ok (.ldc 81, 2) ∧ 39 + 2 = 41 := by decide +kernel
theorem D_S_monk_41 : decode prog_1_method_2_code 41 = .ok (.ireturn, 1) := by decide +kernel
def f_S_monk (a1 : Int32) (a2 : Int32) (a3 : Int32) (mem : Mm) : Option (Int32 × Mm) := bp (f_K_known a1) fun r_1 => if r_1 = 0 then some ((-1000000001), mem) else bp (f_S_within a2 1 99) fun r_11 => if r_11 = 0 then some ((-1000000001), mem) else bp (f_S_isTable a3) fun r_18 => if r_18 = 0 then some ((-1000000001), mem) else if mem 38 4 < 10 then bd (f_P_addMonk 38 a1 a2 a3 mem) fun r_49 m_49 => some (r_49, m_49) else some ((-1000000003), mem)
theorem c_S_monk (l : Launch) (E : En) (a1 : Int32) (a2 : Int32) (a3 : Int32) {mem : Mm} {r : Int32} {m2 : Mm} (h : f_S_monk a1 a2 a3 mem = some (r, m2)) : CtI l E 2 y_S_monk prog_1_method_2_code 4 (some .int) [.ref (eb E + 0), .int a1, .int a2, .int a3] SH mem r m2 := by
  refine mk_CtI ⟨by decide, (Nat.le_of_ble_eq_true rfl)⟩ (fun X S hl hR => ?_)
  have S : Std X E prog_1_method_2_code R5 4 2 := S
  show J X E 4 0 [(0, .ref (eb E + 0)), (1, .int a1), (2, .int a2), (3, .int a3)] [] SH mem
  unfold f_S_monk at h
  refine j_iload_n S D_S_monk_0 1 rfl rfl ?_
  obtain ⟨r_1, e_1, h⟩ := bpE h
  refine j_callSI (As := [.int a1]) S D_S_monk_1 ms_R5_64 (c_K_known (cxL X) E a1 (mem := mem) e_1) (by decide) rfl rfl (Nat.le_of_ble_eq_true rfl) ?_
  refine j_if_eq S D_S_monk_4 (fun c_4 => ?_) (fun c_4 => ?_)
  · have h := ifT c_4 h
    refine j_ldc S D_S_monk_24 co_R5_77 ?_
    exact rtM hR h _ _ D_S_monk_26
  · have h := ifF c_4 h
    refine j_iload_n S D_S_monk_7 2 rfl rfl ?_
    refine j_iconst S D_S_monk_8 ci_1 ?_
    refine j_bipush S D_S_monk_9 cb_99 ?_
    obtain ⟨r_11, e_11, h⟩ := bpE h
    refine j_callSI (As := [.int a2, .int 1, .int 99]) S D_S_monk_11 ms_R5_70 (c_S_within (cxL X) E a2 1 99 (mem := mem) e_11) (by decide) rfl rfl (Nat.le_of_ble_eq_true rfl) ?_
    refine j_if_eq S D_S_monk_14 (fun c_14 => ?_) (fun c_14 => ?_)
    · have h := ifT c_14 h
      refine j_ldc S D_S_monk_24 co_R5_77 ?_
      exact rtM hR h _ _ D_S_monk_26
    · have h := ifF c_14 h
      refine j_iload_n S D_S_monk_17 3 rfl rfl ?_
      obtain ⟨r_18, e_18, h⟩ := bpE h
      refine j_callSI (As := [.int a3]) S D_S_monk_18 ms_R5_74 (c_S_isTable (cxL X) E a3 (mem := mem) e_18) (by decide) rfl rfl (Nat.le_of_ble_eq_true rfl) ?_
      refine j_if_ne S D_S_monk_21 (fun c_21 => ?_) (fun c_21 => ?_)
      · have h := ifF c_21 h
        refine j_aload_n S D_S_monk_27 0 rfl rfl ?_
        refine j_getR S D_S_monk_28 fl_R5_52 sh_Sand rfl ?_
        refine j_getI S D_S_monk_31 fl_R5_78 sh_P38 rfl ?_
        refine j_bipush S D_S_monk_34 cb_10 ?_
        refine j_icmp_lt S D_S_monk_36 (fun c_36 => ?_) (fun c_36 => ?_)
        · have h := ifT c_36 h
          refine j_aload_n S D_S_monk_42 0 rfl rfl ?_
          refine j_getR S D_S_monk_43 fl_R5_52 sh_Sand rfl ?_
          refine j_iload_n S D_S_monk_46 1 rfl rfl ?_
          refine j_iload_n S D_S_monk_47 2 rfl rfl ?_
          refine j_iload_n S D_S_monk_48 3 rfl rfl ?_
          obtain ⟨r_49, m_49, e_49, h⟩ := bdE h
          refine j_callVI (As := [.int a1, .int a2, .int a3]) S D_S_monk_49 mv_R5_82 (c_P_addMonk (cxL X) E 38 pic_38 a1 a2 a3 e_49) (by decide) sh_P38 rfl rfl rfl rfl (Nat.le_of_ble_eq_true rfl) ?_
          exact rtM hR h _ _ D_S_monk_52
        · have h := ifF c_36 h
          refine j_ldc S D_S_monk_39 co_R5_81 ?_
          exact rtM hR h _ _ D_S_monk_41
      · have h := ifT c_21 h
        refine j_ldc S D_S_monk_24 co_R5_77 ?_
        exact rtM hR h _ _ D_S_monk_26

def y_S_isMonk : MethodName := ⟨"SandPicture", "isMonk", "(I)Z"⟩
theorem D_S_isMonk_0 : decode prog_1_method_50_code 0 = .ok (.iload_n 1, 1) ∧ 0 + 1 = 1 := by decide +kernel
theorem D_S_isMonk_1 : decode prog_1_method_50_code 1 = .ok (.iconst 0, 1) ∧ 1 + 1 = 2 := by decide +kernel
theorem D_S_isMonk_2 : decode prog_1_method_50_code 2 = .ok (.aload_n 0, 1) ∧ 2 + 1 = 3 := by decide +kernel
theorem D_S_isMonk_3 : decode prog_1_method_50_code 3 = .ok (.getfield 52, 3) ∧ 3 + 3 = 6 := by decide +kernel
theorem D_S_isMonk_6 : decode prog_1_method_50_code 6 = .ok (.getfield 78, 3) ∧ 6 + 3 = 9 := by decide +kernel
theorem D_S_isMonk_9 : decode prog_1_method_50_code 9 = .ok (.iconst 1, 1) ∧ 9 + 1 = 10 := by decide +kernel
theorem D_S_isMonk_10 : decode prog_1_method_50_code 10 = .ok (.isub, 1) ∧ 10 + 1 = 11 := by decide +kernel
theorem D_S_isMonk_11 : decode prog_1_method_50_code 11 = .ok (.invokestatic 70, 3) ∧ 11 + 3 = 14 := by decide +kernel
theorem D_S_isMonk_14 : decode prog_1_method_50_code 14 = .ok (.ireturn, 1) := by decide +kernel
def f_S_isMonk (a1 : Int32) (mem : Mm) : Option (Int32) := bp (f_S_within a1 0 ((mem 38 4) - 1)) fun r_11 => if isb r_11 = true then some r_11 else none
theorem c_S_isMonk (l : Launch) (E : En) (a1 : Int32) {mem : Mm} {r : Int32} (h : f_S_isMonk a1 mem = some r) : CtI l E 1 y_S_isMonk prog_1_method_50_code 2 (some .boolean) [.ref (eb E + 0), .int a1] SH mem r mem := by
  refine mk_CtZ ⟨by decide, (Nat.le_of_ble_eq_true rfl)⟩ (fun X S hl hR => ?_)
  have S : Std X E prog_1_method_50_code R5 2 1 := S
  show J X E 2 0 [(0, .ref (eb E + 0)), (1, .int a1)] [] SH mem
  unfold f_S_isMonk at h
  refine j_iload_n S D_S_isMonk_0 1 rfl rfl ?_
  refine j_iconst S D_S_isMonk_1 ci_0 ?_
  refine j_aload_n S D_S_isMonk_2 0 rfl rfl ?_
  refine j_getR S D_S_isMonk_3 fl_R5_52 sh_Sand rfl ?_
  refine j_getI S D_S_isMonk_6 fl_R5_78 sh_P38 rfl ?_
  refine j_iconst S D_S_isMonk_9 ci_1 ?_
  refine j_isub S D_S_isMonk_10 ?_
  obtain ⟨r_11, e_11, h⟩ := bpE h
  refine j_callSI (As := [.int a1, .int 0, .int ((mem 38 4) - 1)]) S D_S_isMonk_11 ms_R5_70 (c_S_within (cxL X) E a1 0 ((mem 38 4) - 1) (mem := mem) e_11) (by decide) rfl rfl (Nat.le_of_ble_eq_true rfl) ?_
  obtain ⟨z_14, h⟩ := gdE h
  exact rtIZ hR h z_14 _ _ D_S_isMonk_14

def y_S_told : MethodName := ⟨"SandPicture", "told", "(II)I"⟩
theorem D_S_told_0 : decode prog_1_method_3_code 0 = .ok (.aload_n 0, 1) ∧ 0 + 1 = 1 := by decide +kernel
theorem D_S_told_1 : decode prog_1_method_3_code 1 = .ok (.iload_n 1, 1) ∧ 1 + 1 = 2 := by decide +kernel
theorem D_S_told_2 : decode prog_1_method_3_code 2 = .ok (.invokevirtual 86, 3) ∧ 2 + 3 = 5 := by decide +kernel
theorem D_S_told_5 : decode prog_1_method_3_code 5 = .ok (.ifCond .ne 6, 3) ∧ ((5 : Nat) : Int) + 6 = ((11 : Nat) : Int) ∧ 5 + 3 = 8 := by decide +kernel
theorem D_S_told_11 : decode prog_1_method_3_code 11 = .ok (.iload_n 2, 1) ∧ 11 + 1 = 12 := by decide +kernel
theorem D_S_told_12 : decode prog_1_method_3_code 12 = .ok (.tableswitch 84 0 3 #[32, 42, 52, 62], 32) := by decide +kernel
theorem D_S_told_44 : decode prog_1_method_3_code 44 = .ok (.aload_n 0, 1) ∧ 44 + 1 = 45 := by decide +kernel
theorem D_S_told_45 : decode prog_1_method_3_code 45 = .ok (.getfield 52, 3) ∧ 45 + 3 = 48 := by decide +kernel
theorem D_S_told_48 : decode prog_1_method_3_code 48 = .ok (.getfield 89, 3) ∧ 48 + 3 = 51 := by decide +kernel
theorem D_S_told_51 : decode prog_1_method_3_code 51 = .ok (.iload_n 1, 1) ∧ 51 + 1 = 52 := by decide +kernel
theorem D_S_told_52 : decode prog_1_method_3_code 52 = .ok (.iaload, 1) ∧ 52 + 1 = 53 := by decide +kernel
theorem D_S_told_53 : decode prog_1_method_3_code 53 = .ok (.ireturn, 1) := by decide +kernel
theorem D_S_told_54 : decode prog_1_method_3_code 54 = .ok (.aload_n 0, 1) ∧ 54 + 1 = 55 := by decide +kernel
theorem D_S_told_55 : decode prog_1_method_3_code 55 = .ok (.getfield 52, 3) ∧ 55 + 3 = 58 := by decide +kernel
theorem D_S_told_58 : decode prog_1_method_3_code 58 = .ok (.getfield 92, 3) ∧ 58 + 3 = 61 := by decide +kernel
theorem D_S_told_61 : decode prog_1_method_3_code 61 = .ok (.iload_n 1, 1) ∧ 61 + 1 = 62 := by decide +kernel
theorem D_S_told_62 : decode prog_1_method_3_code 62 = .ok (.iaload, 1) ∧ 62 + 1 = 63 := by decide +kernel
theorem D_S_told_63 : decode prog_1_method_3_code 63 = .ok (.ireturn, 1) := by decide +kernel
theorem D_S_told_64 : decode prog_1_method_3_code 64 = .ok (.aload_n 0, 1) ∧ 64 + 1 = 65 := by decide +kernel
theorem D_S_told_65 : decode prog_1_method_3_code 65 = .ok (.getfield 52, 3) ∧ 65 + 3 = 68 := by decide +kernel
theorem D_S_told_68 : decode prog_1_method_3_code 68 = .ok (.getfield 95, 3) ∧ 68 + 3 = 71 := by decide +kernel
theorem D_S_told_71 : decode prog_1_method_3_code 71 = .ok (.iload_n 1, 1) ∧ 71 + 1 = 72 := by decide +kernel
theorem D_S_told_72 : decode prog_1_method_3_code 72 = .ok (.iaload, 1) ∧ 72 + 1 = 73 := by decide +kernel
theorem D_S_told_73 : decode prog_1_method_3_code 73 = .ok (.ireturn, 1) := by decide +kernel
theorem D_S_told_74 : decode prog_1_method_3_code 74 = .ok (.aload_n 0, 1) ∧ 74 + 1 = 75 := by decide +kernel
theorem D_S_told_75 : decode prog_1_method_3_code 75 = .ok (.getfield 52, 3) ∧ 75 + 3 = 78 := by decide +kernel
theorem D_S_told_78 : decode prog_1_method_3_code 78 = .ok (.getfield 89, 3) ∧ 78 + 3 = 81 := by decide +kernel
theorem D_S_told_81 : decode prog_1_method_3_code 81 = .ok (.iload_n 1, 1) ∧ 81 + 1 = 82 := by decide +kernel
theorem D_S_told_82 : decode prog_1_method_3_code 82 = .ok (.iaload, 1) ∧ 82 + 1 = 83 := by decide +kernel
theorem D_S_told_83 : decode prog_1_method_3_code 83 = .ok (.aload_n 0, 1) ∧ 83 + 1 = 84 := by decide +kernel
theorem D_S_told_84 : decode prog_1_method_3_code 84 = .ok (.getfield 52, 3) ∧ 84 + 3 = 87 := by decide +kernel
theorem D_S_told_87 : decode prog_1_method_3_code 87 = .ok (.getfield 92, 3) ∧ 87 + 3 = 90 := by decide +kernel
theorem D_S_told_90 : decode prog_1_method_3_code 90 = .ok (.iload_n 1, 1) ∧ 90 + 1 = 91 := by decide +kernel
theorem D_S_told_91 : decode prog_1_method_3_code 91 = .ok (.iaload, 1) ∧ 91 + 1 = 92 := by decide +kernel
theorem D_S_told_92 : decode prog_1_method_3_code 92 = .ok (.invokestatic 98, 3) ∧ 92 + 3 = 95 := by decide +kernel
theorem D_S_told_95 : decode prog_1_method_3_code 95 = .ok (.ireturn, 1) := by decide +kernel
theorem D_S_told_96 : decode prog_1_method_3_code 96 = .ok (.ldc 77, 2) ∧ 96 + 2 = 98 := by decide +kernel
theorem D_S_told_98 : decode prog_1_method_3_code 98 = .ok (.ireturn, 1) := by decide +kernel
theorem D_S_told_12o : decode prog_1_method_3_code 12 = .ok (.tableswitch 84 0 3 #[32, 42, 52, 62], 32) ∧ ((12 : Nat) : Int) + 84 = ((96 : Nat) : Int) := by decide +kernel
theorem D_S_told_8 : decode prog_1_method_3_code 8 = .ok (.ldc 77, 2) ∧ 8 + 2 = 10 := by decide +kernel
theorem D_S_told_10 : decode prog_1_method_3_code 10 = .ok (.ireturn, 1) := by decide +kernel
def f_S_told (a1 : Int32) (a2 : Int32) (mem : Mm) : Option (Int32) := bp (f_S_isMonk a1 mem) fun r_2 => if r_2 = 0 then some (-1000000001) else if a2 = 0 then if inb a1 10 = true then some (mem 40 (ix a1)) else none else if a2 = 1 then if inb a1 10 = true then some (mem 41 (ix a1)) else none else if a2 = 2 then if inb a1 10 = true then some (mem 42 (ix a1)) else none else if a2 = 3 then if inb a1 10 = true then bp (f_K_worth (mem 40 (ix a1)) (mem 41 (ix a1))) fun r_92 => some r_92 else none else some (-1000000001)
theorem c_S_told (l : Launch) (E : En) (a1 : Int32) (a2 : Int32) {mem : Mm} {r : Int32} (h : f_S_told a1 a2 mem = some r) : CtI l E 2 y_S_told prog_1_method_3_code 3 (some .int) [.ref (eb E + 0), .int a1, .int a2] SH mem r mem := by
  refine mk_CtI ⟨by decide, (Nat.le_of_ble_eq_true rfl)⟩ (fun X S hl hR => ?_)
  have S : Std X E prog_1_method_3_code R5 3 2 := S
  show J X E 3 0 [(0, .ref (eb E + 0)), (1, .int a1), (2, .int a2)] [] SH mem
  unfold f_S_told at h
  refine j_aload_n S D_S_told_0 0 rfl rfl ?_
  refine j_iload_n S D_S_told_1 1 rfl rfl ?_
  obtain ⟨r_2, e_2, h⟩ := bpE h
  refine j_callVI (As := [.int a1]) S D_S_told_2 mv_R5_86 (c_S_isMonk (cxL X) E a1 e_2) (by decide) sh_Sand rfl rfl rfl rfl (Nat.le_of_ble_eq_true rfl) ?_
  refine j_if_ne S D_S_told_5 (fun c_5 => ?_) (fun c_5 => ?_)
  · have h := ifF c_5 h
    refine j_iload_n S D_S_told_11 2 rfl rfl ?_
    by_cases c_12_0 : a2 = 0
    · have h := ifT c_12_0 h
      refine j_tabIn (tg := 44) (off := 32) S D_S_told_12 0 c_12_0 (by decide +kernel) ?_
      refine j_aload_n S D_S_told_44 0 rfl rfl ?_
      refine j_getR S D_S_told_45 fl_R5_52 sh_Sand rfl ?_
      refine j_getR S D_S_told_48 fl_R5_89 sh_P38 rfl ?_
      refine j_iload_n S D_S_told_51 1 rfl rfl ?_
      obtain ⟨g_52, h⟩ := gdE h
      refine j_iald S D_S_told_52 sh_40 g_52 ?_
      exact rtI hR h _ _ D_S_told_53
    · have h := ifF c_12_0 h
      by_cases c_12_1 : a2 = 1
      · have h := ifT c_12_1 h
        refine j_tabIn (tg := 54) (off := 42) S D_S_told_12 1 c_12_1 (by decide +kernel) ?_
        refine j_aload_n S D_S_told_54 0 rfl rfl ?_
        refine j_getR S D_S_told_55 fl_R5_52 sh_Sand rfl ?_
        refine j_getR S D_S_told_58 fl_R5_92 sh_P38 rfl ?_
        refine j_iload_n S D_S_told_61 1 rfl rfl ?_
        obtain ⟨g_62, h⟩ := gdE h
        refine j_iald S D_S_told_62 sh_41 g_62 ?_
        exact rtI hR h _ _ D_S_told_63
      · have h := ifF c_12_1 h
        by_cases c_12_2 : a2 = 2
        · have h := ifT c_12_2 h
          refine j_tabIn (tg := 64) (off := 52) S D_S_told_12 2 c_12_2 (by decide +kernel) ?_
          refine j_aload_n S D_S_told_64 0 rfl rfl ?_
          refine j_getR S D_S_told_65 fl_R5_52 sh_Sand rfl ?_
          refine j_getR S D_S_told_68 fl_R5_95 sh_P38 rfl ?_
          refine j_iload_n S D_S_told_71 1 rfl rfl ?_
          obtain ⟨g_72, h⟩ := gdE h
          refine j_iald S D_S_told_72 sh_42 g_72 ?_
          exact rtI hR h _ _ D_S_told_73
        · have h := ifF c_12_2 h
          by_cases c_12_3 : a2 = 3
          · have h := ifT c_12_3 h
            refine j_tabIn (tg := 74) (off := 62) S D_S_told_12 3 c_12_3 (by decide +kernel) ?_
            refine j_aload_n S D_S_told_74 0 rfl rfl ?_
            refine j_getR S D_S_told_75 fl_R5_52 sh_Sand rfl ?_
            refine j_getR S D_S_told_78 fl_R5_89 sh_P38 rfl ?_
            refine j_iload_n S D_S_told_81 1 rfl rfl ?_
            obtain ⟨g_82, h⟩ := gdE h
            refine j_iald S D_S_told_82 sh_40 g_82 ?_
            refine j_aload_n S D_S_told_83 0 rfl rfl ?_
            refine j_getR S D_S_told_84 fl_R5_52 sh_Sand rfl ?_
            refine j_getR S D_S_told_87 fl_R5_92 sh_P38 rfl ?_
            refine j_iload_n S D_S_told_90 1 rfl rfl ?_
            refine j_iald S D_S_told_91 sh_41 g_82 ?_
            obtain ⟨r_92, e_92, h⟩ := bpE h
            refine j_callSI (As := [.int (mem 40 (ix a1)), .int (mem 41 (ix a1))]) S D_S_told_92 ms_R5_98 (c_K_worth (cxL X) E (mem 40 (ix a1)) (mem 41 (ix a1)) (mem := mem) e_92) (by decide) rfl rfl (Nat.le_of_ble_eq_true rfl) ?_
            exact rtI hR h _ _ D_S_told_95
          · have h := ifF c_12_3 h
            refine j_tabOut S D_S_told_12o (tout_0_3 c_12_0 c_12_1 c_12_2 c_12_3) ?_
            refine j_ldc S D_S_told_96 co_R5_77 ?_
            exact rtI hR h _ _ D_S_told_98
  · have h := ifT c_5 h
    refine j_ldc S D_S_told_8 co_R5_77 ?_
    exact rtI hR h _ _ D_S_told_10

def y_S_does : MethodName := ⟨"SandPicture", "does", "(III)I"⟩
theorem D_S_does_0 : decode prog_1_method_4_code 0 = .ok (.aload_n 0, 1) ∧ 0 + 1 = 1 := by decide +kernel
theorem D_S_does_1 : decode prog_1_method_4_code 1 = .ok (.iload_n 1, 1) ∧ 1 + 1 = 2 := by decide +kernel
theorem D_S_does_2 : decode prog_1_method_4_code 2 = .ok (.invokevirtual 86, 3) ∧ 2 + 3 = 5 := by decide +kernel
theorem D_S_does_5 : decode prog_1_method_4_code 5 = .ok (.ifCond .eq 32, 3) ∧ ((5 : Nat) : Int) + 32 = ((37 : Nat) : Int) ∧ 5 + 3 = 8 := by decide +kernel
theorem D_S_does_37 : decode prog_1_method_4_code 37 = .ok (.ldc 77, 2) ∧ 37 + 2 = 39 := by decide +kernel
theorem D_S_does_39 : decode prog_1_method_4_code 39 = .ok (.ireturn, 1) := by decide +kernel
theorem D_S_does_8 : decode prog_1_method_4_code 8 = .ok (.iload_n 2, 1) ∧ 8 + 1 = 9 := by decide +kernel
theorem D_S_does_9 : decode prog_1_method_4_code 9 = .ok (.iconst 0, 1) ∧ 9 + 1 = 10 := by decide +kernel
theorem D_S_does_10 : decode prog_1_method_4_code 10 = .ok (.iconst 2, 1) ∧ 10 + 1 = 11 := by decide +kernel
theorem D_S_does_11 : decode prog_1_method_4_code 11 = .ok (.invokestatic 70, 3) ∧ 11 + 3 = 14 := by decide +kernel
theorem D_S_does_14 : decode prog_1_method_4_code 14 = .ok (.ifCond .eq 23, 3) ∧ ((14 : Nat) : Int) + 23 = ((37 : Nat) : Int) ∧ 14 + 3 = 17 := by decide +kernel
theorem D_S_does_17 : decode prog_1_method_4_code 17 = .ok (.iload_n 3, 1) ∧ 17 + 1 = 18 := by decide +kernel
theorem D_S_does_18 : decode prog_1_method_4_code 18 = .ok (.iconst 0, 1) ∧ 18 + 1 = 19 := by decide +kernel
theorem D_S_does_19 : decode prog_1_method_4_code 19 = .ok (.iload_n 2, 1) ∧ 19 + 1 = 20 := by decide +kernel
theorem D_S_does_28 : decode prog_1_method_4_code 28 = .ok (.sipush 999, 3) ∧ 28 + 3 = 31 := by decide +kernel
theorem D_S_does_23 : decode prog_1_method_4_code 23 = .ok (.bipush 9, 2) ∧ 23 + 2 = 25 := by decide +kernel
theorem D_S_does_25 : decode prog_1_method_4_code 25 = .ok (.goto 6, 3) ∧ ((25 : Nat) : Int) + 6 = ((31 : Nat) : Int) := by decide +kernel
theorem D_S_does_20 : decode prog_1_method_4_code 20 = .ok (.ifCond .ne 8, 3) ∧ ((20 : Nat) : Int) + 8 = ((28 : Nat) : Int) ∧ 20 + 3 = 23 := by decide +kernel
theorem D_S_does_31 : decode prog_1_method_4_code 31 = .ok (.invokestatic 70, 3) ∧ 31 + 3 = 34 := by decide +kernel
theorem D_S_does_34 : decode prog_1_method_4_code 34 = .ok (.ifCond .ne 6, 3) ∧ ((34 : Nat) : Int) + 6 = ((40 : Nat) : Int) ∧ 34 + 3 = 37 := by decide +kernel
theorem D_S_does_40 : decode prog_1_method_4_code 40 = .ok (.iload_n 2, 1) ∧ 40 + 1 = 41 := by decide +kernel
theorem D_S_does_41 : decode prog_1_method_4_code 41 = .ok (.lookupswitch 51 #[(0, 27), (1, 37)], 27) := by decide +kernel
theorem D_S_does_68 : decode prog_1_method_4_code 68 = .ok (.aload_n 0, 1) ∧ 68 + 1 = 69 := by decide +kernel
theorem D_S_does_69 : decode prog_1_method_4_code 69 = .ok (.getfield 52, 3) ∧ 69 + 3 = 72 := by decide +kernel
theorem D_S_does_72 : decode prog_1_method_4_code 72 = .ok (.iload_n 1, 1) ∧ 72 + 1 = 73 := by decide +kernel
theorem D_S_does_73 : decode prog_1_method_4_code 73 = .ok (.iload_n 3, 1) ∧ 73 + 1 = 74 := by decide +kernel
theorem D_S_does_74 : decode prog_1_method_4_code 74 = .ok (.invokevirtual 102, 3) ∧ 74 + 3 = 77 := by decide +kernel
theorem D_S_does_77 : decode prog_1_method_4_code 77 = .ok (.ireturn, 1) := by decide +kernel
theorem D_S_does_78 : decode prog_1_method_4_code 78 = .ok (.aload_n 0, 1) ∧ 78 + 1 = 79 := by decide +kernel
theorem D_S_does_79 : decode prog_1_method_4_code 79 = .ok (.getfield 52, 3) ∧ 79 + 3 = 82 := by decide +kernel
theorem D_S_does_82 : decode prog_1_method_4_code 82 = .ok (.getfield 89, 3) ∧ 82 + 3 = 85 := by decide +kernel
theorem D_S_does_85 : decode prog_1_method_4_code 85 = .ok (.iload_n 1, 1) ∧ 85 + 1 = 86 := by decide +kernel
theorem D_S_does_86 : decode prog_1_method_4_code 86 = .ok (.iaload, 1) ∧ 86 + 1 = 87 := by decide +kernel
theorem D_S_does_87 : decode prog_1_method_4_code 87 = .ok (.iload_n 3, 1) ∧ 87 + 1 = 88 := by decide +kernel
theorem D_S_does_88 : decode prog_1_method_4_code 88 = .ok (.invokestatic 105, 3) ∧ 88 + 3 = 91 := by decide +kernel
theorem D_S_does_91 : decode prog_1_method_4_code 91 = .ok (.ireturn, 1) := by decide +kernel
theorem D_S_does_92 : decode prog_1_method_4_code 92 = .ok (.aload_n 0, 1) ∧ 92 + 1 = 93 := by decide +kernel
theorem D_S_does_93 : decode prog_1_method_4_code 93 = .ok (.getfield 52, 3) ∧ 93 + 3 = 96 := by decide +kernel
theorem D_S_does_96 : decode prog_1_method_4_code 96 = .ok (.getfield 89, 3) ∧ 96 + 3 = 99 := by decide +kernel
theorem D_S_does_99 : decode prog_1_method_4_code 99 = .ok (.iload_n 1, 1) ∧ 99 + 1 = 100 := by decide +kernel
theorem D_S_does_100 : decode prog_1_method_4_code 100 = .ok (.iaload, 1) ∧ 100 + 1 = 101 := by decide +kernel
theorem D_S_does_101 : decode prog_1_method_4_code 101 = .ok (.iload_n 3, 1) ∧ 101 + 1 = 102 := by decide +kernel
theorem D_S_does_102 : decode prog_1_method_4_code 102 = .ok (.invokestatic 108, 3) ∧ 102 + 3 = 105 := by decide +kernel
theorem D_S_does_105 : decode prog_1_method_4_code 105 = .ok (.ireturn, 1) := by decide +kernel
def f_S_does (N : Nat) (a1 : Int32) (a2 : Int32) (a3 : Int32) (mem : Mm) : Option (Int32 × Mm) := bp (f_S_isMonk a1 mem) fun r_2 => if r_2 = 0 then some ((-1000000001), mem) else bp (f_S_within a2 0 2) fun r_11 => if r_11 = 0 then some ((-1000000001), mem) else bp (f_S_within a3 0 (if a2 = 0 then (9 : Int32) else 999)) fun r_31 => if r_31 = 0 then some ((-1000000001), mem) else if a2 = 0 then bd (f_P_pours N 38 a1 a3 mem) fun r_74 m_74 => some (r_74, m_74) else if a2 = 1 then if inb a1 10 = true then bp (f_K_spills (mem 40 (ix a1)) a3) fun r_88 => some (r_88, mem) else none else if inb a1 10 = true then bp (f_K_adds (mem 40 (ix a1)) a3) fun r_102 => some (r_102, mem) else none
theorem c_S_does (l : Launch) (E : En) (N : Nat) (a1 : Int32) (a2 : Int32) (a3 : Int32) {mem : Mm} {r : Int32} {m2 : Mm} (h : f_S_does N a1 a2 a3 mem = some (r, m2)) : CtI l E 4 y_S_does prog_1_method_4_code 4 (some .int) [.ref (eb E + 0), .int a1, .int a2, .int a3] SH mem r m2 := by
  refine mk_CtI ⟨by decide, (Nat.le_of_ble_eq_true rfl)⟩ (fun X S hl hR => ?_)
  have S : Std X E prog_1_method_4_code R5 4 4 := S
  show J X E 4 0 [(0, .ref (eb E + 0)), (1, .int a1), (2, .int a2), (3, .int a3)] [] SH mem
  unfold f_S_does at h
  refine j_aload_n S D_S_does_0 0 rfl rfl ?_
  refine j_iload_n S D_S_does_1 1 rfl rfl ?_
  obtain ⟨r_2, e_2, h⟩ := bpE h
  refine j_callVI (As := [.int a1]) S D_S_does_2 mv_R5_86 (c_S_isMonk (cxL X) E a1 e_2) (by decide) sh_Sand rfl rfl rfl rfl (Nat.le_of_ble_eq_true rfl) ?_
  refine j_if_eq S D_S_does_5 (fun c_5 => ?_) (fun c_5 => ?_)
  · have h := ifT c_5 h
    refine j_ldc S D_S_does_37 co_R5_77 ?_
    exact rtM hR h _ _ D_S_does_39
  · have h := ifF c_5 h
    refine j_iload_n S D_S_does_8 2 rfl rfl ?_
    refine j_iconst S D_S_does_9 ci_0 ?_
    refine j_iconst S D_S_does_10 ci_2 ?_
    obtain ⟨r_11, e_11, h⟩ := bpE h
    refine j_callSI (As := [.int a2, .int 0, .int 2]) S D_S_does_11 ms_R5_70 (c_S_within (cxL X) E a2 0 2 (mem := mem) e_11) (by decide) rfl rfl (Nat.le_of_ble_eq_true rfl) ?_
    refine j_if_eq S D_S_does_14 (fun c_14 => ?_) (fun c_14 => ?_)
    · have h := ifT c_14 h
      refine j_ldc S D_S_does_37 co_R5_77 ?_
      exact rtM hR h _ _ D_S_does_39
    · have h := ifF c_14 h
      refine j_iload_n S D_S_does_17 3 rfl rfl ?_
      refine j_iconst S D_S_does_18 ci_0 ?_
      refine j_iload_n S D_S_does_19 2 rfl rfl ?_
      refine j_dia (P := J X E 4 31 [(0, .ref (eb E + 0)), (1, .int a1), (2, .int a2), (3, .int a3)] [.int (if a2 = 0 then (9 : Int32) else 999), .int 0, .int a3] SH mem) (fun hj => ?_) ?_
      · refine j_if_ne S D_S_does_20 (fun c_20 => ?_) (fun c_20 => ?_)
        · refine j_sipush S D_S_does_28 cs_999 ?_
          exact j_jnF hj c_20
        · refine j_bipush S D_S_does_23 cb_9 ?_
          refine j_goto S D_S_does_25 ?_
          exact j_jnT hj c_20
      obtain ⟨r_31, e_31, h⟩ := bpE h
      refine j_callSI (As := [.int a3, .int 0, .int (if a2 = 0 then (9 : Int32) else 999)]) S D_S_does_31 ms_R5_70 (c_S_within (cxL X) E a3 0 (if a2 = 0 then (9 : Int32) else 999) (mem := mem) e_31) (by decide) rfl rfl (Nat.le_of_ble_eq_true rfl) ?_
      refine j_if_ne S D_S_does_34 (fun c_34 => ?_) (fun c_34 => ?_)
      · have h := ifF c_34 h
        refine j_iload_n S D_S_does_40 2 rfl rfl ?_
        by_cases c_41_0 : a2 = 0
        · have h := ifT c_41_0 h
          refine j_lookE (tg := 68) (off := 27) S D_S_does_41 0 c_41_0 (by decide +kernel) ?_
          refine j_aload_n S D_S_does_68 0 rfl rfl ?_
          refine j_getR S D_S_does_69 fl_R5_52 sh_Sand rfl ?_
          refine j_iload_n S D_S_does_72 1 rfl rfl ?_
          refine j_iload_n S D_S_does_73 3 rfl rfl ?_
          obtain ⟨r_74, m_74, e_74, h⟩ := bdE h
          refine j_callVI (As := [.int a1, .int a3]) S D_S_does_74 mv_R5_102 (c_P_pours (cxL X) E N 38 pic_38 a1 a3 e_74) (by decide) sh_P38 rfl rfl rfl rfl (Nat.le_of_ble_eq_true rfl) ?_
          exact rtM hR h _ _ D_S_does_77
        · have h := ifF c_41_0 h
          by_cases c_41_1 : a2 = 1
          · have h := ifT c_41_1 h
            refine j_lookE (tg := 78) (off := 37) S D_S_does_41 1 c_41_1 (by decide +kernel) ?_
            refine j_aload_n S D_S_does_78 0 rfl rfl ?_
            refine j_getR S D_S_does_79 fl_R5_52 sh_Sand rfl ?_
            refine j_getR S D_S_does_82 fl_R5_89 sh_P38 rfl ?_
            refine j_iload_n S D_S_does_85 1 rfl rfl ?_
            obtain ⟨g_86, h⟩ := gdE h
            refine j_iald S D_S_does_86 sh_40 g_86 ?_
            refine j_iload_n S D_S_does_87 3 rfl rfl ?_
            obtain ⟨r_88, e_88, h⟩ := bpE h
            refine j_callSI (As := [.int (mem 40 (ix a1)), .int a3]) S D_S_does_88 ms_R5_105 (c_K_spills (cxL X) E (mem 40 (ix a1)) a3 (mem := mem) e_88) (by decide) rfl rfl (Nat.le_of_ble_eq_true rfl) ?_
            exact rtM hR h _ _ D_S_does_91
          · have h := ifF c_41_1 h
            refine j_look (tg := 92) S D_S_does_41 (by decide +kernel) (by show Op.lookupswitch.offset [(0, 27), (1, 37)] 51 (a2 : Int32).toInt = 51; rw [lv_osw c_41_0 (by decide +kernel), lv_osw c_41_1 (by decide +kernel)]; rfl) rfl ?_
            refine j_aload_n S D_S_does_92 0 rfl rfl ?_
            refine j_getR S D_S_does_93 fl_R5_52 sh_Sand rfl ?_
            refine j_getR S D_S_does_96 fl_R5_89 sh_P38 rfl ?_
            refine j_iload_n S D_S_does_99 1 rfl rfl ?_
            obtain ⟨g_100, h⟩ := gdE h
            refine j_iald S D_S_does_100 sh_40 g_100 ?_
            refine j_iload_n S D_S_does_101 3 rfl rfl ?_
            obtain ⟨r_102, e_102, h⟩ := bpE h
            refine j_callSI (As := [.int (mem 40 (ix a1)), .int a3]) S D_S_does_102 ms_R5_108 (c_K_adds (cxL X) E (mem 40 (ix a1)) a3 (mem := mem) e_102) (by decide) rfl rfl (Nat.le_of_ble_eq_true rfl) ?_
            exact rtM hR h _ _ D_S_does_105
      · have h := ifT c_34 h
        refine j_ldc S D_S_does_37 co_R5_77 ?_
        exact rtM hR h _ _ D_S_does_39

def y_S_as : MethodName := ⟨"SandPicture", "as", "(II)I"⟩
theorem D_S_as_0 : decode prog_1_method_5_code 0 = .ok (.aload_n 0, 1) ∧ 0 + 1 = 1 := by decide +kernel
theorem D_S_as_1 : decode prog_1_method_5_code 1 = .ok (.iload_n 1, 1) ∧ 1 + 1 = 2 := by decide +kernel
theorem D_S_as_2 : decode prog_1_method_5_code 2 = .ok (.invokevirtual 86, 3) ∧ 2 + 3 = 5 := by decide +kernel
theorem D_S_as_5 : decode prog_1_method_5_code 5 = .ok (.ifCond .eq 10, 3) ∧ ((5 : Nat) : Int) + 10 = ((15 : Nat) : Int) ∧ 5 + 3 = 8 := by decide +kernel
theorem D_S_as_15 : decode prog_1_method_5_code 15 = .ok (.ldc 77, 2) ∧ 15 + 2 = 17 := by decide +kernel
theorem D_S_as_17 : decode prog_1_method_5_code 17 = .ok (.ireturn, 1) := by decide +kernel
theorem D_S_as_8 : decode prog_1_method_5_code 8 = .ok (.iload_n 2, 1) ∧ 8 + 1 = 9 := by decide +kernel
theorem D_S_as_9 : decode prog_1_method_5_code 9 = .ok (.invokestatic 64, 3) ∧ 9 + 3 = 12 := by decide +kernel
theorem D_S_as_12 : decode prog_1_method_5_code 12 = .ok (.ifCond .ne 6, 3) ∧ ((12 : Nat) : Int) + 6 = ((18 : Nat) : Int) ∧ 12 + 3 = 15 := by decide +kernel
theorem D_S_as_18 : decode prog_1_method_5_code 18 = .ok (.aload_n 0, 1) ∧ 18 + 1 = 19 := by decide +kernel
theorem D_S_as_19 : decode prog_1_method_5_code 19 = .ok (.getfield 52, 3) ∧ 19 + 3 = 22 := by decide +kernel
theorem D_S_as_22 : decode prog_1_method_5_code 22 = .ok (.getfield 89, 3) ∧ 22 + 3 = 25 := by decide +kernel
theorem D_S_as_25 : decode prog_1_method_5_code 25 = .ok (.iload_n 1, 1) ∧ 25 + 1 = 26 := by decide +kernel
theorem D_S_as_26 : decode prog_1_method_5_code 26 = .ok (.iaload, 1) ∧ 26 + 1 = 27 := by decide +kernel
theorem D_S_as_27 : decode prog_1_method_5_code 27 = .ok (.iload_n 2, 1) ∧ 27 + 1 = 28 := by decide +kernel
theorem D_S_as_28 : decode prog_1_method_5_code 28 = .ok (.invokestatic 111, 3) ∧ 28 + 3 = 31 := by decide +kernel
theorem D_S_as_46 : decode prog_1_method_5_code 46 = .ok (.ldc 115, 2) ∧ 46 + 2 = 48 := by decide +kernel
theorem D_S_as_34 : decode prog_1_method_5_code 34 = .ok (.aload_n 0, 1) ∧ 34 + 1 = 35 := by decide +kernel
theorem D_S_as_35 : decode prog_1_method_5_code 35 = .ok (.getfield 52, 3) ∧ 35 + 3 = 38 := by decide +kernel
theorem D_S_as_38 : decode prog_1_method_5_code 38 = .ok (.getfield 92, 3) ∧ 38 + 3 = 41 := by decide +kernel
theorem D_S_as_41 : decode prog_1_method_5_code 41 = .ok (.iload_n 1, 1) ∧ 41 + 1 = 42 := by decide +kernel
theorem D_S_as_42 : decode prog_1_method_5_code 42 = .ok (.iaload, 1) ∧ 42 + 1 = 43 := by decide +kernel
theorem D_S_as_43 : decode prog_1_method_5_code 43 = .ok (.goto 5, 3) ∧ ((43 : Nat) : Int) + 5 = ((48 : Nat) : Int) := by decide +kernel
theorem D_S_as_31 : decode prog_1_method_5_code 31 = .ok (.ifCond .eq 15, 3) ∧ ((31 : Nat) : Int) + 15 = ((46 : Nat) : Int) ∧ 31 + 3 = 34 := by decide +kernel
theorem D_S_as_48 : decode prog_1_method_5_code 48 = .ok (.ireturn, 1) := by decide +kernel
def f_S_as (a1 : Int32) (a2 : Int32) (mem : Mm) : Option (Int32) := bp (f_S_isMonk a1 mem) fun r_2 => if r_2 = 0 then some (-1000000001) else bp (f_K_known a2) fun r_9 => if r_9 = 0 then some (-1000000001) else if inb a1 10 = true then bp (f_K_isUnder (mem 40 (ix a1)) a2) fun r_28 => some (if r_28 = 0 then ((-1000000012) : Int32) else mem 41 (ix a1)) else none
theorem c_S_as (l : Launch) (E : En) (a1 : Int32) (a2 : Int32) {mem : Mm} {r : Int32} (h : f_S_as a1 a2 mem = some r) : CtI l E 2 y_S_as prog_1_method_5_code 3 (some .int) [.ref (eb E + 0), .int a1, .int a2] SH mem r mem := by
  refine mk_CtI ⟨by decide, (Nat.le_of_ble_eq_true rfl)⟩ (fun X S hl hR => ?_)
  have S : Std X E prog_1_method_5_code R5 3 2 := S
  show J X E 3 0 [(0, .ref (eb E + 0)), (1, .int a1), (2, .int a2)] [] SH mem
  unfold f_S_as at h
  refine j_aload_n S D_S_as_0 0 rfl rfl ?_
  refine j_iload_n S D_S_as_1 1 rfl rfl ?_
  obtain ⟨r_2, e_2, h⟩ := bpE h
  refine j_callVI (As := [.int a1]) S D_S_as_2 mv_R5_86 (c_S_isMonk (cxL X) E a1 e_2) (by decide) sh_Sand rfl rfl rfl rfl (Nat.le_of_ble_eq_true rfl) ?_
  refine j_if_eq S D_S_as_5 (fun c_5 => ?_) (fun c_5 => ?_)
  · have h := ifT c_5 h
    refine j_ldc S D_S_as_15 co_R5_77 ?_
    exact rtI hR h _ _ D_S_as_17
  · have h := ifF c_5 h
    refine j_iload_n S D_S_as_8 2 rfl rfl ?_
    obtain ⟨r_9, e_9, h⟩ := bpE h
    refine j_callSI (As := [.int a2]) S D_S_as_9 ms_R5_64 (c_K_known (cxL X) E a2 (mem := mem) e_9) (by decide) rfl rfl (Nat.le_of_ble_eq_true rfl) ?_
    refine j_if_ne S D_S_as_12 (fun c_12 => ?_) (fun c_12 => ?_)
    · have h := ifF c_12 h
      refine j_aload_n S D_S_as_18 0 rfl rfl ?_
      refine j_getR S D_S_as_19 fl_R5_52 sh_Sand rfl ?_
      refine j_getR S D_S_as_22 fl_R5_89 sh_P38 rfl ?_
      refine j_iload_n S D_S_as_25 1 rfl rfl ?_
      obtain ⟨g_26, h⟩ := gdE h
      refine j_iald S D_S_as_26 sh_40 g_26 ?_
      refine j_iload_n S D_S_as_27 2 rfl rfl ?_
      obtain ⟨r_28, e_28, h⟩ := bpE h
      refine j_callSI (As := [.int (mem 40 (ix a1)), .int a2]) S D_S_as_28 ms_R5_111 (c_K_isUnder (cxL X) E (mem 40 (ix a1)) a2 (mem := mem) e_28) (by decide) rfl rfl (Nat.le_of_ble_eq_true rfl) ?_
      refine j_dia (P := J X E 3 48 [(0, .ref (eb E + 0)), (1, .int a1), (2, .int a2)] [.int (if r_28 = 0 then ((-1000000012) : Int32) else mem 41 (ix a1))] SH mem) (fun hj => ?_) ?_
      · refine j_if_eq S D_S_as_31 (fun c_31 => ?_) (fun c_31 => ?_)
        · refine j_ldc S D_S_as_46 co_R5_115 ?_
          exact j_jnT hj c_31
        · refine j_aload_n S D_S_as_34 0 rfl rfl ?_
          refine j_getR S D_S_as_35 fl_R5_52 sh_Sand rfl ?_
          refine j_getR S D_S_as_38 fl_R5_92 sh_P38 rfl ?_
          refine j_iload_n S D_S_as_41 1 rfl rfl ?_
          refine j_iald S D_S_as_42 sh_41 g_26 ?_
          refine j_goto S D_S_as_43 ?_
          exact j_jnF hj c_31
      exact rtI hR h _ _ D_S_as_48
    · have h := ifT c_12 h
      refine j_ldc S D_S_as_15 co_R5_77 ?_
      exact rtI hR h _ _ D_S_as_17

def y_S_turns : MethodName := ⟨"SandPicture", "turns", "(II)I"⟩
theorem D_S_turns_0 : decode prog_1_method_6_code 0 = .ok (.aload_n 0, 1) ∧ 0 + 1 = 1 := by decide +kernel
theorem D_S_turns_1 : decode prog_1_method_6_code 1 = .ok (.iload_n 1, 1) ∧ 1 + 1 = 2 := by decide +kernel
theorem D_S_turns_2 : decode prog_1_method_6_code 2 = .ok (.invokevirtual 86, 3) ∧ 2 + 3 = 5 := by decide +kernel
theorem D_S_turns_5 : decode prog_1_method_6_code 5 = .ok (.ifCond .eq 10, 3) ∧ ((5 : Nat) : Int) + 10 = ((15 : Nat) : Int) ∧ 5 + 3 = 8 := by decide +kernel
theorem D_S_turns_15 : decode prog_1_method_6_code 15 = .ok (.ldc 77, 2) ∧ 15 + 2 = 17 := by decide +kernel
theorem D_S_turns_17 : decode prog_1_method_6_code 17 = .ok (.ireturn, 1) := by decide +kernel
theorem D_S_turns_8 : decode prog_1_method_6_code 8 = .ok (.iload_n 2, 1) ∧ 8 + 1 = 9 := by decide +kernel
theorem D_S_turns_9 : decode prog_1_method_6_code 9 = .ok (.invokestatic 64, 3) ∧ 9 + 3 = 12 := by decide +kernel
theorem D_S_turns_12 : decode prog_1_method_6_code 12 = .ok (.ifCond .ne 6, 3) ∧ ((12 : Nat) : Int) + 6 = ((18 : Nat) : Int) ∧ 12 + 3 = 15 := by decide +kernel
theorem D_S_turns_18 : decode prog_1_method_6_code 18 = .ok (.aload_n 0, 1) ∧ 18 + 1 = 19 := by decide +kernel
theorem D_S_turns_19 : decode prog_1_method_6_code 19 = .ok (.getfield 52, 3) ∧ 19 + 3 = 22 := by decide +kernel
theorem D_S_turns_22 : decode prog_1_method_6_code 22 = .ok (.getfield 89, 3) ∧ 22 + 3 = 25 := by decide +kernel
theorem D_S_turns_25 : decode prog_1_method_6_code 25 = .ok (.iload_n 1, 1) ∧ 25 + 1 = 26 := by decide +kernel
theorem D_S_turns_26 : decode prog_1_method_6_code 26 = .ok (.iaload, 1) ∧ 26 + 1 = 27 := by decide +kernel
theorem D_S_turns_27 : decode prog_1_method_6_code 27 = .ok (.istore_n 3, 1) ∧ 27 + 1 = 28 := by decide +kernel
theorem D_S_turns_28 : decode prog_1_method_6_code 28 = .ok (.aload_n 0, 1) ∧ 28 + 1 = 29 := by decide +kernel
theorem D_S_turns_29 : decode prog_1_method_6_code 29 = .ok (.getfield 52, 3) ∧ 29 + 3 = 32 := by decide +kernel
theorem D_S_turns_32 : decode prog_1_method_6_code 32 = .ok (.getfield 89, 3) ∧ 32 + 3 = 35 := by decide +kernel
theorem D_S_turns_35 : decode prog_1_method_6_code 35 = .ok (.iload_n 1, 1) ∧ 35 + 1 = 36 := by decide +kernel
theorem D_S_turns_36 : decode prog_1_method_6_code 36 = .ok (.iload_n 2, 1) ∧ 36 + 1 = 37 := by decide +kernel
theorem D_S_turns_37 : decode prog_1_method_6_code 37 = .ok (.iastore, 1) ∧ 37 + 1 = 38 := by decide +kernel
theorem D_S_turns_38 : decode prog_1_method_6_code 38 = .ok (.iload_n 3, 1) ∧ 38 + 1 = 39 := by decide +kernel
theorem D_S_turns_39 : decode prog_1_method_6_code 39 = .ok (.ireturn, 1) := by decide +kernel
def f_S_turns (a1 : Int32) (a2 : Int32) (mem : Mm) : Option (Int32 × Mm) := bp (f_S_isMonk a1 mem) fun r_2 => if r_2 = 0 then some ((-1000000001), mem) else bp (f_K_known a2) fun r_9 => if r_9 = 0 then some ((-1000000001), mem) else if inb a1 10 = true then lt (mem 40 (ix a1)) fun x_27 => lt (mst mem 40 (ix a1) a2) fun m_37 => some (x_27, m_37) else none
theorem c_S_turns (l : Launch) (E : En) (a1 : Int32) (a2 : Int32) {mem : Mm} {r : Int32} {m2 : Mm} (h : f_S_turns a1 a2 mem = some (r, m2)) : CtI l E 2 y_S_turns prog_1_method_6_code 4 (some .int) [.ref (eb E + 0), .int a1, .int a2] SH mem r m2 := by
  refine mk_CtI ⟨by decide, (Nat.le_of_ble_eq_true rfl)⟩ (fun X S hl hR => ?_)
  have S : Std X E prog_1_method_6_code R5 4 2 := S
  show J X E 4 0 [(0, .ref (eb E + 0)), (1, .int a1), (2, .int a2)] [] SH mem
  unfold f_S_turns at h
  refine j_aload_n S D_S_turns_0 0 rfl rfl ?_
  refine j_iload_n S D_S_turns_1 1 rfl rfl ?_
  obtain ⟨r_2, e_2, h⟩ := bpE h
  refine j_callVI (As := [.int a1]) S D_S_turns_2 mv_R5_86 (c_S_isMonk (cxL X) E a1 e_2) (by decide) sh_Sand rfl rfl rfl rfl (Nat.le_of_ble_eq_true rfl) ?_
  refine j_if_eq S D_S_turns_5 (fun c_5 => ?_) (fun c_5 => ?_)
  · have h := ifT c_5 h
    refine j_ldc S D_S_turns_15 co_R5_77 ?_
    exact rtM hR h _ _ D_S_turns_17
  · have h := ifF c_5 h
    refine j_iload_n S D_S_turns_8 2 rfl rfl ?_
    obtain ⟨r_9, e_9, h⟩ := bpE h
    refine j_callSI (As := [.int a2]) S D_S_turns_9 ms_R5_64 (c_K_known (cxL X) E a2 (mem := mem) e_9) (by decide) rfl rfl (Nat.le_of_ble_eq_true rfl) ?_
    refine j_if_ne S D_S_turns_12 (fun c_12 => ?_) (fun c_12 => ?_)
    · have h := ifF c_12 h
      refine j_aload_n S D_S_turns_18 0 rfl rfl ?_
      refine j_getR S D_S_turns_19 fl_R5_52 sh_Sand rfl ?_
      refine j_getR S D_S_turns_22 fl_R5_89 sh_P38 rfl ?_
      refine j_iload_n S D_S_turns_25 1 rfl rfl ?_
      obtain ⟨g_26, h⟩ := gdE h
      refine j_iald S D_S_turns_26 sh_40 g_26 ?_
      obtain ⟨x_27, hx_27, h⟩ := ltE h
      refine j_nm hx_27 ?_
      refine j_istore_n S D_S_turns_27 (lv := [(3, .int x_27), (0, .ref (eb E + 0)), (1, .int a1), (2, .int a2)]) rfl ⟨rfl, (Nat.le_of_ble_eq_true rfl)⟩ ?_
      refine j_aload_n S D_S_turns_28 1 rfl rfl ?_
      refine j_getR S D_S_turns_29 fl_R5_52 sh_Sand rfl ?_
      refine j_getR S D_S_turns_32 fl_R5_89 sh_P38 rfl ?_
      refine j_iload_n S D_S_turns_35 2 rfl rfl ?_
      refine j_iload_n S D_S_turns_36 3 rfl rfl ?_
      obtain ⟨m_37, hm_37, h⟩ := ltE h
      refine j_iast S D_S_turns_37 sh_40 g_26 ?_
      refine j_mem hm_37 ?_
      refine j_iload_n S D_S_turns_38 0 rfl rfl ?_
      exact rtM hR h _ _ D_S_turns_39
    · have h := ifT c_12 h
      refine j_ldc S D_S_turns_15 co_R5_77 ?_
      exact rtM hR h _ _ D_S_turns_17

def y_S_set : MethodName := ⟨"SandPicture", "set", "(III)I"⟩
theorem D_S_set_0 : decode prog_1_method_7_code 0 = .ok (.aload_n 0, 1) ∧ 0 + 1 = 1 := by decide +kernel
theorem D_S_set_1 : decode prog_1_method_7_code 1 = .ok (.iload_n 1, 1) ∧ 1 + 1 = 2 := by decide +kernel
theorem D_S_set_2 : decode prog_1_method_7_code 2 = .ok (.invokevirtual 86, 3) ∧ 2 + 3 = 5 := by decide +kernel
theorem D_S_set_5 : decode prog_1_method_7_code 5 = .ok (.ifCond .ne 6, 3) ∧ ((5 : Nat) : Int) + 6 = ((11 : Nat) : Int) ∧ 5 + 3 = 8 := by decide +kernel
theorem D_S_set_11 : decode prog_1_method_7_code 11 = .ok (.iload_n 2, 1) ∧ 11 + 1 = 12 := by decide +kernel
theorem D_S_set_12 : decode prog_1_method_7_code 12 = .ok (.iconst 1, 1) ∧ 12 + 1 = 13 := by decide +kernel
theorem D_S_set_13 : decode prog_1_method_7_code 13 = .ok (.if_icmp .ne 37, 3) ∧ ((13 : Nat) : Int) + 37 = ((50 : Nat) : Int) ∧ 13 + 3 = 16 := by decide +kernel
theorem D_S_set_50 : decode prog_1_method_7_code 50 = .ok (.iload_n 2, 1) ∧ 50 + 1 = 51 := by decide +kernel
theorem D_S_set_51 : decode prog_1_method_7_code 51 = .ok (.iconst 2, 1) ∧ 51 + 1 = 52 := by decide +kernel
theorem D_S_set_52 : decode prog_1_method_7_code 52 = .ok (.if_icmp .ne 34, 3) ∧ ((52 : Nat) : Int) + 34 = ((86 : Nat) : Int) ∧ 52 + 3 = 55 := by decide +kernel
theorem D_S_set_86 : decode prog_1_method_7_code 86 = .ok (.ldc 77, 2) ∧ 86 + 2 = 88 := by decide +kernel
theorem D_S_set_88 : decode prog_1_method_7_code 88 = .ok (.ireturn, 1) := by decide +kernel
theorem D_S_set_55 : decode prog_1_method_7_code 55 = .ok (.iload_n 3, 1) ∧ 55 + 1 = 56 := by decide +kernel
theorem D_S_set_56 : decode prog_1_method_7_code 56 = .ok (.invokestatic 74, 3) ∧ 56 + 3 = 59 := by decide +kernel
theorem D_S_set_59 : decode prog_1_method_7_code 59 = .ok (.ifCond .eq 27, 3) ∧ ((59 : Nat) : Int) + 27 = ((86 : Nat) : Int) ∧ 59 + 3 = 62 := by decide +kernel
theorem D_S_set_62 : decode prog_1_method_7_code 62 = .ok (.aload_n 0, 1) ∧ 62 + 1 = 63 := by decide +kernel
theorem D_S_set_63 : decode prog_1_method_7_code 63 = .ok (.getfield 52, 3) ∧ 63 + 3 = 66 := by decide +kernel
theorem D_S_set_66 : decode prog_1_method_7_code 66 = .ok (.getfield 95, 3) ∧ 66 + 3 = 69 := by decide +kernel
theorem D_S_set_69 : decode prog_1_method_7_code 69 = .ok (.iload_n 1, 1) ∧ 69 + 1 = 70 := by decide +kernel
theorem D_S_set_70 : decode prog_1_method_7_code 70 = .ok (.iaload, 1) ∧ 70 + 1 = 71 := by decide +kernel
theorem D_S_set_71 : decode prog_1_method_7_code 71 = .ok (.istore 4, 2) ∧ 71 + 2 = 73 := by decide +kernel
theorem D_S_set_73 : decode prog_1_method_7_code 73 = .ok (.aload_n 0, 1) ∧ 73 + 1 = 74 := by decide +kernel
theorem D_S_set_74 : decode prog_1_method_7_code 74 = .ok (.getfield 52, 3) ∧ 74 + 3 = 77 := by decide +kernel
theorem D_S_set_77 : decode prog_1_method_7_code 77 = .ok (.getfield 95, 3) ∧ 77 + 3 = 80 := by decide +kernel
theorem D_S_set_80 : decode prog_1_method_7_code 80 = .ok (.iload_n 1, 1) ∧ 80 + 1 = 81 := by decide +kernel
theorem D_S_set_81 : decode prog_1_method_7_code 81 = .ok (.iload_n 3, 1) ∧ 81 + 1 = 82 := by decide +kernel
theorem D_S_set_82 : decode prog_1_method_7_code 82 = .ok (.iastore, 1) ∧ 82 + 1 = 83 := by decide +kernel
theorem D_S_set_83 : decode prog_1_method_7_code 83 = .ok (.iload 4, 2) ∧ 83 + 2 = 85 := by decide +kernel
theorem D_S_set_85 : decode prog_1_method_7_code 85 = .ok (.ireturn, 1) := by decide +kernel
theorem D_S_set_16 : decode prog_1_method_7_code 16 = .ok (.iload_n 3, 1) ∧ 16 + 1 = 17 := by decide +kernel
theorem D_S_set_17 : decode prog_1_method_7_code 17 = .ok (.iconst 1, 1) ∧ 17 + 1 = 18 := by decide +kernel
theorem D_S_set_18 : decode prog_1_method_7_code 18 = .ok (.bipush 99, 2) ∧ 18 + 2 = 20 := by decide +kernel
theorem D_S_set_20 : decode prog_1_method_7_code 20 = .ok (.invokestatic 70, 3) ∧ 20 + 3 = 23 := by decide +kernel
theorem D_S_set_23 : decode prog_1_method_7_code 23 = .ok (.ifCond .eq 27, 3) ∧ ((23 : Nat) : Int) + 27 = ((50 : Nat) : Int) ∧ 23 + 3 = 26 := by decide +kernel
theorem D_S_set_26 : decode prog_1_method_7_code 26 = .ok (.aload_n 0, 1) ∧ 26 + 1 = 27 := by decide +kernel
theorem D_S_set_27 : decode prog_1_method_7_code 27 = .ok (.getfield 52, 3) ∧ 27 + 3 = 30 := by decide +kernel
theorem D_S_set_30 : decode prog_1_method_7_code 30 = .ok (.getfield 92, 3) ∧ 30 + 3 = 33 := by decide +kernel
theorem D_S_set_33 : decode prog_1_method_7_code 33 = .ok (.iload_n 1, 1) ∧ 33 + 1 = 34 := by decide +kernel
theorem D_S_set_34 : decode prog_1_method_7_code 34 = .ok (.iaload, 1) ∧ 34 + 1 = 35 := by decide +kernel
theorem D_S_set_35 : decode prog_1_method_7_code 35 = .ok (.istore 4, 2) ∧ 35 + 2 = 37 := by decide +kernel
theorem D_S_set_37 : decode prog_1_method_7_code 37 = .ok (.aload_n 0, 1) ∧ 37 + 1 = 38 := by decide +kernel
theorem D_S_set_38 : decode prog_1_method_7_code 38 = .ok (.getfield 52, 3) ∧ 38 + 3 = 41 := by decide +kernel
theorem D_S_set_41 : decode prog_1_method_7_code 41 = .ok (.getfield 92, 3) ∧ 41 + 3 = 44 := by decide +kernel
theorem D_S_set_44 : decode prog_1_method_7_code 44 = .ok (.iload_n 1, 1) ∧ 44 + 1 = 45 := by decide +kernel
theorem D_S_set_45 : decode prog_1_method_7_code 45 = .ok (.iload_n 3, 1) ∧ 45 + 1 = 46 := by decide +kernel
theorem D_S_set_46 : decode prog_1_method_7_code 46 = .ok (.iastore, 1) ∧ 46 + 1 = 47 := by decide +kernel
theorem D_S_set_47 : decode prog_1_method_7_code 47 = .ok (.iload 4, 2) ∧ 47 + 2 = 49 := by decide +kernel
theorem D_S_set_49 : decode prog_1_method_7_code 49 = .ok (.ireturn, 1) := by decide +kernel
theorem D_S_set_8 : decode prog_1_method_7_code 8 = .ok (.ldc 77, 2) ∧ 8 + 2 = 10 := by decide +kernel
theorem D_S_set_10 : decode prog_1_method_7_code 10 = .ok (.ireturn, 1) := by decide +kernel
def f_S_set (a1 : Int32) (a2 : Int32) (a3 : Int32) (mem : Mm) : Option (Int32 × Mm) := bp (f_S_isMonk a1 mem) fun r_2 => if r_2 = 0 then some ((-1000000001), mem) else if a2 = 1 then bp (f_S_within a3 1 99) fun r_20 => if r_20 = 0 then if a2 = 2 then bp (f_S_isTable a3) fun r_56 => if r_56 = 0 then some ((-1000000001), mem) else if inb a1 10 = true then lt (mem 42 (ix a1)) fun x_71 => lt (mst mem 42 (ix a1) a3) fun m_82 => some (x_71, m_82) else none else some ((-1000000001), mem) else if inb a1 10 = true then lt (mem 41 (ix a1)) fun x_35 => lt (mst mem 41 (ix a1) a3) fun m_46 => some (x_35, m_46) else none else if a2 = 2 then bp (f_S_isTable a3) fun r_56 => if r_56 = 0 then some ((-1000000001), mem) else if inb a1 10 = true then lt (mem 42 (ix a1)) fun x_71 => lt (mst mem 42 (ix a1) a3) fun m_82 => some (x_71, m_82) else none else some ((-1000000001), mem)
theorem c_S_set (l : Launch) (E : En) (a1 : Int32) (a2 : Int32) (a3 : Int32) {mem : Mm} {r : Int32} {m2 : Mm} (h : f_S_set a1 a2 a3 mem = some (r, m2)) : CtI l E 2 y_S_set prog_1_method_7_code 5 (some .int) [.ref (eb E + 0), .int a1, .int a2, .int a3] SH mem r m2 := by
  refine mk_CtI ⟨by decide, (Nat.le_of_ble_eq_true rfl)⟩ (fun X S hl hR => ?_)
  have S : Std X E prog_1_method_7_code R5 5 2 := S
  show J X E 5 0 [(0, .ref (eb E + 0)), (1, .int a1), (2, .int a2), (3, .int a3)] [] SH mem
  unfold f_S_set at h
  refine j_aload_n S D_S_set_0 0 rfl rfl ?_
  refine j_iload_n S D_S_set_1 1 rfl rfl ?_
  obtain ⟨r_2, e_2, h⟩ := bpE h
  refine j_callVI (As := [.int a1]) S D_S_set_2 mv_R5_86 (c_S_isMonk (cxL X) E a1 e_2) (by decide) sh_Sand rfl rfl rfl rfl (Nat.le_of_ble_eq_true rfl) ?_
  refine j_if_ne S D_S_set_5 (fun c_5 => ?_) (fun c_5 => ?_)
  · have h := ifF c_5 h
    refine j_iload_n S D_S_set_11 2 rfl rfl ?_
    refine j_iconst S D_S_set_12 ci_1 ?_
    refine j_icmp_ne S D_S_set_13 (fun c_13 => ?_) (fun c_13 => ?_)
    · have h := ifF c_13 h
      refine j_iload_n S D_S_set_50 2 rfl rfl ?_
      refine j_iconst S D_S_set_51 ci_2 ?_
      refine j_icmp_ne S D_S_set_52 (fun c_52 => ?_) (fun c_52 => ?_)
      · have h := ifF c_52 h
        refine j_ldc S D_S_set_86 co_R5_77 ?_
        exact rtM hR h _ _ D_S_set_88
      · have h := ifT c_52 h
        refine j_iload_n S D_S_set_55 3 rfl rfl ?_
        obtain ⟨r_56, e_56, h⟩ := bpE h
        refine j_callSI (As := [.int a3]) S D_S_set_56 ms_R5_74 (c_S_isTable (cxL X) E a3 (mem := mem) e_56) (by decide) rfl rfl (Nat.le_of_ble_eq_true rfl) ?_
        refine j_if_eq S D_S_set_59 (fun c_59 => ?_) (fun c_59 => ?_)
        · have h := ifT c_59 h
          refine j_ldc S D_S_set_86 co_R5_77 ?_
          exact rtM hR h _ _ D_S_set_88
        · have h := ifF c_59 h
          refine j_aload_n S D_S_set_62 0 rfl rfl ?_
          refine j_getR S D_S_set_63 fl_R5_52 sh_Sand rfl ?_
          refine j_getR S D_S_set_66 fl_R5_95 sh_P38 rfl ?_
          refine j_iload_n S D_S_set_69 1 rfl rfl ?_
          obtain ⟨g_70, h⟩ := gdE h
          refine j_iald S D_S_set_70 sh_42 g_70 ?_
          obtain ⟨x_71, hx_71, h⟩ := ltE h
          refine j_nm hx_71 ?_
          refine j_istore S D_S_set_71 (lv := [(4, .int x_71), (0, .ref (eb E + 0)), (1, .int a1), (2, .int a2), (3, .int a3)]) rfl (Nat.le_of_ble_eq_true rfl) ?_
          refine j_aload_n S D_S_set_73 1 rfl rfl ?_
          refine j_getR S D_S_set_74 fl_R5_52 sh_Sand rfl ?_
          refine j_getR S D_S_set_77 fl_R5_95 sh_P38 rfl ?_
          refine j_iload_n S D_S_set_80 2 rfl rfl ?_
          refine j_iload_n S D_S_set_81 4 rfl rfl ?_
          obtain ⟨m_82, hm_82, h⟩ := ltE h
          refine j_iast S D_S_set_82 sh_42 g_70 ?_
          refine j_mem hm_82 ?_
          refine j_iload S D_S_set_83 0 rfl ?_
          exact rtM hR h _ _ D_S_set_85
    · have h := ifT c_13 h
      refine j_iload_n S D_S_set_16 3 rfl rfl ?_
      refine j_iconst S D_S_set_17 ci_1 ?_
      refine j_bipush S D_S_set_18 cb_99 ?_
      obtain ⟨r_20, e_20, h⟩ := bpE h
      refine j_callSI (As := [.int a3, .int 1, .int 99]) S D_S_set_20 ms_R5_70 (c_S_within (cxL X) E a3 1 99 (mem := mem) e_20) (by decide) rfl rfl (Nat.le_of_ble_eq_true rfl) ?_
      refine j_if_eq S D_S_set_23 (fun c_23 => ?_) (fun c_23 => ?_)
      · have h := ifT c_23 h
        refine j_iload_n S D_S_set_50 2 rfl rfl ?_
        refine j_iconst S D_S_set_51 ci_2 ?_
        refine j_icmp_ne S D_S_set_52 (fun c_52 => ?_) (fun c_52 => ?_)
        · have h := ifF c_52 h
          refine j_ldc S D_S_set_86 co_R5_77 ?_
          exact rtM hR h _ _ D_S_set_88
        · have h := ifT c_52 h
          refine j_iload_n S D_S_set_55 3 rfl rfl ?_
          obtain ⟨r_56, e_56, h⟩ := bpE h
          refine j_callSI (As := [.int a3]) S D_S_set_56 ms_R5_74 (c_S_isTable (cxL X) E a3 (mem := mem) e_56) (by decide) rfl rfl (Nat.le_of_ble_eq_true rfl) ?_
          refine j_if_eq S D_S_set_59 (fun c_59 => ?_) (fun c_59 => ?_)
          · have h := ifT c_59 h
            refine j_ldc S D_S_set_86 co_R5_77 ?_
            exact rtM hR h _ _ D_S_set_88
          · have h := ifF c_59 h
            refine j_aload_n S D_S_set_62 0 rfl rfl ?_
            refine j_getR S D_S_set_63 fl_R5_52 sh_Sand rfl ?_
            refine j_getR S D_S_set_66 fl_R5_95 sh_P38 rfl ?_
            refine j_iload_n S D_S_set_69 1 rfl rfl ?_
            obtain ⟨g_70, h⟩ := gdE h
            refine j_iald S D_S_set_70 sh_42 g_70 ?_
            obtain ⟨x_71, hx_71, h⟩ := ltE h
            refine j_nm hx_71 ?_
            refine j_istore S D_S_set_71 (lv := [(4, .int x_71), (0, .ref (eb E + 0)), (1, .int a1), (2, .int a2), (3, .int a3)]) rfl (Nat.le_of_ble_eq_true rfl) ?_
            refine j_aload_n S D_S_set_73 1 rfl rfl ?_
            refine j_getR S D_S_set_74 fl_R5_52 sh_Sand rfl ?_
            refine j_getR S D_S_set_77 fl_R5_95 sh_P38 rfl ?_
            refine j_iload_n S D_S_set_80 2 rfl rfl ?_
            refine j_iload_n S D_S_set_81 4 rfl rfl ?_
            obtain ⟨m_82, hm_82, h⟩ := ltE h
            refine j_iast S D_S_set_82 sh_42 g_70 ?_
            refine j_mem hm_82 ?_
            refine j_iload S D_S_set_83 0 rfl ?_
            exact rtM hR h _ _ D_S_set_85
      · have h := ifF c_23 h
        refine j_aload_n S D_S_set_26 0 rfl rfl ?_
        refine j_getR S D_S_set_27 fl_R5_52 sh_Sand rfl ?_
        refine j_getR S D_S_set_30 fl_R5_92 sh_P38 rfl ?_
        refine j_iload_n S D_S_set_33 1 rfl rfl ?_
        obtain ⟨g_34, h⟩ := gdE h
        refine j_iald S D_S_set_34 sh_41 g_34 ?_
        obtain ⟨x_35, hx_35, h⟩ := ltE h
        refine j_nm hx_35 ?_
        refine j_istore S D_S_set_35 (lv := [(4, .int x_35), (0, .ref (eb E + 0)), (1, .int a1), (2, .int a2), (3, .int a3)]) rfl (Nat.le_of_ble_eq_true rfl) ?_
        refine j_aload_n S D_S_set_37 1 rfl rfl ?_
        refine j_getR S D_S_set_38 fl_R5_52 sh_Sand rfl ?_
        refine j_getR S D_S_set_41 fl_R5_92 sh_P38 rfl ?_
        refine j_iload_n S D_S_set_44 2 rfl rfl ?_
        refine j_iload_n S D_S_set_45 4 rfl rfl ?_
        obtain ⟨m_46, hm_46, h⟩ := ltE h
        refine j_iast S D_S_set_46 sh_41 g_34 ?_
        refine j_mem hm_46 ?_
        refine j_iload S D_S_set_47 0 rfl ?_
        exact rtM hR h _ _ D_S_set_49
  · have h := ifT c_5 h
    refine j_ldc S D_S_set_8 co_R5_77 ?_
    exact rtM hR h _ _ D_S_set_10

def y_S_table : MethodName := ⟨"SandPicture", "table", "(II)I"⟩
theorem D_S_table_0 : decode prog_1_method_8_code 0 = .ok (.iload_n 1, 1) ∧ 0 + 1 = 1 := by decide +kernel
theorem D_S_table_1 : decode prog_1_method_8_code 1 = .ok (.invokestatic 74, 3) ∧ 1 + 3 = 4 := by decide +kernel
theorem D_S_table_4 : decode prog_1_method_8_code 4 = .ok (.ifCond .ne 6, 3) ∧ ((4 : Nat) : Int) + 6 = ((10 : Nat) : Int) ∧ 4 + 3 = 7 := by decide +kernel
theorem D_S_table_10 : decode prog_1_method_8_code 10 = .ok (.iload_n 2, 1) ∧ 10 + 1 = 11 := by decide +kernel
theorem D_S_table_11 : decode prog_1_method_8_code 11 = .ok (.tableswitch 69 0 3 #[29, 39, 49, 59], 29) := by decide +kernel
theorem D_S_table_40 : decode prog_1_method_8_code 40 = .ok (.aload_n 0, 1) ∧ 40 + 1 = 41 := by decide +kernel
theorem D_S_table_41 : decode prog_1_method_8_code 41 = .ok (.getfield 52, 3) ∧ 41 + 3 = 44 := by decide +kernel
theorem D_S_table_44 : decode prog_1_method_8_code 44 = .ok (.getfield 116, 3) ∧ 44 + 3 = 47 := by decide +kernel
theorem D_S_table_47 : decode prog_1_method_8_code 47 = .ok (.iload_n 1, 1) ∧ 47 + 1 = 48 := by decide +kernel
theorem D_S_table_48 : decode prog_1_method_8_code 48 = .ok (.iaload, 1) ∧ 48 + 1 = 49 := by decide +kernel
theorem D_S_table_49 : decode prog_1_method_8_code 49 = .ok (.ireturn, 1) := by decide +kernel
theorem D_S_table_50 : decode prog_1_method_8_code 50 = .ok (.aload_n 0, 1) ∧ 50 + 1 = 51 := by decide +kernel
theorem D_S_table_51 : decode prog_1_method_8_code 51 = .ok (.getfield 52, 3) ∧ 51 + 3 = 54 := by decide +kernel
theorem D_S_table_54 : decode prog_1_method_8_code 54 = .ok (.getfield 119, 3) ∧ 54 + 3 = 57 := by decide +kernel
theorem D_S_table_57 : decode prog_1_method_8_code 57 = .ok (.iload_n 1, 1) ∧ 57 + 1 = 58 := by decide +kernel
theorem D_S_table_58 : decode prog_1_method_8_code 58 = .ok (.iaload, 1) ∧ 58 + 1 = 59 := by decide +kernel
theorem D_S_table_59 : decode prog_1_method_8_code 59 = .ok (.ireturn, 1) := by decide +kernel
theorem D_S_table_60 : decode prog_1_method_8_code 60 = .ok (.aload_n 0, 1) ∧ 60 + 1 = 61 := by decide +kernel
theorem D_S_table_61 : decode prog_1_method_8_code 61 = .ok (.getfield 52, 3) ∧ 61 + 3 = 64 := by decide +kernel
theorem D_S_table_64 : decode prog_1_method_8_code 64 = .ok (.getfield 122, 3) ∧ 64 + 3 = 67 := by decide +kernel
theorem D_S_table_67 : decode prog_1_method_8_code 67 = .ok (.iload_n 1, 1) ∧ 67 + 1 = 68 := by decide +kernel
theorem D_S_table_68 : decode prog_1_method_8_code 68 = .ok (.iaload, 1) ∧ 68 + 1 = 69 := by decide +kernel
theorem D_S_table_69 : decode prog_1_method_8_code 69 = .ok (.ireturn, 1) := by decide +kernel
theorem D_S_table_70 : decode prog_1_method_8_code 70 = .ok (.aload_n 0, 1) ∧ 70 + 1 = 71 := by decide +kernel
theorem D_S_table_71 : decode prog_1_method_8_code 71 = .ok (.getfield 52, 3) ∧ 71 + 3 = 74 := by decide +kernel
theorem D_S_table_74 : decode prog_1_method_8_code 74 = .ok (.getfield 125, 3) ∧ 74 + 3 = 77 := by decide +kernel
theorem D_S_table_77 : decode prog_1_method_8_code 77 = .ok (.iload_n 1, 1) ∧ 77 + 1 = 78 := by decide +kernel
theorem D_S_table_78 : decode prog_1_method_8_code 78 = .ok (.iaload, 1) ∧ 78 + 1 = 79 := by decide +kernel
theorem D_S_table_79 : decode prog_1_method_8_code 79 = .ok (.ireturn, 1) := by decide +kernel
theorem D_S_table_80 : decode prog_1_method_8_code 80 = .ok (.ldc 77, 2) ∧ 80 + 2 = 82 := by decide +kernel
theorem D_S_table_82 : decode prog_1_method_8_code 82 = .ok (.ireturn, 1) := by decide +kernel
theorem D_S_table_11o : decode prog_1_method_8_code 11 = .ok (.tableswitch 69 0 3 #[29, 39, 49, 59], 29) ∧ ((11 : Nat) : Int) + 69 = ((80 : Nat) : Int) := by decide +kernel
theorem D_S_table_7 : decode prog_1_method_8_code 7 = .ok (.ldc 77, 2) ∧ 7 + 2 = 9 := by decide +kernel
theorem D_S_table_9 : decode prog_1_method_8_code 9 = .ok (.ireturn, 1) := by decide +kernel
def f_S_table (a1 : Int32) (a2 : Int32) (mem : Mm) : Option (Int32) := bp (f_S_isTable a1) fun r_1 => if r_1 = 0 then some (-1000000001) else if a2 = 0 then if inb a1 6 = true then some (mem 43 (ix a1)) else none else if a2 = 1 then if inb a1 6 = true then some (mem 44 (ix a1)) else none else if a2 = 2 then if inb a1 6 = true then some (mem 45 (ix a1)) else none else if a2 = 3 then if inb a1 6 = true then some (mem 46 (ix a1)) else none else some (-1000000001)
theorem c_S_table (l : Launch) (E : En) (a1 : Int32) (a2 : Int32) {mem : Mm} {r : Int32} (h : f_S_table a1 a2 mem = some r) : CtI l E 2 y_S_table prog_1_method_8_code 3 (some .int) [.ref (eb E + 0), .int a1, .int a2] SH mem r mem := by
  refine mk_CtI ⟨by decide, (Nat.le_of_ble_eq_true rfl)⟩ (fun X S hl hR => ?_)
  have S : Std X E prog_1_method_8_code R5 3 2 := S
  show J X E 3 0 [(0, .ref (eb E + 0)), (1, .int a1), (2, .int a2)] [] SH mem
  unfold f_S_table at h
  refine j_iload_n S D_S_table_0 1 rfl rfl ?_
  obtain ⟨r_1, e_1, h⟩ := bpE h
  refine j_callSI (As := [.int a1]) S D_S_table_1 ms_R5_74 (c_S_isTable (cxL X) E a1 (mem := mem) e_1) (by decide) rfl rfl (Nat.le_of_ble_eq_true rfl) ?_
  refine j_if_ne S D_S_table_4 (fun c_4 => ?_) (fun c_4 => ?_)
  · have h := ifF c_4 h
    refine j_iload_n S D_S_table_10 2 rfl rfl ?_
    by_cases c_11_0 : a2 = 0
    · have h := ifT c_11_0 h
      refine j_tabIn (tg := 40) (off := 29) S D_S_table_11 0 c_11_0 (by decide +kernel) ?_
      refine j_aload_n S D_S_table_40 0 rfl rfl ?_
      refine j_getR S D_S_table_41 fl_R5_52 sh_Sand rfl ?_
      refine j_getR S D_S_table_44 fl_R5_116 sh_P38 rfl ?_
      refine j_iload_n S D_S_table_47 1 rfl rfl ?_
      obtain ⟨g_48, h⟩ := gdE h
      refine j_iald S D_S_table_48 sh_43 g_48 ?_
      exact rtI hR h _ _ D_S_table_49
    · have h := ifF c_11_0 h
      by_cases c_11_1 : a2 = 1
      · have h := ifT c_11_1 h
        refine j_tabIn (tg := 50) (off := 39) S D_S_table_11 1 c_11_1 (by decide +kernel) ?_
        refine j_aload_n S D_S_table_50 0 rfl rfl ?_
        refine j_getR S D_S_table_51 fl_R5_52 sh_Sand rfl ?_
        refine j_getR S D_S_table_54 fl_R5_119 sh_P38 rfl ?_
        refine j_iload_n S D_S_table_57 1 rfl rfl ?_
        obtain ⟨g_58, h⟩ := gdE h
        refine j_iald S D_S_table_58 sh_44 g_58 ?_
        exact rtI hR h _ _ D_S_table_59
      · have h := ifF c_11_1 h
        by_cases c_11_2 : a2 = 2
        · have h := ifT c_11_2 h
          refine j_tabIn (tg := 60) (off := 49) S D_S_table_11 2 c_11_2 (by decide +kernel) ?_
          refine j_aload_n S D_S_table_60 0 rfl rfl ?_
          refine j_getR S D_S_table_61 fl_R5_52 sh_Sand rfl ?_
          refine j_getR S D_S_table_64 fl_R5_122 sh_P38 rfl ?_
          refine j_iload_n S D_S_table_67 1 rfl rfl ?_
          obtain ⟨g_68, h⟩ := gdE h
          refine j_iald S D_S_table_68 sh_45 g_68 ?_
          exact rtI hR h _ _ D_S_table_69
        · have h := ifF c_11_2 h
          by_cases c_11_3 : a2 = 3
          · have h := ifT c_11_3 h
            refine j_tabIn (tg := 70) (off := 59) S D_S_table_11 3 c_11_3 (by decide +kernel) ?_
            refine j_aload_n S D_S_table_70 0 rfl rfl ?_
            refine j_getR S D_S_table_71 fl_R5_52 sh_Sand rfl ?_
            refine j_getR S D_S_table_74 fl_R5_125 sh_P38 rfl ?_
            refine j_iload_n S D_S_table_77 1 rfl rfl ?_
            obtain ⟨g_78, h⟩ := gdE h
            refine j_iald S D_S_table_78 sh_46 g_78 ?_
            exact rtI hR h _ _ D_S_table_79
          · have h := ifF c_11_3 h
            refine j_tabOut S D_S_table_11o (tout_0_3 c_11_0 c_11_1 c_11_2 c_11_3) ?_
            refine j_ldc S D_S_table_80 co_R5_77 ?_
            exact rtI hR h _ _ D_S_table_82
  · have h := ifT c_4 h
    refine j_ldc S D_S_table_7 co_R5_77 ?_
    exact rtI hR h _ _ D_S_table_9

def y_S_need : MethodName := ⟨"SandPicture", "need", "(II)I"⟩
theorem D_S_need_0 : decode prog_1_method_9_code 0 = .ok (.iload_n 1, 1) ∧ 0 + 1 = 1 := by decide +kernel
theorem D_S_need_1 : decode prog_1_method_9_code 1 = .ok (.invokestatic 74, 3) ∧ 1 + 3 = 4 := by decide +kernel
theorem D_S_need_4 : decode prog_1_method_9_code 4 = .ok (.ifCond .eq 14, 3) ∧ ((4 : Nat) : Int) + 14 = ((18 : Nat) : Int) ∧ 4 + 3 = 7 := by decide +kernel
theorem D_S_need_18 : decode prog_1_method_9_code 18 = .ok (.ldc 77, 2) ∧ 18 + 2 = 20 := by decide +kernel
theorem D_S_need_20 : decode prog_1_method_9_code 20 = .ok (.ireturn, 1) := by decide +kernel
theorem D_S_need_7 : decode prog_1_method_9_code 7 = .ok (.iload_n 2, 1) ∧ 7 + 1 = 8 := by decide +kernel
theorem D_S_need_8 : decode prog_1_method_9_code 8 = .ok (.iconst 1, 1) ∧ 8 + 1 = 9 := by decide +kernel
theorem D_S_need_9 : decode prog_1_method_9_code 9 = .ok (.sipush 999, 3) ∧ 9 + 3 = 12 := by decide +kernel
theorem D_S_need_12 : decode prog_1_method_9_code 12 = .ok (.invokestatic 70, 3) ∧ 12 + 3 = 15 := by decide +kernel
theorem D_S_need_15 : decode prog_1_method_9_code 15 = .ok (.ifCond .ne 6, 3) ∧ ((15 : Nat) : Int) + 6 = ((21 : Nat) : Int) ∧ 15 + 3 = 18 := by decide +kernel
theorem D_S_need_21 : decode prog_1_method_9_code 21 = .ok (.aload_n 0, 1) ∧ 21 + 1 = 22 := by decide +kernel
theorem D_S_need_22 : decode prog_1_method_9_code 22 = .ok (.getfield 52, 3) ∧ 22 + 3 = 25 := by decide +kernel
theorem D_S_need_25 : decode prog_1_method_9_code 25 = .ok (.getfield 116, 3) ∧ 25 + 3 = 28 := by decide +kernel
theorem D_S_need_28 : decode prog_1_method_9_code 28 = .ok (.iload_n 1, 1) ∧ 28 + 1 = 29 := by decide +kernel
theorem D_S_need_29 : decode prog_1_method_9_code 29 = .ok (.iaload, 1) ∧ 29 + 1 = 30 := by decide +kernel
theorem D_S_need_30 : decode prog_1_method_9_code 30 = .ok (.istore_n 3, 1) ∧ 30 + 1 = 31 := by decide +kernel
theorem D_S_need_31 : decode prog_1_method_9_code 31 = .ok (.aload_n 0, 1) ∧ 31 + 1 = 32 := by decide +kernel
theorem D_S_need_32 : decode prog_1_method_9_code 32 = .ok (.getfield 52, 3) ∧ 32 + 3 = 35 := by decide +kernel
theorem D_S_need_35 : decode prog_1_method_9_code 35 = .ok (.getfield 116, 3) ∧ 35 + 3 = 38 := by decide +kernel
theorem D_S_need_38 : decode prog_1_method_9_code 38 = .ok (.iload_n 1, 1) ∧ 38 + 1 = 39 := by decide +kernel
theorem D_S_need_39 : decode prog_1_method_9_code 39 = .ok (.iload_n 2, 1) ∧ 39 + 1 = 40 := by decide +kernel
theorem D_S_need_40 : decode prog_1_method_9_code 40 = .ok (.iastore, 1) ∧ 40 + 1 = 41 := by decide +kernel
theorem D_S_need_41 : decode prog_1_method_9_code 41 = .ok (.iload_n 3, 1) ∧ 41 + 1 = 42 := by decide +kernel
theorem D_S_need_42 : decode prog_1_method_9_code 42 = .ok (.ireturn, 1) := by decide +kernel
def f_S_need (a1 : Int32) (a2 : Int32) (mem : Mm) : Option (Int32 × Mm) := bp (f_S_isTable a1) fun r_1 => if r_1 = 0 then some ((-1000000001), mem) else bp (f_S_within a2 1 999) fun r_12 => if r_12 = 0 then some ((-1000000001), mem) else if inb a1 6 = true then lt (mem 43 (ix a1)) fun x_30 => lt (mst mem 43 (ix a1) a2) fun m_40 => some (x_30, m_40) else none
theorem c_S_need (l : Launch) (E : En) (a1 : Int32) (a2 : Int32) {mem : Mm} {r : Int32} {m2 : Mm} (h : f_S_need a1 a2 mem = some (r, m2)) : CtI l E 2 y_S_need prog_1_method_9_code 4 (some .int) [.ref (eb E + 0), .int a1, .int a2] SH mem r m2 := by
  refine mk_CtI ⟨by decide, (Nat.le_of_ble_eq_true rfl)⟩ (fun X S hl hR => ?_)
  have S : Std X E prog_1_method_9_code R5 4 2 := S
  show J X E 4 0 [(0, .ref (eb E + 0)), (1, .int a1), (2, .int a2)] [] SH mem
  unfold f_S_need at h
  refine j_iload_n S D_S_need_0 1 rfl rfl ?_
  obtain ⟨r_1, e_1, h⟩ := bpE h
  refine j_callSI (As := [.int a1]) S D_S_need_1 ms_R5_74 (c_S_isTable (cxL X) E a1 (mem := mem) e_1) (by decide) rfl rfl (Nat.le_of_ble_eq_true rfl) ?_
  refine j_if_eq S D_S_need_4 (fun c_4 => ?_) (fun c_4 => ?_)
  · have h := ifT c_4 h
    refine j_ldc S D_S_need_18 co_R5_77 ?_
    exact rtM hR h _ _ D_S_need_20
  · have h := ifF c_4 h
    refine j_iload_n S D_S_need_7 2 rfl rfl ?_
    refine j_iconst S D_S_need_8 ci_1 ?_
    refine j_sipush S D_S_need_9 cs_999 ?_
    obtain ⟨r_12, e_12, h⟩ := bpE h
    refine j_callSI (As := [.int a2, .int 1, .int 999]) S D_S_need_12 ms_R5_70 (c_S_within (cxL X) E a2 1 999 (mem := mem) e_12) (by decide) rfl rfl (Nat.le_of_ble_eq_true rfl) ?_
    refine j_if_ne S D_S_need_15 (fun c_15 => ?_) (fun c_15 => ?_)
    · have h := ifF c_15 h
      refine j_aload_n S D_S_need_21 0 rfl rfl ?_
      refine j_getR S D_S_need_22 fl_R5_52 sh_Sand rfl ?_
      refine j_getR S D_S_need_25 fl_R5_116 sh_P38 rfl ?_
      refine j_iload_n S D_S_need_28 1 rfl rfl ?_
      obtain ⟨g_29, h⟩ := gdE h
      refine j_iald S D_S_need_29 sh_43 g_29 ?_
      obtain ⟨x_30, hx_30, h⟩ := ltE h
      refine j_nm hx_30 ?_
      refine j_istore_n S D_S_need_30 (lv := [(3, .int x_30), (0, .ref (eb E + 0)), (1, .int a1), (2, .int a2)]) rfl ⟨rfl, (Nat.le_of_ble_eq_true rfl)⟩ ?_
      refine j_aload_n S D_S_need_31 1 rfl rfl ?_
      refine j_getR S D_S_need_32 fl_R5_52 sh_Sand rfl ?_
      refine j_getR S D_S_need_35 fl_R5_116 sh_P38 rfl ?_
      refine j_iload_n S D_S_need_38 2 rfl rfl ?_
      refine j_iload_n S D_S_need_39 3 rfl rfl ?_
      obtain ⟨m_40, hm_40, h⟩ := ltE h
      refine j_iast S D_S_need_40 sh_43 g_29 ?_
      refine j_mem hm_40 ?_
      refine j_iload_n S D_S_need_41 0 rfl rfl ?_
      exact rtM hR h _ _ D_S_need_42
    · have h := ifT c_15 h
      refine j_ldc S D_S_need_18 co_R5_77 ?_
      exact rtM hR h _ _ D_S_need_20

def y_S_isRiver : MethodName := ⟨"SandPicture", "isRiver", "(I)Z"⟩
theorem D_S_isRiver_0 : decode prog_1_method_47_code 0 = .ok (.iload_n 0, 1) ∧ 0 + 1 = 1 := by decide +kernel
theorem D_S_isRiver_1 : decode prog_1_method_47_code 1 = .ok (.iconst 0, 1) ∧ 1 + 1 = 2 := by decide +kernel
theorem D_S_isRiver_2 : decode prog_1_method_47_code 2 = .ok (.iconst 2, 1) ∧ 2 + 1 = 3 := by decide +kernel
theorem D_S_isRiver_3 : decode prog_1_method_47_code 3 = .ok (.invokestatic 70, 3) ∧ 3 + 3 = 6 := by decide +kernel
theorem D_S_isRiver_6 : decode prog_1_method_47_code 6 = .ok (.ireturn, 1) := by decide +kernel
def f_S_isRiver (a1 : Int32) : Option (Int32) := bp (f_S_within a1 0 2) fun r_3 => if isb r_3 = true then some r_3 else none
theorem c_S_isRiver (l : Launch) (E : En) (a1 : Int32) {mem : Mm} {r : Int32} (h : f_S_isRiver a1 = some r) : CtI l E 1 y_S_isRiver prog_1_method_47_code 1 (some .boolean) [.int a1] SH mem r mem := by
  refine mk_CtZ ⟨by decide, (Nat.le_of_ble_eq_true rfl)⟩ (fun X S hl hR => ?_)
  have S : Std X E prog_1_method_47_code R5 1 1 := S
  show J X E 1 0 [(0, .int a1)] [] SH mem
  unfold f_S_isRiver at h
  refine j_iload_n S D_S_isRiver_0 0 rfl rfl ?_
  refine j_iconst S D_S_isRiver_1 ci_0 ?_
  refine j_iconst S D_S_isRiver_2 ci_2 ?_
  obtain ⟨r_3, e_3, h⟩ := bpE h
  refine j_callSI (As := [.int a1, .int 0, .int 2]) S D_S_isRiver_3 ms_R5_70 (c_S_within (cxL X) E a1 0 2 (mem := mem) e_3) (by decide) rfl rfl (Nat.le_of_ble_eq_true rfl) ?_
  obtain ⟨z_6, h⟩ := gdE h
  exact rtIZ hR h z_6 _ _ D_S_isRiver_6

def y_S_river : MethodName := ⟨"SandPicture", "river", "(II)I"⟩
theorem D_S_river_0 : decode prog_1_method_10_code 0 = .ok (.iload_n 1, 1) ∧ 0 + 1 = 1 := by decide +kernel
theorem D_S_river_1 : decode prog_1_method_10_code 1 = .ok (.invokestatic 128, 3) ∧ 1 + 3 = 4 := by decide +kernel
theorem D_S_river_4 : decode prog_1_method_10_code 4 = .ok (.ifCond .eq 13, 3) ∧ ((4 : Nat) : Int) + 13 = ((17 : Nat) : Int) ∧ 4 + 3 = 7 := by decide +kernel
theorem D_S_river_17 : decode prog_1_method_10_code 17 = .ok (.ldc 77, 2) ∧ 17 + 2 = 19 := by decide +kernel
theorem D_S_river_19 : decode prog_1_method_10_code 19 = .ok (.ireturn, 1) := by decide +kernel
theorem D_S_river_7 : decode prog_1_method_10_code 7 = .ok (.iload_n 2, 1) ∧ 7 + 1 = 8 := by decide +kernel
theorem D_S_river_8 : decode prog_1_method_10_code 8 = .ok (.iconst 0, 1) ∧ 8 + 1 = 9 := by decide +kernel
theorem D_S_river_9 : decode prog_1_method_10_code 9 = .ok (.ldc 131, 2) ∧ 9 + 2 = 11 := by decide +kernel
theorem D_S_river_11 : decode prog_1_method_10_code 11 = .ok (.invokestatic 70, 3) ∧ 11 + 3 = 14 := by decide +kernel
theorem D_S_river_14 : decode prog_1_method_10_code 14 = .ok (.ifCond .ne 6, 3) ∧ ((14 : Nat) : Int) + 6 = ((20 : Nat) : Int) ∧ 14 + 3 = 17 := by decide +kernel
theorem D_S_river_20 : decode prog_1_method_10_code 20 = .ok (.aload_n 0, 1) ∧ 20 + 1 = 21 := by decide +kernel
theorem D_S_river_21 : decode prog_1_method_10_code 21 = .ok (.getfield 52, 3) ∧ 21 + 3 = 24 := by decide +kernel
theorem D_S_river_24 : decode prog_1_method_10_code 24 = .ok (.getfield 132, 3) ∧ 24 + 3 = 27 := by decide +kernel
theorem D_S_river_27 : decode prog_1_method_10_code 27 = .ok (.iload_n 1, 1) ∧ 27 + 1 = 28 := by decide +kernel
theorem D_S_river_28 : decode prog_1_method_10_code 28 = .ok (.iaload, 1) ∧ 28 + 1 = 29 := by decide +kernel
theorem D_S_river_29 : decode prog_1_method_10_code 29 = .ok (.istore_n 3, 1) ∧ 29 + 1 = 30 := by decide +kernel
theorem D_S_river_30 : decode prog_1_method_10_code 30 = .ok (.aload_n 0, 1) ∧ 30 + 1 = 31 := by decide +kernel
theorem D_S_river_31 : decode prog_1_method_10_code 31 = .ok (.getfield 52, 3) ∧ 31 + 3 = 34 := by decide +kernel
theorem D_S_river_34 : decode prog_1_method_10_code 34 = .ok (.getfield 132, 3) ∧ 34 + 3 = 37 := by decide +kernel
theorem D_S_river_37 : decode prog_1_method_10_code 37 = .ok (.iload_n 1, 1) ∧ 37 + 1 = 38 := by decide +kernel
theorem D_S_river_38 : decode prog_1_method_10_code 38 = .ok (.iload_n 2, 1) ∧ 38 + 1 = 39 := by decide +kernel
theorem D_S_river_39 : decode prog_1_method_10_code 39 = .ok (.iastore, 1) ∧ 39 + 1 = 40 := by decide +kernel
theorem D_S_river_40 : decode prog_1_method_10_code 40 = .ok (.iload_n 3, 1) ∧ 40 + 1 = 41 := by decide +kernel
theorem D_S_river_41 : decode prog_1_method_10_code 41 = .ok (.ireturn, 1) := by decide +kernel
def f_S_river (a1 : Int32) (a2 : Int32) (mem : Mm) : Option (Int32 × Mm) := bp (f_S_isRiver a1) fun r_1 => if r_1 = 0 then some ((-1000000001), mem) else bp (f_S_within a2 0 99999) fun r_11 => if r_11 = 0 then some ((-1000000001), mem) else if inb a1 3 = true then lt (mem 47 (ix a1)) fun x_29 => lt (mst mem 47 (ix a1) a2) fun m_39 => some (x_29, m_39) else none
theorem c_S_river (l : Launch) (E : En) (a1 : Int32) (a2 : Int32) {mem : Mm} {r : Int32} {m2 : Mm} (h : f_S_river a1 a2 mem = some (r, m2)) : CtI l E 2 y_S_river prog_1_method_10_code 4 (some .int) [.ref (eb E + 0), .int a1, .int a2] SH mem r m2 := by
  refine mk_CtI ⟨by decide, (Nat.le_of_ble_eq_true rfl)⟩ (fun X S hl hR => ?_)
  have S : Std X E prog_1_method_10_code R5 4 2 := S
  show J X E 4 0 [(0, .ref (eb E + 0)), (1, .int a1), (2, .int a2)] [] SH mem
  unfold f_S_river at h
  refine j_iload_n S D_S_river_0 1 rfl rfl ?_
  obtain ⟨r_1, e_1, h⟩ := bpE h
  refine j_callSI (As := [.int a1]) S D_S_river_1 ms_R5_128 (c_S_isRiver (cxL X) E a1 (mem := mem) e_1) (by decide) rfl rfl (Nat.le_of_ble_eq_true rfl) ?_
  refine j_if_eq S D_S_river_4 (fun c_4 => ?_) (fun c_4 => ?_)
  · have h := ifT c_4 h
    refine j_ldc S D_S_river_17 co_R5_77 ?_
    exact rtM hR h _ _ D_S_river_19
  · have h := ifF c_4 h
    refine j_iload_n S D_S_river_7 2 rfl rfl ?_
    refine j_iconst S D_S_river_8 ci_0 ?_
    refine j_ldc S D_S_river_9 co_R5_131 ?_
    obtain ⟨r_11, e_11, h⟩ := bpE h
    refine j_callSI (As := [.int a2, .int 0, .int 99999]) S D_S_river_11 ms_R5_70 (c_S_within (cxL X) E a2 0 99999 (mem := mem) e_11) (by decide) rfl rfl (Nat.le_of_ble_eq_true rfl) ?_
    refine j_if_ne S D_S_river_14 (fun c_14 => ?_) (fun c_14 => ?_)
    · have h := ifF c_14 h
      refine j_aload_n S D_S_river_20 0 rfl rfl ?_
      refine j_getR S D_S_river_21 fl_R5_52 sh_Sand rfl ?_
      refine j_getR S D_S_river_24 fl_R5_132 sh_P38 rfl ?_
      refine j_iload_n S D_S_river_27 1 rfl rfl ?_
      obtain ⟨g_28, h⟩ := gdE h
      refine j_iald S D_S_river_28 sh_47 g_28 ?_
      obtain ⟨x_29, hx_29, h⟩ := ltE h
      refine j_nm hx_29 ?_
      refine j_istore_n S D_S_river_29 (lv := [(3, .int x_29), (0, .ref (eb E + 0)), (1, .int a1), (2, .int a2)]) rfl ⟨rfl, (Nat.le_of_ble_eq_true rfl)⟩ ?_
      refine j_aload_n S D_S_river_30 1 rfl rfl ?_
      refine j_getR S D_S_river_31 fl_R5_52 sh_Sand rfl ?_
      refine j_getR S D_S_river_34 fl_R5_132 sh_P38 rfl ?_
      refine j_iload_n S D_S_river_37 2 rfl rfl ?_
      refine j_iload_n S D_S_river_38 3 rfl rfl ?_
      obtain ⟨m_39, hm_39, h⟩ := ltE h
      refine j_iast S D_S_river_39 sh_47 g_28 ?_
      refine j_mem hm_39 ?_
      refine j_iload_n S D_S_river_40 0 rfl rfl ?_
      exact rtM hR h _ _ D_S_river_41
    · have h := ifT c_14 h
      refine j_ldc S D_S_river_17 co_R5_77 ?_
      exact rtM hR h _ _ D_S_river_19

def y_S_wind : MethodName := ⟨"SandPicture", "wind", "(I)I"⟩
theorem D_S_wind_0 : decode prog_1_method_11_code 0 = .ok (.iload_n 1, 1) ∧ 0 + 1 = 1 := by decide +kernel
theorem D_S_wind_1 : decode prog_1_method_11_code 1 = .ok (.iconst 0, 1) ∧ 1 + 1 = 2 := by decide +kernel
theorem D_S_wind_2 : decode prog_1_method_11_code 2 = .ok (.bipush 100, 2) ∧ 2 + 2 = 4 := by decide +kernel
theorem D_S_wind_4 : decode prog_1_method_11_code 4 = .ok (.invokestatic 70, 3) ∧ 4 + 3 = 7 := by decide +kernel
theorem D_S_wind_7 : decode prog_1_method_11_code 7 = .ok (.ifCond .ne 6, 3) ∧ ((7 : Nat) : Int) + 6 = ((13 : Nat) : Int) ∧ 7 + 3 = 10 := by decide +kernel
theorem D_S_wind_13 : decode prog_1_method_11_code 13 = .ok (.aload_n 0, 1) ∧ 13 + 1 = 14 := by decide +kernel
theorem D_S_wind_14 : decode prog_1_method_11_code 14 = .ok (.getfield 52, 3) ∧ 14 + 3 = 17 := by decide +kernel
theorem D_S_wind_17 : decode prog_1_method_11_code 17 = .ok (.getfield 135, 3) ∧ 17 + 3 = 20 := by decide +kernel
theorem D_S_wind_20 : decode prog_1_method_11_code 20 = .ok (.istore_n 2, 1) ∧ 20 + 1 = 21 := by decide +kernel
theorem D_S_wind_21 : decode prog_1_method_11_code 21 = .ok (.aload_n 0, 1) ∧ 21 + 1 = 22 := by decide +kernel
theorem D_S_wind_22 : decode prog_1_method_11_code 22 = .ok (.getfield 52, 3) ∧ 22 + 3 = 25 := by decide +kernel
theorem D_S_wind_25 : decode prog_1_method_11_code 25 = .ok (.iload_n 1, 1) ∧ 25 + 1 = 26 := by decide +kernel
theorem D_S_wind_26 : decode prog_1_method_11_code 26 = .ok (.putfield 135, 3) ∧ 26 + 3 = 29 := by decide +kernel
theorem D_S_wind_29 : decode prog_1_method_11_code 29 = .ok (.iload_n 2, 1) ∧ 29 + 1 = 30 := by decide +kernel
theorem D_S_wind_30 : decode prog_1_method_11_code 30 = .ok (.ireturn, 1) := by decide +kernel
theorem D_S_wind_10 : decode prog_1_method_11_code 10 = .ok (.ldc 77, 2) ∧ 10 + 2 = 12 := by decide +kernel
theorem D_S_wind_12 : decode prog_1_method_11_code 12 = .ok (.ireturn, 1) := by decide +kernel
def f_S_wind (a1 : Int32) (mem : Mm) : Option (Int32 × Mm) := bp (f_S_within a1 0 100) fun r_4 => if r_4 = 0 then some ((-1000000001), mem) else lt (mem 38 13) fun x_20 => lt (mst mem 38 13 a1) fun m_26 => some (x_20, m_26)
theorem c_S_wind (l : Launch) (E : En) (a1 : Int32) {mem : Mm} {r : Int32} {m2 : Mm} (h : f_S_wind a1 mem = some (r, m2)) : CtI l E 1 y_S_wind prog_1_method_11_code 3 (some .int) [.ref (eb E + 0), .int a1] SH mem r m2 := by
  refine mk_CtI ⟨by decide, (Nat.le_of_ble_eq_true rfl)⟩ (fun X S hl hR => ?_)
  have S : Std X E prog_1_method_11_code R5 3 1 := S
  show J X E 3 0 [(0, .ref (eb E + 0)), (1, .int a1)] [] SH mem
  unfold f_S_wind at h
  refine j_iload_n S D_S_wind_0 1 rfl rfl ?_
  refine j_iconst S D_S_wind_1 ci_0 ?_
  refine j_bipush S D_S_wind_2 cb_100 ?_
  obtain ⟨r_4, e_4, h⟩ := bpE h
  refine j_callSI (As := [.int a1, .int 0, .int 100]) S D_S_wind_4 ms_R5_70 (c_S_within (cxL X) E a1 0 100 (mem := mem) e_4) (by decide) rfl rfl (Nat.le_of_ble_eq_true rfl) ?_
  refine j_if_ne S D_S_wind_7 (fun c_7 => ?_) (fun c_7 => ?_)
  · have h := ifF c_7 h
    refine j_aload_n S D_S_wind_13 0 rfl rfl ?_
    refine j_getR S D_S_wind_14 fl_R5_52 sh_Sand rfl ?_
    refine j_getI S D_S_wind_17 fl_R5_135 sh_P38 rfl ?_
    obtain ⟨x_20, hx_20, h⟩ := ltE h
    refine j_nm hx_20 ?_
    refine j_istore_n S D_S_wind_20 (lv := [(2, .int x_20), (0, .ref (eb E + 0)), (1, .int a1)]) rfl ⟨rfl, (Nat.le_of_ble_eq_true rfl)⟩ ?_
    refine j_aload_n S D_S_wind_21 1 rfl rfl ?_
    refine j_getR S D_S_wind_22 fl_R5_52 sh_Sand rfl ?_
    refine j_iload_n S D_S_wind_25 2 rfl rfl ?_
    obtain ⟨m_26, hm_26, h⟩ := ltE h
    refine j_putI S D_S_wind_26 fp_R5_135 sh_P38 rfl ?_
    refine j_mem hm_26 ?_
    refine j_iload_n S D_S_wind_29 0 rfl rfl ?_
    exact rtM hR h _ _ D_S_wind_30
  · have h := ifT c_7 h
    refine j_ldc S D_S_wind_10 co_R5_77 ?_
    exact rtM hR h _ _ D_S_wind_12

def y_S_deal : MethodName := ⟨"SandPicture", "deal", "(I)I"⟩
theorem D_S_deal_0 : decode prog_1_method_12_code 0 = .ok (.iload_n 1, 1) ∧ 0 + 1 = 1 := by decide +kernel
theorem D_S_deal_1 : decode prog_1_method_12_code 1 = .ok (.iconst 1, 1) ∧ 1 + 1 = 2 := by decide +kernel
theorem D_S_deal_2 : decode prog_1_method_12_code 2 = .ok (.bipush 10, 2) ∧ 2 + 2 = 4 := by decide +kernel
theorem D_S_deal_4 : decode prog_1_method_12_code 4 = .ok (.invokestatic 70, 3) ∧ 4 + 3 = 7 := by decide +kernel
theorem D_S_deal_7 : decode prog_1_method_12_code 7 = .ok (.ifCond .ne 6, 3) ∧ ((7 : Nat) : Int) + 6 = ((13 : Nat) : Int) ∧ 7 + 3 = 10 := by decide +kernel
theorem D_S_deal_13 : decode prog_1_method_12_code 13 = .ok (.iload_n 1, 1) ∧ 13 + 1 = 14 := by decide +kernel
theorem D_S_deal_14 : decode prog_1_method_12_code 14 = .ok (.bipush 10, 2) ∧ 14 + 2 = 16 := by decide +kernel
theorem D_S_deal_16 : decode prog_1_method_12_code 16 = .ok (.aload_n 0, 1) ∧ 16 + 1 = 17 := by decide +kernel
theorem D_S_deal_17 : decode prog_1_method_12_code 17 = .ok (.getfield 52, 3) ∧ 17 + 3 = 20 := by decide +kernel
theorem D_S_deal_20 : decode prog_1_method_12_code 20 = .ok (.getfield 78, 3) ∧ 20 + 3 = 23 := by decide +kernel
theorem D_S_deal_23 : decode prog_1_method_12_code 23 = .ok (.isub, 1) ∧ 23 + 1 = 24 := by decide +kernel
theorem D_S_deal_24 : decode prog_1_method_12_code 24 = .ok (.invokestatic 138, 3) ∧ 24 + 3 = 27 := by decide +kernel
theorem D_S_deal_27 : decode prog_1_method_12_code 27 = .ok (.istore_n 2, 1) ∧ 27 + 1 = 28 := by decide +kernel
theorem D_S_deal_28 : decode prog_1_method_12_code 28 = .ok (.iconst 0, 1) ∧ 28 + 1 = 29 := by decide +kernel
theorem D_S_deal_29 : decode prog_1_method_12_code 29 = .ok (.istore_n 3, 1) ∧ 29 + 1 = 30 := by decide +kernel
theorem D_S_deal_30 : decode prog_1_method_12_code 30 = .ok (.iload_n 3, 1) ∧ 30 + 1 = 31 := by decide +kernel
theorem D_S_deal_31 : decode prog_1_method_12_code 31 = .ok (.iload_n 2, 1) ∧ 31 + 1 = 32 := by decide +kernel
theorem D_S_deal_32 : decode prog_1_method_12_code 32 = .ok (.if_icmp .ge 16, 3) ∧ ((32 : Nat) : Int) + 16 = ((48 : Nat) : Int) ∧ 32 + 3 = 35 := by decide +kernel
theorem D_S_deal_35 : decode prog_1_method_12_code 35 = .ok (.aload_n 0, 1) ∧ 35 + 1 = 36 := by decide +kernel
theorem D_S_deal_36 : decode prog_1_method_12_code 36 = .ok (.getfield 52, 3) ∧ 36 + 3 = 39 := by decide +kernel
theorem D_S_deal_39 : decode prog_1_method_12_code 39 = .ok (.invokevirtual 143, 3) ∧ 39 + 3 = 42 := by decide +kernel
theorem D_S_deal_42 : decode prog_1_method_12_code 42 = .ok (.iinc 3 1, 3) ∧ 42 + 3 = 45 := by decide +kernel
theorem D_S_deal_45 : decode prog_1_method_12_code 45 = .ok (.goto (-15), 3) ∧ ((45 : Nat) : Int) + (-15) = ((30 : Nat) : Int) := by decide +kernel
theorem D_S_deal_48 : decode prog_1_method_12_code 48 = .ok (.iload_n 2, 1) ∧ 48 + 1 = 49 := by decide +kernel
theorem D_S_deal_49 : decode prog_1_method_12_code 49 = .ok (.ireturn, 1) := by decide +kernel
theorem D_S_deal_10 : decode prog_1_method_12_code 10 = .ok (.ldc 77, 2) ∧ 10 + 2 = 12 := by decide +kernel
theorem D_S_deal_12 : decode prog_1_method_12_code 12 = .ok (.ireturn, 1) := by decide +kernel
def f_S_deal_L30  : Nat → Int32 → Int32 → Int32 → Mm → Option (Int32 × Mm)
  | 0, _, _, _, _ => none
  | n + 1, b1, b2, b3, mem => if b2 ≤ b3 then some (b3, mem) else bp (f_P_drawMonk 38 mem) fun m_39 => f_S_deal_L30 n b1 b2 (b3 + 1) m_39
def f_S_deal (N : Nat) (a1 : Int32) (mem : Mm) : Option (Int32 × Mm) := bp (f_S_within a1 1 10) fun r_4 => if r_4 = 0 then some ((-1000000001), mem) else lt (if (10 - (mem 38 4)) < a1 then 10 - (mem 38 4) else a1) fun x_27 => bd (f_S_deal_L30 N a1 x_27 0 mem) fun y_30 m_30 => some (x_27, m_30)
theorem L_S_deal_30 {X : Cx} {E : En} (S : Std X E prog_1_method_12_code R5 4 2)  : ∀ (n : Nat) (b1 : Int32) (b2 : Int32) (b3 : Int32) (mem : Mm) (z : Int32) (m2 : Mm), f_S_deal_L30 n b1 b2 b3 mem = some (z, m2) → J X E 4 48 [(0, .ref (eb E + 0)), (1, .int b1), (2, .int b2), (3, .int z)] [] SH m2 → J X E 4 30 [(0, .ref (eb E + 0)), (1, .int b1), (2, .int b2), (3, .int b3)] [] SH mem := by
  intro n
  induction n with
  | zero =>
    intro b1 b2 b3 mem z m2 h hk; cases h
  | succ n ih =>
    intro b1 b2 b3 mem z m2 h hk
    rw [f_S_deal_L30] at h
    refine j_iload_n S D_S_deal_30 3 rfl rfl ?_
    refine j_iload_n S D_S_deal_31 2 rfl rfl ?_
    refine j_icmp_ge S D_S_deal_32 (fun c_32 => ?_) (fun c_32 => ?_)
    · have h := ifT c_32 h
      cases h
      exact j_locals [0, 1, 2, 3] rfl hk
    · have h := ifF c_32 h
      refine j_aload_n S D_S_deal_35 0 rfl rfl ?_
      refine j_getR S D_S_deal_36 fl_R5_52 sh_Sand rfl ?_
      obtain ⟨m_39, e_39, h⟩ := bpE h
      refine j_callVV (As := []) S D_S_deal_39 mv_R5_143 (c_P_drawMonk (cxL X) E 38 pic_38 e_39) (by decide) sh_P38 rfl rfl rfl rfl (Nat.le_of_ble_eq_true rfl) ?_
      refine j_iinc S D_S_deal_42 3 rfl (congrArg (fun z => b3 + z) ci_1) (lv := [(3, .int (b3 + 1)), (0, .ref (eb E + 0)), (1, .int b1), (2, .int b2)]) rfl (Nat.le_of_ble_eq_true rfl) ?_
      refine j_goto S D_S_deal_45 ?_
      refine j_locals [1, 2, 3, 0] rfl (ih b1 b2 (b3 + 1) m_39 _ _ h hk)
theorem c_S_deal (l : Launch) (E : En) (N : Nat) (a1 : Int32) {mem : Mm} {r : Int32} {m2 : Mm} (h : f_S_deal N a1 mem = some (r, m2)) : CtI l E 2 y_S_deal prog_1_method_12_code 4 (some .int) [.ref (eb E + 0), .int a1] SH mem r m2 := by
  refine mk_CtI ⟨by decide, (Nat.le_of_ble_eq_true rfl)⟩ (fun X S hl hR => ?_)
  have S : Std X E prog_1_method_12_code R5 4 2 := S
  show J X E 4 0 [(0, .ref (eb E + 0)), (1, .int a1)] [] SH mem
  unfold f_S_deal at h
  refine j_iload_n S D_S_deal_0 1 rfl rfl ?_
  refine j_iconst S D_S_deal_1 ci_1 ?_
  refine j_bipush S D_S_deal_2 cb_10 ?_
  obtain ⟨r_4, e_4, h⟩ := bpE h
  refine j_callSI (As := [.int a1, .int 1, .int 10]) S D_S_deal_4 ms_R5_70 (c_S_within (cxL X) E a1 1 10 (mem := mem) e_4) (by decide) rfl rfl (Nat.le_of_ble_eq_true rfl) ?_
  refine j_if_ne S D_S_deal_7 (fun c_7 => ?_) (fun c_7 => ?_)
  · have h := ifF c_7 h
    refine j_iload_n S D_S_deal_13 1 rfl rfl ?_
    refine j_bipush S D_S_deal_14 cb_10 ?_
    refine j_aload_n S D_S_deal_16 0 rfl rfl ?_
    refine j_getR S D_S_deal_17 fl_R5_52 sh_Sand rfl ?_
    refine j_getI S D_S_deal_20 fl_R5_78 sh_P38 rfl ?_
    refine j_isub S D_S_deal_23 ?_
    refine j_mmin S D_S_deal_24 (by decide) mm_R5_138 (Nat.le_of_ble_eq_true rfl) ?_
    obtain ⟨x_27, hx_27, h⟩ := ltE h
    refine j_nm hx_27 ?_
    refine j_istore_n S D_S_deal_27 (lv := [(2, .int x_27), (0, .ref (eb E + 0)), (1, .int a1)]) rfl ⟨rfl, (Nat.le_of_ble_eq_true rfl)⟩ ?_
    refine j_iconst S D_S_deal_28 ci_0 ?_
    refine j_istore_n S D_S_deal_29 (lv := [(3, .int 0), (2, .int x_27), (0, .ref (eb E + 0)), (1, .int a1)]) rfl ⟨rfl, (Nat.le_of_ble_eq_true rfl)⟩ ?_
    refine j_locals [2, 3, 1, 0] rfl ?_
    obtain ⟨y_30, m_30, e_30, h⟩ := bdE h
    refine L_S_deal_30 S  N a1 x_27 0 mem _ _ e_30 ?_
    refine j_iload_n S D_S_deal_48 2 rfl rfl ?_
    exact rtM hR h _ _ D_S_deal_49
  · have h := ifT c_7 h
    refine j_ldc S D_S_deal_10 co_R5_77 ?_
    exact rtM hR h _ _ D_S_deal_12

def y_S_seed : MethodName := ⟨"SandPicture", "seed", "(I)I"⟩
theorem D_S_seed_0 : decode prog_1_method_13_code 0 = .ok (.aload_n 0, 1) ∧ 0 + 1 = 1 := by decide +kernel
theorem D_S_seed_1 : decode prog_1_method_13_code 1 = .ok (.getfield 52, 3) ∧ 1 + 3 = 4 := by decide +kernel
theorem D_S_seed_4 : decode prog_1_method_13_code 4 = .ok (.getfield 146, 3) ∧ 4 + 3 = 7 := by decide +kernel
theorem D_S_seed_7 : decode prog_1_method_13_code 7 = .ok (.istore_n 2, 1) ∧ 7 + 1 = 8 := by decide +kernel
theorem D_S_seed_8 : decode prog_1_method_13_code 8 = .ok (.aload_n 0, 1) ∧ 8 + 1 = 9 := by decide +kernel
theorem D_S_seed_9 : decode prog_1_method_13_code 9 = .ok (.getfield 52, 3) ∧ 9 + 3 = 12 := by decide +kernel
theorem D_S_seed_12 : decode prog_1_method_13_code 12 = .ok (.iload_n 1, 1) ∧ 12 + 1 = 13 := by decide +kernel
theorem D_S_seed_13 : decode prog_1_method_13_code 13 = .ok (.putfield 146, 3) ∧ 13 + 3 = 16 := by decide +kernel
theorem D_S_seed_16 : decode prog_1_method_13_code 16 = .ok (.iload_n 2, 1) ∧ 16 + 1 = 17 := by decide +kernel
theorem D_S_seed_17 : decode prog_1_method_13_code 17 = .ok (.ireturn, 1) := by decide +kernel
def f_S_seed (a1 : Int32) (mem : Mm) : Option (Int32 × Mm) := lt (mem 38 17) fun x_7 => lt (mst mem 38 17 a1) fun m_13 => some (x_7, m_13)
theorem c_S_seed (l : Launch) (E : En) (a1 : Int32) {mem : Mm} {r : Int32} {m2 : Mm} (h : f_S_seed a1 mem = some (r, m2)) : CtI l E 0 y_S_seed prog_1_method_13_code 3 (some .int) [.ref (eb E + 0), .int a1] SH mem r m2 := by
  refine mk_CtI ⟨by decide, (Nat.le_of_ble_eq_true rfl)⟩ (fun X S hl hR => ?_)
  have S : Std X E prog_1_method_13_code R5 3 0 := S
  show J X E 3 0 [(0, .ref (eb E + 0)), (1, .int a1)] [] SH mem
  unfold f_S_seed at h
  refine j_aload_n S D_S_seed_0 0 rfl rfl ?_
  refine j_getR S D_S_seed_1 fl_R5_52 sh_Sand rfl ?_
  refine j_getI S D_S_seed_4 fl_R5_146 sh_P38 rfl ?_
  obtain ⟨x_7, hx_7, h⟩ := ltE h
  refine j_nm hx_7 ?_
  refine j_istore_n S D_S_seed_7 (lv := [(2, .int x_7), (0, .ref (eb E + 0)), (1, .int a1)]) rfl ⟨rfl, (Nat.le_of_ble_eq_true rfl)⟩ ?_
  refine j_aload_n S D_S_seed_8 1 rfl rfl ?_
  refine j_getR S D_S_seed_9 fl_R5_52 sh_Sand rfl ?_
  refine j_iload_n S D_S_seed_12 2 rfl rfl ?_
  obtain ⟨m_13, hm_13, h⟩ := ltE h
  refine j_putI S D_S_seed_13 fp_R5_146 sh_P38 rfl ?_
  refine j_mem hm_13 ?_
  refine j_iload_n S D_S_seed_16 0 rfl rfl ?_
  exact rtM hR h _ _ D_S_seed_17
