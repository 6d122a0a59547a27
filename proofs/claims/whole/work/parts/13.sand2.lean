def y_S_textTold : MethodName := ⟨"SandPicture", "textTold", "(II)I"⟩
theorem D_S_textTold_0 : decode prog_1_method_29_code 0 = .ok (.iload_n 1, 1) ∧ 0 + 1 = 1 := by decide +kernel
theorem D_S_textTold_1 : decode prog_1_method_29_code 1 = .ok (.iconst 0, 1) ∧ 1 + 1 = 2 := by decide +kernel
theorem D_S_textTold_2 : decode prog_1_method_29_code 2 = .ok (.aload_n 0, 1) ∧ 2 + 1 = 3 := by decide +kernel
theorem D_S_textTold_3 : decode prog_1_method_29_code 3 = .ok (.getfield 52, 3) ∧ 3 + 3 = 6 := by decide +kernel
theorem D_S_textTold_6 : decode prog_1_method_29_code 6 = .ok (.getfield 199, 3) ∧ 6 + 3 = 9 := by decide +kernel
theorem D_S_textTold_9 : decode prog_1_method_29_code 9 = .ok (.iconst 1, 1) ∧ 9 + 1 = 10 := by decide +kernel
theorem D_S_textTold_10 : decode prog_1_method_29_code 10 = .ok (.isub, 1) ∧ 10 + 1 = 11 := by decide +kernel
theorem D_S_textTold_11 : decode prog_1_method_29_code 11 = .ok (.invokestatic 70, 3) ∧ 11 + 3 = 14 := by decide +kernel
theorem D_S_textTold_14 : decode prog_1_method_29_code 14 = .ok (.ifCond .ne 6, 3) ∧ ((14 : Nat) : Int) + 6 = ((20 : Nat) : Int) ∧ 14 + 3 = 17 := by decide +kernel
theorem D_S_textTold_20 : decode prog_1_method_29_code 20 = .ok (.iload_n 2, 1) ∧ 20 + 1 = 21 := by decide +kernel
theorem D_S_textTold_21 : decode prog_1_method_29_code 21 = .ok (.lookupswitch 47 #[(0, 27), (1, 37)], 27) := by decide +kernel
theorem D_S_textTold_48 : decode prog_1_method_29_code 48 = .ok (.aload_n 0, 1) ∧ 48 + 1 = 49 := by decide +kernel
theorem D_S_textTold_49 : decode prog_1_method_29_code 49 = .ok (.getfield 11, 3) ∧ 49 + 3 = 52 := by decide +kernel
theorem D_S_textTold_52 : decode prog_1_method_29_code 52 = .ok (.iload_n 1, 1) ∧ 52 + 1 = 53 := by decide +kernel
theorem D_S_textTold_53 : decode prog_1_method_29_code 53 = .ok (.aaload, 1) ∧ 53 + 1 = 54 := by decide +kernel
theorem D_S_textTold_54 : decode prog_1_method_29_code 54 = .ok (.getfield 209, 3) ∧ 54 + 3 = 57 := by decide +kernel
theorem D_S_textTold_57 : decode prog_1_method_29_code 57 = .ok (.ireturn, 1) := by decide +kernel
theorem D_S_textTold_58 : decode prog_1_method_29_code 58 = .ok (.aload_n 0, 1) ∧ 58 + 1 = 59 := by decide +kernel
theorem D_S_textTold_59 : decode prog_1_method_29_code 59 = .ok (.getfield 11, 3) ∧ 59 + 3 = 62 := by decide +kernel
theorem D_S_textTold_62 : decode prog_1_method_29_code 62 = .ok (.iload_n 1, 1) ∧ 62 + 1 = 63 := by decide +kernel
theorem D_S_textTold_63 : decode prog_1_method_29_code 63 = .ok (.aaload, 1) ∧ 63 + 1 = 64 := by decide +kernel
theorem D_S_textTold_64 : decode prog_1_method_29_code 64 = .ok (.getfield 212, 3) ∧ 64 + 3 = 67 := by decide +kernel
theorem D_S_textTold_67 : decode prog_1_method_29_code 67 = .ok (.ireturn, 1) := by decide +kernel
theorem D_S_textTold_68 : decode prog_1_method_29_code 68 = .ok (.ldc 77, 2) ∧ 68 + 2 = 70 := by decide +kernel
theorem D_S_textTold_70 : decode prog_1_method_29_code 70 = .ok (.ireturn, 1) := by decide +kernel
theorem D_S_textTold_17 : decode prog_1_method_29_code 17 = .ok (.ldc 77, 2) ∧ 17 + 2 = 19 := by decide +kernel
theorem D_S_textTold_19 : decode prog_1_method_29_code 19 = .ok (.ireturn, 1) := by decide +kernel
def f_S_textTold (a1 : Int32) (a2 : Int32) (mem : Mm) : Option (Int32) := bp (f_S_within a1 0 ((mem 38 2) - 1)) fun r_11 => if r_11 = 0 then some (-1000000001) else if a2 = 0 then if inb a1 15 = true then some (mem (7 + 2 * ix a1) 0) else none else if a2 = 1 then if inb a1 15 = true then some (mem (7 + 2 * ix a1) 1) else none else some (-1000000001)
theorem c_S_textTold (l : Launch) (E : En) (a1 : Int32) (a2 : Int32) {mem : Mm} {r : Int32} (h : f_S_textTold a1 a2 mem = some r) : CtI l E 1 y_S_textTold prog_1_method_29_code 3 (some .int) [.ref (eb E + 0), .int a1, .int a2] SH mem r mem := by
  refine mk_CtI ⟨by decide, (Nat.le_of_ble_eq_true rfl)⟩ (fun X S hl hR => ?_)
  have S : Std X E prog_1_method_29_code R5 3 1 := S
  show J X E 3 0 [(0, .ref (eb E + 0)), (1, .int a1), (2, .int a2)] [] SH mem
  unfold f_S_textTold at h
  refine j_iload_n S D_S_textTold_0 1 rfl rfl ?_
  refine j_iconst S D_S_textTold_1 ci_0 ?_
  refine j_aload_n S D_S_textTold_2 0 rfl rfl ?_
  refine j_getR S D_S_textTold_3 fl_R5_52 sh_Sand rfl ?_
  refine j_getI S D_S_textTold_6 fl_R5_199 sh_P38 rfl ?_
  refine j_iconst S D_S_textTold_9 ci_1 ?_
  refine j_isub S D_S_textTold_10 ?_
  obtain ⟨r_11, e_11, h⟩ := bpE h
  refine j_callSI (As := [.int a1, .int 0, .int ((mem 38 2) - 1)]) S D_S_textTold_11 ms_R5_70 (c_S_within (cxL X) E a1 0 ((mem 38 2) - 1) (mem := mem) e_11) (by decide) rfl rfl (Nat.le_of_ble_eq_true rfl) ?_
  refine j_if_ne S D_S_textTold_14 (fun c_14 => ?_) (fun c_14 => ?_)
  · have h := ifF c_14 h
    refine j_iload_n S D_S_textTold_20 2 rfl rfl ?_
    by_cases c_21_0 : a2 = 0
    · have h := ifT c_21_0 h
      refine j_lookE (tg := 48) (off := 27) S D_S_textTold_21 0 c_21_0 (by decide +kernel) ?_
      refine j_aload_n S D_S_textTold_48 0 rfl rfl ?_
      refine j_getR S D_S_textTold_49 fl_R5_11 sh_Sand rfl ?_
      refine j_iload_n S D_S_textTold_52 1 rfl rfl ?_
      obtain ⟨g_53, h⟩ := gdE h
      refine j_aald S D_S_textTold_53 sh_1 rfl g_53 (el_txt g_53) ?_
      refine j_getI S D_S_textTold_54 fl_R5_209 (sh_txt (ro_txt g_53)) rfl ?_
      exact rtI hR h _ _ D_S_textTold_57
    · have h := ifF c_21_0 h
      by_cases c_21_1 : a2 = 1
      · have h := ifT c_21_1 h
        refine j_lookE (tg := 58) (off := 37) S D_S_textTold_21 1 c_21_1 (by decide +kernel) ?_
        refine j_aload_n S D_S_textTold_58 0 rfl rfl ?_
        refine j_getR S D_S_textTold_59 fl_R5_11 sh_Sand rfl ?_
        refine j_iload_n S D_S_textTold_62 1 rfl rfl ?_
        obtain ⟨g_63, h⟩ := gdE h
        refine j_aald S D_S_textTold_63 sh_1 rfl g_63 (el_txt g_63) ?_
        refine j_getI S D_S_textTold_64 fl_R5_212 (sh_txt (ro_txt g_63)) rfl ?_
        exact rtI hR h _ _ D_S_textTold_67
      · have h := ifF c_21_1 h
        refine j_look (tg := 68) S D_S_textTold_21 (by decide +kernel) (by show Op.lookupswitch.offset [(0, 27), (1, 37)] 47 (a2 : Int32).toInt = 47; rw [lv_osw c_21_0 (by decide +kernel), lv_osw c_21_1 (by decide +kernel)]; rfl) rfl ?_
        refine j_ldc S D_S_textTold_68 co_R5_77 ?_
        exact rtI hR h _ _ D_S_textTold_70
  · have h := ifT c_14 h
    refine j_ldc S D_S_textTold_17 co_R5_77 ?_
    exact rtI hR h _ _ D_S_textTold_19

def y_S_why : MethodName := ⟨"SandPicture", "why", "(I)I"⟩
theorem D_S_why_0 : decode prog_1_method_30_code 0 = .ok (.iload_n 1, 1) ∧ 0 + 1 = 1 := by decide +kernel
theorem D_S_why_1 : decode prog_1_method_30_code 1 = .ok (.iconst 0, 1) ∧ 1 + 1 = 2 := by decide +kernel
theorem D_S_why_2 : decode prog_1_method_30_code 2 = .ok (.iconst 2, 1) ∧ 2 + 1 = 3 := by decide +kernel
theorem D_S_why_3 : decode prog_1_method_30_code 3 = .ok (.invokestatic 70, 3) ∧ 3 + 3 = 6 := by decide +kernel
theorem D_S_why_6 : decode prog_1_method_30_code 6 = .ok (.ifCond .eq 15, 3) ∧ ((6 : Nat) : Int) + 15 = ((21 : Nat) : Int) ∧ 6 + 3 = 9 := by decide +kernel
theorem D_S_why_21 : decode prog_1_method_30_code 21 = .ok (.ldc 77, 2) ∧ 21 + 2 = 23 := by decide +kernel
theorem D_S_why_23 : decode prog_1_method_30_code 23 = .ok (.ireturn, 1) := by decide +kernel
theorem D_S_why_9 : decode prog_1_method_30_code 9 = .ok (.aload_n 0, 1) ∧ 9 + 1 = 10 := by decide +kernel
theorem D_S_why_10 : decode prog_1_method_30_code 10 = .ok (.getfield 52, 3) ∧ 10 + 3 = 13 := by decide +kernel
theorem D_S_why_13 : decode prog_1_method_30_code 13 = .ok (.getfield 206, 3) ∧ 13 + 3 = 16 := by decide +kernel
theorem D_S_why_16 : decode prog_1_method_30_code 16 = .ok (.iload_n 1, 1) ∧ 16 + 1 = 17 := by decide +kernel
theorem D_S_why_17 : decode prog_1_method_30_code 17 = .ok (.iaload, 1) ∧ 17 + 1 = 18 := by decide +kernel
theorem D_S_why_18 : decode prog_1_method_30_code 18 = .ok (.goto 5, 3) ∧ ((18 : Nat) : Int) + 5 = ((23 : Nat) : Int) := by decide +kernel
def f_S_why (a1 : Int32) (mem : Mm) : Option (Int32) := bp (f_S_within a1 0 2) fun r_3 => if r_3 = 0 then some (-1000000001) else if inb a1 3 = true then some (mem 39 (ix a1)) else none
theorem c_S_why (l : Launch) (E : En) (a1 : Int32) {mem : Mm} {r : Int32} (h : f_S_why a1 mem = some r) : CtI l E 1 y_S_why prog_1_method_30_code 2 (some .int) [.ref (eb E + 0), .int a1] SH mem r mem := by
  refine mk_CtI ⟨by decide, (Nat.le_of_ble_eq_true rfl)⟩ (fun X S hl hR => ?_)
  have S : Std X E prog_1_method_30_code R5 2 1 := S
  show J X E 2 0 [(0, .ref (eb E + 0)), (1, .int a1)] [] SH mem
  unfold f_S_why at h
  refine j_iload_n S D_S_why_0 1 rfl rfl ?_
  refine j_iconst S D_S_why_1 ci_0 ?_
  refine j_iconst S D_S_why_2 ci_2 ?_
  obtain ⟨r_3, e_3, h⟩ := bpE h
  refine j_callSI (As := [.int a1, .int 0, .int 2]) S D_S_why_3 ms_R5_70 (c_S_within (cxL X) E a1 0 2 (mem := mem) e_3) (by decide) rfl rfl (Nat.le_of_ble_eq_true rfl) ?_
  refine j_if_eq S D_S_why_6 (fun c_6 => ?_) (fun c_6 => ?_)
  · have h := ifT c_6 h
    refine j_ldc S D_S_why_21 co_R5_77 ?_
    exact rtI hR h _ _ D_S_why_23
  · have h := ifF c_6 h
    refine j_aload_n S D_S_why_9 0 rfl rfl ?_
    refine j_getR S D_S_why_10 fl_R5_52 sh_Sand rfl ?_
    refine j_getR S D_S_why_13 fl_R5_206 sh_P38 rfl ?_
    refine j_iload_n S D_S_why_16 1 rfl rfl ?_
    obtain ⟨g_17, h⟩ := gdE h
    refine j_iald S D_S_why_17 sh_39 g_17 ?_
    refine j_goto S D_S_why_18 ?_
    exact rtI hR h _ _ D_S_why_23

def y_S_sheet : MethodName := ⟨"SandPicture", "sheet", "(III)I"⟩
theorem D_S_sheet_0 : decode prog_1_method_31_code 0 = .ok (.iload_n 1, 1) ∧ 0 + 1 = 1 := by decide +kernel
theorem D_S_sheet_1 : decode prog_1_method_31_code 1 = .ok (.invokestatic 178, 3) ∧ 1 + 3 = 4 := by decide +kernel
theorem D_S_sheet_4 : decode prog_1_method_31_code 4 = .ok (.ifCond .eq 12, 3) ∧ ((4 : Nat) : Int) + 12 = ((16 : Nat) : Int) ∧ 4 + 3 = 7 := by decide +kernel
theorem D_S_sheet_16 : decode prog_1_method_31_code 16 = .ok (.ldc 77, 2) ∧ 16 + 2 = 18 := by decide +kernel
theorem D_S_sheet_18 : decode prog_1_method_31_code 18 = .ok (.ireturn, 1) := by decide +kernel
theorem D_S_sheet_7 : decode prog_1_method_31_code 7 = .ok (.iload_n 2, 1) ∧ 7 + 1 = 8 := by decide +kernel
theorem D_S_sheet_8 : decode prog_1_method_31_code 8 = .ok (.iconst (-1), 1) ∧ 8 + 1 = 9 := by decide +kernel
theorem D_S_sheet_9 : decode prog_1_method_31_code 9 = .ok (.iconst 1, 1) ∧ 9 + 1 = 10 := by decide +kernel
theorem D_S_sheet_10 : decode prog_1_method_31_code 10 = .ok (.invokestatic 70, 3) ∧ 10 + 3 = 13 := by decide +kernel
theorem D_S_sheet_13 : decode prog_1_method_31_code 13 = .ok (.ifCond .ne 6, 3) ∧ ((13 : Nat) : Int) + 6 = ((19 : Nat) : Int) ∧ 13 + 3 = 16 := by decide +kernel
theorem D_S_sheet_19 : decode prog_1_method_31_code 19 = .ok (.iload_n 2, 1) ∧ 19 + 1 = 20 := by decide +kernel
theorem D_S_sheet_20 : decode prog_1_method_31_code 20 = .ok (.iconst (-1), 1) ∧ 20 + 1 = 21 := by decide +kernel
theorem D_S_sheet_21 : decode prog_1_method_31_code 21 = .ok (.if_icmp .ne 16, 3) ∧ ((21 : Nat) : Int) + 16 = ((37 : Nat) : Int) ∧ 21 + 3 = 24 := by decide +kernel
theorem D_S_sheet_37 : decode prog_1_method_31_code 37 = .ok (.iload_n 3, 1) ∧ 37 + 1 = 38 := by decide +kernel
theorem D_S_sheet_38 : decode prog_1_method_31_code 38 = .ok (.bipush 24, 2) ∧ 38 + 2 = 40 := by decide +kernel
theorem D_S_sheet_40 : decode prog_1_method_31_code 40 = .ok (.if_icmp .le 6, 3) ∧ ((40 : Nat) : Int) + 6 = ((46 : Nat) : Int) ∧ 40 + 3 = 43 := by decide +kernel
theorem D_S_sheet_46 : decode prog_1_method_31_code 46 = .ok (.iload_n 3, 1) ∧ 46 + 1 = 47 := by decide +kernel
theorem D_S_sheet_47 : decode prog_1_method_31_code 47 = .ok (.ifCond .ge 6, 3) ∧ ((47 : Nat) : Int) + 6 = ((53 : Nat) : Int) ∧ 47 + 3 = 50 := by decide +kernel
theorem D_S_sheet_53 : decode prog_1_method_31_code 53 = .ok (.aload_n 0, 1) ∧ 53 + 1 = 54 := by decide +kernel
theorem D_S_sheet_54 : decode prog_1_method_31_code 54 = .ok (.getfield 28, 3) ∧ 54 + 3 = 57 := by decide +kernel
theorem D_S_sheet_57 : decode prog_1_method_31_code 57 = .ok (.iload_n 1, 1) ∧ 57 + 1 = 58 := by decide +kernel
theorem D_S_sheet_58 : decode prog_1_method_31_code 58 = .ok (.aaload, 1) ∧ 58 + 1 = 59 := by decide +kernel
theorem D_S_sheet_59 : decode prog_1_method_31_code 59 = .ok (.iload_n 2, 1) ∧ 59 + 1 = 60 := by decide +kernel
theorem D_S_sheet_60 : decode prog_1_method_31_code 60 = .ok (.iload_n 3, 1) ∧ 60 + 1 = 61 := by decide +kernel
theorem D_S_sheet_61 : decode prog_1_method_31_code 61 = .ok (.invokevirtual 215, 3) ∧ 61 + 3 = 64 := by decide +kernel
theorem D_S_sheet_64 : decode prog_1_method_31_code 64 = .ok (.iload_n 3, 1) ∧ 64 + 1 = 65 := by decide +kernel
theorem D_S_sheet_65 : decode prog_1_method_31_code 65 = .ok (.ireturn, 1) := by decide +kernel
theorem D_S_sheet_50 : decode prog_1_method_31_code 50 = .ok (.ldc 219, 2) ∧ 50 + 2 = 52 := by decide +kernel
theorem D_S_sheet_52 : decode prog_1_method_31_code 52 = .ok (.ireturn, 1) := by decide +kernel
theorem D_S_sheet_43 : decode prog_1_method_31_code 43 = .ok (.ldc 77, 2) ∧ 43 + 2 = 45 := by decide +kernel
theorem D_S_sheet_45 : decode prog_1_method_31_code 45 = .ok (.ireturn, 1) := by decide +kernel
theorem D_S_sheet_24 : decode prog_1_method_31_code 24 = .ok (.aload_n 0, 1) ∧ 24 + 1 = 25 := by decide +kernel
theorem D_S_sheet_25 : decode prog_1_method_31_code 25 = .ok (.getfield 28, 3) ∧ 25 + 3 = 28 := by decide +kernel
theorem D_S_sheet_28 : decode prog_1_method_31_code 28 = .ok (.iload_n 1, 1) ∧ 28 + 1 = 29 := by decide +kernel
theorem D_S_sheet_29 : decode prog_1_method_31_code 29 = .ok (.aaload, 1) ∧ 29 + 1 = 30 := by decide +kernel
theorem D_S_sheet_30 : decode prog_1_method_31_code 30 = .ok (.iconst (-1), 1) ∧ 30 + 1 = 31 := by decide +kernel
theorem D_S_sheet_31 : decode prog_1_method_31_code 31 = .ok (.iconst 0, 1) ∧ 31 + 1 = 32 := by decide +kernel
theorem D_S_sheet_32 : decode prog_1_method_31_code 32 = .ok (.invokevirtual 215, 3) ∧ 32 + 3 = 35 := by decide +kernel
theorem D_S_sheet_35 : decode prog_1_method_31_code 35 = .ok (.iconst 0, 1) ∧ 35 + 1 = 36 := by decide +kernel
theorem D_S_sheet_36 : decode prog_1_method_31_code 36 = .ok (.ireturn, 1) := by decide +kernel
def f_S_sheet (N : Nat) (a1 : Int32) (a2 : Int32) (a3 : Int32) (mem : Mm) : Option (Int32 × Mm) := bp (f_S_isSheet a1) fun r_1 => if r_1 = 0 then some ((-1000000001), mem) else bp (f_S_within a2 (-1) 1) fun r_10 => if r_10 = 0 then some ((-1000000001), mem) else if a2 = (-1) then if inb a1 4 = true then bp (f_H_renew N (68 + 2 * ix a1) (-1) 0 mem) fun m_32 => some (0, m_32) else none else if a3 ≤ 24 then if 0 ≤ a3 then if inb a1 4 = true then bp (f_H_renew N (68 + 2 * ix a1) a2 a3 mem) fun m_61 => some (a3, m_61) else none else some ((-1000000014), mem) else some ((-1000000001), mem)
theorem c_S_sheet (l : Launch) (E : En) (N : Nat) (a1 : Int32) (a2 : Int32) (a3 : Int32) {mem : Mm} {r : Int32} {m2 : Mm} (h : f_S_sheet N a1 a2 a3 mem = some (r, m2)) : CtI l E 2 y_S_sheet prog_1_method_31_code 4 (some .int) [.ref (eb E + 0), .int a1, .int a2, .int a3] SH mem r m2 := by
  refine mk_CtI ⟨by decide, (Nat.le_of_ble_eq_true rfl)⟩ (fun X S hl hR => ?_)
  have S : Std X E prog_1_method_31_code R5 4 2 := S
  show J X E 4 0 [(0, .ref (eb E + 0)), (1, .int a1), (2, .int a2), (3, .int a3)] [] SH mem
  unfold f_S_sheet at h
  refine j_iload_n S D_S_sheet_0 1 rfl rfl ?_
  obtain ⟨r_1, e_1, h⟩ := bpE h
  refine j_callSI (As := [.int a1]) S D_S_sheet_1 ms_R5_178 (c_S_isSheet (cxL X) E a1 (mem := mem) e_1) (by decide) rfl rfl (Nat.le_of_ble_eq_true rfl) ?_
  refine j_if_eq S D_S_sheet_4 (fun c_4 => ?_) (fun c_4 => ?_)
  · have h := ifT c_4 h
    refine j_ldc S D_S_sheet_16 co_R5_77 ?_
    exact rtM hR h _ _ D_S_sheet_18
  · have h := ifF c_4 h
    refine j_iload_n S D_S_sheet_7 2 rfl rfl ?_
    refine j_iconst S D_S_sheet_8 ci_m1 ?_
    refine j_iconst S D_S_sheet_9 ci_1 ?_
    obtain ⟨r_10, e_10, h⟩ := bpE h
    refine j_callSI (As := [.int a2, .int (-1), .int 1]) S D_S_sheet_10 ms_R5_70 (c_S_within (cxL X) E a2 (-1) 1 (mem := mem) e_10) (by decide) rfl rfl (Nat.le_of_ble_eq_true rfl) ?_
    refine j_if_ne S D_S_sheet_13 (fun c_13 => ?_) (fun c_13 => ?_)
    · have h := ifF c_13 h
      refine j_iload_n S D_S_sheet_19 2 rfl rfl ?_
      refine j_iconst S D_S_sheet_20 ci_m1 ?_
      refine j_icmp_ne S D_S_sheet_21 (fun c_21 => ?_) (fun c_21 => ?_)
      · have h := ifF c_21 h
        refine j_iload_n S D_S_sheet_37 3 rfl rfl ?_
        refine j_bipush S D_S_sheet_38 cb_24 ?_
        refine j_icmp_le S D_S_sheet_40 (fun c_40 => ?_) (fun c_40 => ?_)
        · have h := ifT c_40 h
          refine j_iload_n S D_S_sheet_46 3 rfl rfl ?_
          refine j_if_ge S D_S_sheet_47 (fun c_47 => ?_) (fun c_47 => ?_)
          · have h := ifT c_47 h
            refine j_aload_n S D_S_sheet_53 0 rfl rfl ?_
            refine j_getR S D_S_sheet_54 fl_R5_28 sh_Sand rfl ?_
            refine j_iload_n S D_S_sheet_57 1 rfl rfl ?_
            obtain ⟨g_58, h⟩ := gdE h
            refine j_aald S D_S_sheet_58 sh_4 rfl g_58 (el_sht g_58) ?_
            refine j_iload_n S D_S_sheet_59 2 rfl rfl ?_
            refine j_iload_n S D_S_sheet_60 3 rfl rfl ?_
            obtain ⟨m_61, e_61, h⟩ := bpE h
            refine j_callVV (As := [.int a2, .int a3]) S D_S_sheet_61 mv_R5_215 (c_H_renew (cxL X) E N (68 + 2 * ix a1) (ro_sht g_58) a2 a3 e_61) (by decide) (sh_sht (ro_sht g_58)) rfl rfl rfl rfl (Nat.le_of_ble_eq_true rfl) ?_
            refine j_iload_n S D_S_sheet_64 3 rfl rfl ?_
            exact rtM hR h _ _ D_S_sheet_65
          · have h := ifF c_47 h
            refine j_ldc S D_S_sheet_50 co_R5_219 ?_
            exact rtM hR h _ _ D_S_sheet_52
        · have h := ifF c_40 h
          refine j_ldc S D_S_sheet_43 co_R5_77 ?_
          exact rtM hR h _ _ D_S_sheet_45
      · have h := ifT c_21 h
        refine j_aload_n S D_S_sheet_24 0 rfl rfl ?_
        refine j_getR S D_S_sheet_25 fl_R5_28 sh_Sand rfl ?_
        refine j_iload_n S D_S_sheet_28 1 rfl rfl ?_
        obtain ⟨g_29, h⟩ := gdE h
        refine j_aald S D_S_sheet_29 sh_4 rfl g_29 (el_sht g_29) ?_
        refine j_iconst S D_S_sheet_30 ci_m1 ?_
        refine j_iconst S D_S_sheet_31 ci_0 ?_
        obtain ⟨m_32, e_32, h⟩ := bpE h
        refine j_callVV (As := [.int (-1), .int 0]) S D_S_sheet_32 mv_R5_215 (c_H_renew (cxL X) E N (68 + 2 * ix a1) (ro_sht g_29) (-1) 0 e_32) (by decide) (sh_sht (ro_sht g_29)) rfl rfl rfl rfl (Nat.le_of_ble_eq_true rfl) ?_
        refine j_iconst S D_S_sheet_35 ci_0 ?_
        exact rtM hR h _ _ D_S_sheet_36
    · have h := ifT c_13 h
      refine j_ldc S D_S_sheet_16 co_R5_77 ?_
      exact rtM hR h _ _ D_S_sheet_18

def y_S_mark : MethodName := ⟨"SandPicture", "mark", "(III)I"⟩
theorem D_S_mark_0 : decode prog_1_method_32_code 0 = .ok (.iload_n 1, 1) ∧ 0 + 1 = 1 := by decide +kernel
theorem D_S_mark_1 : decode prog_1_method_32_code 1 = .ok (.invokestatic 178, 3) ∧ 1 + 3 = 4 := by decide +kernel
theorem D_S_mark_4 : decode prog_1_method_32_code 4 = .ok (.ifCond .ne 6, 3) ∧ ((4 : Nat) : Int) + 6 = ((10 : Nat) : Int) ∧ 4 + 3 = 7 := by decide +kernel
theorem D_S_mark_10 : decode prog_1_method_32_code 10 = .ok (.aload_n 0, 1) ∧ 10 + 1 = 11 := by decide +kernel
theorem D_S_mark_11 : decode prog_1_method_32_code 11 = .ok (.getfield 28, 3) ∧ 11 + 3 = 14 := by decide +kernel
theorem D_S_mark_14 : decode prog_1_method_32_code 14 = .ok (.iload_n 1, 1) ∧ 14 + 1 = 15 := by decide +kernel
theorem D_S_mark_15 : decode prog_1_method_32_code 15 = .ok (.aaload, 1) ∧ 15 + 1 = 16 := by decide +kernel
theorem D_S_mark_16 : decode prog_1_method_32_code 16 = .ok (.astore 4, 2) ∧ 16 + 2 = 18 := by decide +kernel
theorem D_S_mark_18 : decode prog_1_method_32_code 18 = .ok (.aload 4, 2) ∧ 18 + 2 = 20 := by decide +kernel
theorem D_S_mark_20 : decode prog_1_method_32_code 20 = .ok (.getfield 181, 3) ∧ 20 + 3 = 23 := by decide +kernel
theorem D_S_mark_23 : decode prog_1_method_32_code 23 = .ok (.iconst (-1), 1) ∧ 23 + 1 = 24 := by decide +kernel
theorem D_S_mark_24 : decode prog_1_method_32_code 24 = .ok (.if_icmp .ne 6, 3) ∧ ((24 : Nat) : Int) + 6 = ((30 : Nat) : Int) ∧ 24 + 3 = 27 := by decide +kernel
theorem D_S_mark_30 : decode prog_1_method_32_code 30 = .ok (.iload_n 2, 1) ∧ 30 + 1 = 31 := by decide +kernel
theorem D_S_mark_31 : decode prog_1_method_32_code 31 = .ok (.iconst 0, 1) ∧ 31 + 1 = 32 := by decide +kernel
theorem D_S_mark_32 : decode prog_1_method_32_code 32 = .ok (.aload 4, 2) ∧ 32 + 2 = 34 := by decide +kernel
theorem D_S_mark_34 : decode prog_1_method_32_code 34 = .ok (.getfield 220, 3) ∧ 34 + 3 = 37 := by decide +kernel
theorem D_S_mark_37 : decode prog_1_method_32_code 37 = .ok (.iconst 1, 1) ∧ 37 + 1 = 38 := by decide +kernel
theorem D_S_mark_38 : decode prog_1_method_32_code 38 = .ok (.isub, 1) ∧ 38 + 1 = 39 := by decide +kernel
theorem D_S_mark_39 : decode prog_1_method_32_code 39 = .ok (.invokestatic 70, 3) ∧ 39 + 3 = 42 := by decide +kernel
theorem D_S_mark_42 : decode prog_1_method_32_code 42 = .ok (.ifCond .ne 6, 3) ∧ ((42 : Nat) : Int) + 6 = ((48 : Nat) : Int) ∧ 42 + 3 = 45 := by decide +kernel
theorem D_S_mark_48 : decode prog_1_method_32_code 48 = .ok (.aload 4, 2) ∧ 48 + 2 = 50 := by decide +kernel
theorem D_S_mark_50 : decode prog_1_method_32_code 50 = .ok (.getfield 181, 3) ∧ 50 + 3 = 53 := by decide +kernel
theorem D_S_mark_53 : decode prog_1_method_32_code 53 = .ok (.ifCond .ne 23, 3) ∧ ((53 : Nat) : Int) + 23 = ((76 : Nat) : Int) ∧ 53 + 3 = 56 := by decide +kernel
theorem D_S_mark_76 : decode prog_1_method_32_code 76 = .ok (.iload_n 3, 1) ∧ 76 + 1 = 77 := by decide +kernel
theorem D_S_mark_77 : decode prog_1_method_32_code 77 = .ok (.ldc 174, 2) ∧ 77 + 2 = 79 := by decide +kernel
theorem D_S_mark_79 : decode prog_1_method_32_code 79 = .ok (.if_icmp .eq 17, 3) ∧ ((79 : Nat) : Int) + 17 = ((96 : Nat) : Int) ∧ 79 + 3 = 82 := by decide +kernel
theorem D_S_mark_96 : decode prog_1_method_32_code 96 = .ok (.aload 4, 2) ∧ 96 + 2 = 98 := by decide +kernel
theorem D_S_mark_98 : decode prog_1_method_32_code 98 = .ok (.getfield 222, 3) ∧ 98 + 3 = 101 := by decide +kernel
theorem D_S_mark_101 : decode prog_1_method_32_code 101 = .ok (.iload_n 2, 1) ∧ 101 + 1 = 102 := by decide +kernel
theorem D_S_mark_102 : decode prog_1_method_32_code 102 = .ok (.iload_n 3, 1) ∧ 102 + 1 = 103 := by decide +kernel
theorem D_S_mark_103 : decode prog_1_method_32_code 103 = .ok (.iastore, 1) ∧ 103 + 1 = 104 := by decide +kernel
theorem D_S_mark_104 : decode prog_1_method_32_code 104 = .ok (.iconst 1, 1) ∧ 104 + 1 = 105 := by decide +kernel
theorem D_S_mark_105 : decode prog_1_method_32_code 105 = .ok (.ireturn, 1) := by decide +kernel
theorem D_S_mark_82 : decode prog_1_method_32_code 82 = .ok (.iload_n 3, 1) ∧ 82 + 1 = 83 := by decide +kernel
theorem D_S_mark_83 : decode prog_1_method_32_code 83 = .ok (.ldc 225, 2) ∧ 83 + 2 = 85 := by decide +kernel
theorem D_S_mark_85 : decode prog_1_method_32_code 85 = .ok (.ldc 131, 2) ∧ 85 + 2 = 87 := by decide +kernel
theorem D_S_mark_87 : decode prog_1_method_32_code 87 = .ok (.invokestatic 70, 3) ∧ 87 + 3 = 90 := by decide +kernel
theorem D_S_mark_90 : decode prog_1_method_32_code 90 = .ok (.ifCond .ne 6, 3) ∧ ((90 : Nat) : Int) + 6 = ((96 : Nat) : Int) ∧ 90 + 3 = 93 := by decide +kernel
theorem D_S_mark_93 : decode prog_1_method_32_code 93 = .ok (.ldc 77, 2) ∧ 93 + 2 = 95 := by decide +kernel
theorem D_S_mark_95 : decode prog_1_method_32_code 95 = .ok (.ireturn, 1) := by decide +kernel
theorem D_S_mark_56 : decode prog_1_method_32_code 56 = .ok (.iload_n 3, 1) ∧ 56 + 1 = 57 := by decide +kernel
theorem D_S_mark_57 : decode prog_1_method_32_code 57 = .ok (.ldc 174, 2) ∧ 57 + 2 = 59 := by decide +kernel
theorem D_S_mark_59 : decode prog_1_method_32_code 59 = .ok (.if_icmp .ne 6, 3) ∧ ((59 : Nat) : Int) + 6 = ((65 : Nat) : Int) ∧ 59 + 3 = 62 := by decide +kernel
theorem D_S_mark_65 : decode prog_1_method_32_code 65 = .ok (.aload 4, 2) ∧ 65 + 2 = 67 := by decide +kernel
theorem D_S_mark_67 : decode prog_1_method_32_code 67 = .ok (.getfield 222, 3) ∧ 67 + 3 = 70 := by decide +kernel
theorem D_S_mark_70 : decode prog_1_method_32_code 70 = .ok (.iload_n 2, 1) ∧ 70 + 1 = 71 := by decide +kernel
theorem D_S_mark_71 : decode prog_1_method_32_code 71 = .ok (.iload_n 3, 1) ∧ 71 + 1 = 72 := by decide +kernel
theorem D_S_mark_72 : decode prog_1_method_32_code 72 = .ok (.i2s, 1) ∧ 72 + 1 = 73 := by decide +kernel
theorem D_S_mark_73 : decode prog_1_method_32_code 73 = .ok (.iastore, 1) ∧ 73 + 1 = 74 := by decide +kernel
theorem D_S_mark_74 : decode prog_1_method_32_code 74 = .ok (.iconst 1, 1) ∧ 74 + 1 = 75 := by decide +kernel
theorem D_S_mark_75 : decode prog_1_method_32_code 75 = .ok (.ireturn, 1) := by decide +kernel
theorem D_S_mark_62 : decode prog_1_method_32_code 62 = .ok (.ldc 115, 2) ∧ 62 + 2 = 64 := by decide +kernel
theorem D_S_mark_64 : decode prog_1_method_32_code 64 = .ok (.ireturn, 1) := by decide +kernel
theorem D_S_mark_45 : decode prog_1_method_32_code 45 = .ok (.ldc 221, 2) ∧ 45 + 2 = 47 := by decide +kernel
theorem D_S_mark_47 : decode prog_1_method_32_code 47 = .ok (.ireturn, 1) := by decide +kernel
theorem D_S_mark_27 : decode prog_1_method_32_code 27 = .ok (.ldc 184, 2) ∧ 27 + 2 = 29 := by decide +kernel
theorem D_S_mark_29 : decode prog_1_method_32_code 29 = .ok (.ireturn, 1) := by decide +kernel
theorem D_S_mark_7 : decode prog_1_method_32_code 7 = .ok (.ldc 77, 2) ∧ 7 + 2 = 9 := by decide +kernel
theorem D_S_mark_9 : decode prog_1_method_32_code 9 = .ok (.ireturn, 1) := by decide +kernel
def f_S_mark (a1 : Int32) (a2 : Int32) (a3 : Int32) (mem : Mm) : Option (Int32 × Mm) := bp (f_S_isSheet a1) fun r_1 => if r_1 = 0 then some ((-1000000001), mem) else if inb a1 4 = true then if mem (68 + 2 * ix a1) 0 = (-1) then some ((-1000000011), mem) else bp (f_S_within a2 0 ((mem (68 + 2 * ix a1) 1) - 1)) fun r_39 => if r_39 = 0 then some ((-1000000013), mem) else if mem (68 + 2 * ix a1) 0 = 0 then if a3 = (-1000000005) then some ((-1000000012), mem) else if inb a2 24 = true then lt (mst mem ((68 + 2 * ix a1) + 1) (ix a2) a3.toInt16.toInt32) fun m_73 => some (1, m_73) else none else if a3 = (-1000000005) then if inb a2 24 = true then lt (mst mem ((68 + 2 * ix a1) + 1) (ix a2) a3) fun m_103 => some (1, m_103) else none else bp (f_S_within a3 (-99999) 99999) fun r_87 => if r_87 = 0 then some ((-1000000001), mem) else if inb a2 24 = true then lt (mst mem ((68 + 2 * ix a1) + 1) (ix a2) a3) fun m_103 => some (1, m_103) else none else none
theorem c_S_mark (l : Launch) (E : En) (a1 : Int32) (a2 : Int32) (a3 : Int32) {mem : Mm} {r : Int32} {m2 : Mm} (h : f_S_mark a1 a2 a3 mem = some (r, m2)) : CtI l E 2 y_S_mark prog_1_method_32_code 5 (some .int) [.ref (eb E + 0), .int a1, .int a2, .int a3] SH mem r m2 := by
  refine mk_CtI ⟨by decide, (Nat.le_of_ble_eq_true rfl)⟩ (fun X S hl hR => ?_)
  have S : Std X E prog_1_method_32_code R5 5 2 := S
  show J X E 5 0 [(0, .ref (eb E + 0)), (1, .int a1), (2, .int a2), (3, .int a3)] [] SH mem
  unfold f_S_mark at h
  refine j_iload_n S D_S_mark_0 1 rfl rfl ?_
  obtain ⟨r_1, e_1, h⟩ := bpE h
  refine j_callSI (As := [.int a1]) S D_S_mark_1 ms_R5_178 (c_S_isSheet (cxL X) E a1 (mem := mem) e_1) (by decide) rfl rfl (Nat.le_of_ble_eq_true rfl) ?_
  refine j_if_ne S D_S_mark_4 (fun c_4 => ?_) (fun c_4 => ?_)
  · have h := ifF c_4 h
    refine j_aload_n S D_S_mark_10 0 rfl rfl ?_
    refine j_getR S D_S_mark_11 fl_R5_28 sh_Sand rfl ?_
    refine j_iload_n S D_S_mark_14 1 rfl rfl ?_
    obtain ⟨g_15, h⟩ := gdE h
    refine j_aald S D_S_mark_15 sh_4 rfl g_15 (el_sht g_15) ?_
    refine j_astore S D_S_mark_16 (lv := [(4, .ref (eb E + (68 + 2 * ix a1))), (0, .ref (eb E + 0)), (1, .int a1), (2, .int a2), (3, .int a3)]) rfl (Nat.le_of_ble_eq_true rfl) ?_
    refine j_aload S D_S_mark_18 0 rfl ?_
    refine j_getI S D_S_mark_20 fl_R5_181 (sh_sht (ro_sht g_15)) rfl ?_
    refine j_iconst S D_S_mark_23 ci_m1 ?_
    refine j_icmp_ne S D_S_mark_24 (fun c_24 => ?_) (fun c_24 => ?_)
    · have h := ifF c_24 h
      refine j_iload_n S D_S_mark_30 3 rfl rfl ?_
      refine j_iconst S D_S_mark_31 ci_0 ?_
      refine j_aload S D_S_mark_32 0 rfl ?_
      refine j_getI S D_S_mark_34 fl_R5_220 (sh_sht (ro_sht g_15)) rfl ?_
      refine j_iconst S D_S_mark_37 ci_1 ?_
      refine j_isub S D_S_mark_38 ?_
      obtain ⟨r_39, e_39, h⟩ := bpE h
      refine j_callSI (As := [.int a2, .int 0, .int ((mem (68 + 2 * ix a1) 1) - 1)]) S D_S_mark_39 ms_R5_70 (c_S_within (cxL X) E a2 0 ((mem (68 + 2 * ix a1) 1) - 1) (mem := mem) e_39) (by decide) rfl rfl (Nat.le_of_ble_eq_true rfl) ?_
      refine j_if_ne S D_S_mark_42 (fun c_42 => ?_) (fun c_42 => ?_)
      · have h := ifF c_42 h
        refine j_aload S D_S_mark_48 0 rfl ?_
        refine j_getI S D_S_mark_50 fl_R5_181 (sh_sht (ro_sht g_15)) rfl ?_
        refine j_if_ne S D_S_mark_53 (fun c_53 => ?_) (fun c_53 => ?_)
        · have h := ifF c_53 h
          refine j_iload_n S D_S_mark_76 4 rfl rfl ?_
          refine j_ldc S D_S_mark_77 co_R5_174 ?_
          refine j_icmp_eq S D_S_mark_79 (fun c_79 => ?_) (fun c_79 => ?_)
          · have h := ifT c_79 h
            refine j_aload S D_S_mark_96 0 rfl ?_
            refine j_getR S D_S_mark_98 fl_R5_222 (sh_sht (ro_sht g_15)) rfl ?_
            refine j_iload_n S D_S_mark_101 3 rfl rfl ?_
            refine j_iload_n S D_S_mark_102 4 rfl rfl ?_
            obtain ⟨g_103, h⟩ := gdE h
            obtain ⟨m_103, hm_103, h⟩ := ltE h
            refine j_iast S D_S_mark_103 (sh_sht1 (ro_sht g_15)) g_103 ?_
            refine j_mem hm_103 ?_
            refine j_iconst S D_S_mark_104 ci_1 ?_
            exact rtM hR h _ _ D_S_mark_105
          · have h := ifF c_79 h
            refine j_iload_n S D_S_mark_82 4 rfl rfl ?_
            refine j_ldc S D_S_mark_83 co_R5_225 ?_
            refine j_ldc S D_S_mark_85 co_R5_131 ?_
            obtain ⟨r_87, e_87, h⟩ := bpE h
            refine j_callSI (As := [.int a3, .int (-99999), .int 99999]) S D_S_mark_87 ms_R5_70 (c_S_within (cxL X) E a3 (-99999) 99999 (mem := mem) e_87) (by decide) rfl rfl (Nat.le_of_ble_eq_true rfl) ?_
            refine j_if_ne S D_S_mark_90 (fun c_90 => ?_) (fun c_90 => ?_)
            · have h := ifF c_90 h
              refine j_aload S D_S_mark_96 0 rfl ?_
              refine j_getR S D_S_mark_98 fl_R5_222 (sh_sht (ro_sht g_15)) rfl ?_
              refine j_iload_n S D_S_mark_101 3 rfl rfl ?_
              refine j_iload_n S D_S_mark_102 4 rfl rfl ?_
              obtain ⟨g_103, h⟩ := gdE h
              obtain ⟨m_103, hm_103, h⟩ := ltE h
              refine j_iast S D_S_mark_103 (sh_sht1 (ro_sht g_15)) g_103 ?_
              refine j_mem hm_103 ?_
              refine j_iconst S D_S_mark_104 ci_1 ?_
              exact rtM hR h _ _ D_S_mark_105
            · have h := ifT c_90 h
              refine j_ldc S D_S_mark_93 co_R5_77 ?_
              exact rtM hR h _ _ D_S_mark_95
        · have h := ifT c_53 h
          refine j_iload_n S D_S_mark_56 4 rfl rfl ?_
          refine j_ldc S D_S_mark_57 co_R5_174 ?_
          refine j_icmp_ne S D_S_mark_59 (fun c_59 => ?_) (fun c_59 => ?_)
          · have h := ifF c_59 h
            refine j_aload S D_S_mark_65 0 rfl ?_
            refine j_getR S D_S_mark_67 fl_R5_222 (sh_sht (ro_sht g_15)) rfl ?_
            refine j_iload_n S D_S_mark_70 3 rfl rfl ?_
            refine j_iload_n S D_S_mark_71 4 rfl rfl ?_
            refine j_i2s S D_S_mark_72 ?_
            obtain ⟨g_73, h⟩ := gdE h
            obtain ⟨m_73, hm_73, h⟩ := ltE h
            refine j_iast S D_S_mark_73 (sh_sht1 (ro_sht g_15)) g_73 ?_
            refine j_mem hm_73 ?_
            refine j_iconst S D_S_mark_74 ci_1 ?_
            exact rtM hR h _ _ D_S_mark_75
          · have h := ifT c_59 h
            refine j_ldc S D_S_mark_62 co_R5_115 ?_
            exact rtM hR h _ _ D_S_mark_64
      · have h := ifT c_42 h
        refine j_ldc S D_S_mark_45 co_R5_221 ?_
        exact rtM hR h _ _ D_S_mark_47
    · have h := ifT c_24 h
      refine j_ldc S D_S_mark_27 co_R5_184 ?_
      exact rtM hR h _ _ D_S_mark_29
  · have h := ifT c_4 h
    refine j_ldc S D_S_mark_7 co_R5_77 ?_
    exact rtM hR h _ _ D_S_mark_9

def y_S_pour : MethodName := ⟨"SandPicture", "pour", "(I)I"⟩
theorem D_S_pour_0 : decode prog_1_method_33_code 0 = .ok (.iload_n 1, 1) ∧ 0 + 1 = 1 := by decide +kernel
theorem D_S_pour_1 : decode prog_1_method_33_code 1 = .ok (.invokestatic 178, 3) ∧ 1 + 3 = 4 := by decide +kernel
theorem D_S_pour_4 : decode prog_1_method_33_code 4 = .ok (.ifCond .ne 6, 3) ∧ ((4 : Nat) : Int) + 6 = ((10 : Nat) : Int) ∧ 4 + 3 = 7 := by decide +kernel
theorem D_S_pour_10 : decode prog_1_method_33_code 10 = .ok (.aload_n 0, 1) ∧ 10 + 1 = 11 := by decide +kernel
theorem D_S_pour_11 : decode prog_1_method_33_code 11 = .ok (.getfield 28, 3) ∧ 11 + 3 = 14 := by decide +kernel
theorem D_S_pour_14 : decode prog_1_method_33_code 14 = .ok (.iload_n 1, 1) ∧ 14 + 1 = 15 := by decide +kernel
theorem D_S_pour_15 : decode prog_1_method_33_code 15 = .ok (.aaload, 1) ∧ 15 + 1 = 16 := by decide +kernel
theorem D_S_pour_16 : decode prog_1_method_33_code 16 = .ok (.astore_n 2, 1) ∧ 16 + 1 = 17 := by decide +kernel
theorem D_S_pour_17 : decode prog_1_method_33_code 17 = .ok (.aload_n 2, 1) ∧ 17 + 1 = 18 := by decide +kernel
theorem D_S_pour_18 : decode prog_1_method_33_code 18 = .ok (.getfield 181, 3) ∧ 18 + 3 = 21 := by decide +kernel
theorem D_S_pour_21 : decode prog_1_method_33_code 21 = .ok (.iconst (-1), 1) ∧ 21 + 1 = 22 := by decide +kernel
theorem D_S_pour_22 : decode prog_1_method_33_code 22 = .ok (.if_icmp .ne 6, 3) ∧ ((22 : Nat) : Int) + 6 = ((28 : Nat) : Int) ∧ 22 + 3 = 25 := by decide +kernel
theorem D_S_pour_28 : decode prog_1_method_33_code 28 = .ok (.iconst 0, 1) ∧ 28 + 1 = 29 := by decide +kernel
theorem D_S_pour_29 : decode prog_1_method_33_code 29 = .ok (.istore_n 3, 1) ∧ 29 + 1 = 30 := by decide +kernel
theorem D_S_pour_30 : decode prog_1_method_33_code 30 = .ok (.iconst 0, 1) ∧ 30 + 1 = 31 := by decide +kernel
theorem D_S_pour_31 : decode prog_1_method_33_code 31 = .ok (.istore 4, 2) ∧ 31 + 2 = 33 := by decide +kernel
theorem D_S_pour_33 : decode prog_1_method_33_code 33 = .ok (.iload 4, 2) ∧ 33 + 2 = 35 := by decide +kernel
theorem D_S_pour_35 : decode prog_1_method_33_code 35 = .ok (.bipush 6, 2) ∧ 35 + 2 = 37 := by decide +kernel
theorem D_S_pour_37 : decode prog_1_method_33_code 37 = .ok (.if_icmp .ge 81, 3) ∧ ((37 : Nat) : Int) + 81 = ((118 : Nat) : Int) ∧ 37 + 3 = 40 := by decide +kernel
theorem D_S_pour_40 : decode prog_1_method_33_code 40 = .ok (.iload 4, 2) ∧ 40 + 2 = 42 := by decide +kernel
theorem D_S_pour_42 : decode prog_1_method_33_code 42 = .ok (.aload_n 2, 1) ∧ 42 + 1 = 43 := by decide +kernel
theorem D_S_pour_43 : decode prog_1_method_33_code 43 = .ok (.getfield 220, 3) ∧ 43 + 3 = 46 := by decide +kernel
theorem D_S_pour_46 : decode prog_1_method_33_code 46 = .ok (.if_icmp .ge 72, 3) ∧ ((46 : Nat) : Int) + 72 = ((118 : Nat) : Int) ∧ 46 + 3 = 49 := by decide +kernel
theorem D_S_pour_49 : decode prog_1_method_33_code 49 = .ok (.aload_n 2, 1) ∧ 49 + 1 = 50 := by decide +kernel
theorem D_S_pour_50 : decode prog_1_method_33_code 50 = .ok (.iload 4, 2) ∧ 50 + 2 = 52 := by decide +kernel
theorem D_S_pour_52 : decode prog_1_method_33_code 52 = .ok (.invokevirtual 226, 3) ∧ 52 + 3 = 55 := by decide +kernel
theorem D_S_pour_55 : decode prog_1_method_33_code 55 = .ok (.ifCond .eq 57, 3) ∧ ((55 : Nat) : Int) + 57 = ((112 : Nat) : Int) ∧ 55 + 3 = 58 := by decide +kernel
theorem D_S_pour_112 : decode prog_1_method_33_code 112 = .ok (.iinc 4 1, 3) ∧ 112 + 3 = 115 := by decide +kernel
theorem D_S_pour_115 : decode prog_1_method_33_code 115 = .ok (.goto (-82), 3) ∧ ((115 : Nat) : Int) + (-82) = ((33 : Nat) : Int) := by decide +kernel
theorem D_S_pour_58 : decode prog_1_method_33_code 58 = .ok (.iconst 1, 1) ∧ 58 + 1 = 59 := by decide +kernel
theorem D_S_pour_59 : decode prog_1_method_33_code 59 = .ok (.sipush 999, 3) ∧ 59 + 3 = 62 := by decide +kernel
theorem D_S_pour_62 : decode prog_1_method_33_code 62 = .ok (.aload_n 2, 1) ∧ 62 + 1 = 63 := by decide +kernel
theorem D_S_pour_63 : decode prog_1_method_33_code 63 = .ok (.getfield 222, 3) ∧ 63 + 3 = 66 := by decide +kernel
theorem D_S_pour_66 : decode prog_1_method_33_code 66 = .ok (.iload 4, 2) ∧ 66 + 2 = 68 := by decide +kernel
theorem D_S_pour_68 : decode prog_1_method_33_code 68 = .ok (.iaload, 1) ∧ 68 + 1 = 69 := by decide +kernel
theorem D_S_pour_69 : decode prog_1_method_33_code 69 = .ok (.invokestatic 138, 3) ∧ 69 + 3 = 72 := by decide +kernel
theorem D_S_pour_72 : decode prog_1_method_33_code 72 = .ok (.invokestatic 229, 3) ∧ 72 + 3 = 75 := by decide +kernel
theorem D_S_pour_75 : decode prog_1_method_33_code 75 = .ok (.istore 5, 2) ∧ 75 + 2 = 77 := by decide +kernel
theorem D_S_pour_77 : decode prog_1_method_33_code 77 = .ok (.iload_n 3, 1) ∧ 77 + 1 = 78 := by decide +kernel
theorem D_S_pour_78 : decode prog_1_method_33_code 78 = .ok (.iload 5, 2) ∧ 78 + 2 = 80 := by decide +kernel
theorem D_S_pour_80 : decode prog_1_method_33_code 80 = .ok (.aload_n 0, 1) ∧ 80 + 1 = 81 := by decide +kernel
theorem D_S_pour_81 : decode prog_1_method_33_code 81 = .ok (.getfield 52, 3) ∧ 81 + 3 = 84 := by decide +kernel
theorem D_S_pour_84 : decode prog_1_method_33_code 84 = .ok (.getfield 116, 3) ∧ 84 + 3 = 87 := by decide +kernel
theorem D_S_pour_87 : decode prog_1_method_33_code 87 = .ok (.iload 4, 2) ∧ 87 + 2 = 89 := by decide +kernel
theorem D_S_pour_89 : decode prog_1_method_33_code 89 = .ok (.iaload, 1) ∧ 89 + 1 = 90 := by decide +kernel
theorem D_S_pour_97 : decode prog_1_method_33_code 97 = .ok (.iconst 1, 1) ∧ 97 + 1 = 98 := by decide +kernel
theorem D_S_pour_93 : decode prog_1_method_33_code 93 = .ok (.iconst 0, 1) ∧ 93 + 1 = 94 := by decide +kernel
theorem D_S_pour_94 : decode prog_1_method_33_code 94 = .ok (.goto 4, 3) ∧ ((94 : Nat) : Int) + 4 = ((98 : Nat) : Int) := by decide +kernel
theorem D_S_pour_90 : decode prog_1_method_33_code 90 = .ok (.if_icmp .ne 7, 3) ∧ ((90 : Nat) : Int) + 7 = ((97 : Nat) : Int) ∧ 90 + 3 = 93 := by decide +kernel
theorem D_S_pour_98 : decode prog_1_method_33_code 98 = .ok (.iadd, 1) ∧ 98 + 1 = 99 := by decide +kernel
theorem D_S_pour_99 : decode prog_1_method_33_code 99 = .ok (.istore_n 3, 1) ∧ 99 + 1 = 100 := by decide +kernel
theorem D_S_pour_100 : decode prog_1_method_33_code 100 = .ok (.aload_n 0, 1) ∧ 100 + 1 = 101 := by decide +kernel
theorem D_S_pour_101 : decode prog_1_method_33_code 101 = .ok (.getfield 52, 3) ∧ 101 + 3 = 104 := by decide +kernel
theorem D_S_pour_104 : decode prog_1_method_33_code 104 = .ok (.getfield 116, 3) ∧ 104 + 3 = 107 := by decide +kernel
theorem D_S_pour_107 : decode prog_1_method_33_code 107 = .ok (.iload 4, 2) ∧ 107 + 2 = 109 := by decide +kernel
theorem D_S_pour_109 : decode prog_1_method_33_code 109 = .ok (.iload 5, 2) ∧ 109 + 2 = 111 := by decide +kernel
theorem D_S_pour_111 : decode prog_1_method_33_code 111 = .ok (.iastore, 1) ∧ 111 + 1 = 112 := by decide +kernel
theorem D_S_pour_118 : decode prog_1_method_33_code 118 = .ok (.iload_n 3, 1) ∧ 118 + 1 = 119 := by decide +kernel
theorem D_S_pour_119 : decode prog_1_method_33_code 119 = .ok (.ireturn, 1) := by decide +kernel
theorem D_S_pour_25 : decode prog_1_method_33_code 25 = .ok (.ldc 184, 2) ∧ 25 + 2 = 27 := by decide +kernel
theorem D_S_pour_27 : decode prog_1_method_33_code 27 = .ok (.ireturn, 1) := by decide +kernel
theorem D_S_pour_7 : decode prog_1_method_33_code 7 = .ok (.ldc 77, 2) ∧ 7 + 2 = 9 := by decide +kernel
theorem D_S_pour_9 : decode prog_1_method_33_code 9 = .ok (.ireturn, 1) := by decide +kernel
def f_S_pour_L33 (q2 : Nat) : Nat → Int32 → Int32 → Int32 → Mm → Option ((Int32 × Int32) × Mm)
  | 0, _, _, _, _ => none
  | n + 1, b1, b3, b4, mem => if 6 ≤ b4 then some ((b3, b4), mem) else if mem q2 1 ≤ b4 then some ((b3, b4), mem) else bp (f_H_hasNumber q2 b4 mem) fun r_52 => if r_52 = 0 then f_S_pour_L33 q2 n b1 b3 (b4 + 1) mem else if inb b4 24 = true then lt (if 1 < (if (mem (q2 + 1) (ix b4)) < 999 then mem (q2 + 1) (ix b4) else 999) then if (mem (q2 + 1) (ix b4)) < 999 then mem (q2 + 1) (ix b4) else 999 else 1) fun x_75 => if inb b4 6 = true then lt (b3 + (if x_75 = mem 43 (ix b4) then (0 : Int32) else 1)) fun x_99 => lt (mst mem 43 (ix b4) x_75) fun m_111 => f_S_pour_L33 q2 n b1 x_99 (b4 + 1) m_111 else none else none
def f_S_pour (N : Nat) (a1 : Int32) (mem : Mm) : Option (Int32 × Mm) := bp (f_S_isSheet a1) fun r_1 => if r_1 = 0 then some ((-1000000001), mem) else if inb a1 4 = true then if mem (68 + 2 * ix a1) 0 = (-1) then some ((-1000000011), mem) else bd (f_S_pour_L33 (68 + 2 * ix a1) N a1 0 0 mem) fun y_33 m_33 => some (y_33.1, m_33) else none
theorem L_S_pour_33 {X : Cx} {E : En} (S : Std X E prog_1_method_33_code R5 6 2) (q2 : Nat) (hq2 : isSht q2) : ∀ (n : Nat) (b1 : Int32) (b3 : Int32) (b4 : Int32) (mem : Mm) (z : Int32 × Int32) (m2 : Mm), f_S_pour_L33 q2 n b1 b3 b4 mem = some (z, m2) → J X E 6 118 [(0, .ref (eb E + 0)), (1, .int b1), (2, .ref (eb E + q2)), (3, .int z.1), (4, .int z.2)] [] SH m2 → J X E 6 33 [(0, .ref (eb E + 0)), (1, .int b1), (2, .ref (eb E + q2)), (3, .int b3), (4, .int b4)] [] SH mem := by
  intro n
  induction n with
  | zero =>
    intro b1 b3 b4 mem z m2 h hk; cases h
  | succ n ih =>
    intro b1 b3 b4 mem z m2 h hk
    rw [f_S_pour_L33] at h
    refine j_iload S D_S_pour_33 4 rfl ?_
    refine j_bipush S D_S_pour_35 cb_6 ?_
    refine j_icmp_ge S D_S_pour_37 (fun c_37 => ?_) (fun c_37 => ?_)
    · have h := ifT c_37 h
      cases h
      exact j_locals [0, 1, 2, 3, 4] rfl hk
    · have h := ifF c_37 h
      refine j_iload S D_S_pour_40 4 rfl ?_
      refine j_aload_n S D_S_pour_42 2 rfl rfl ?_
      refine j_getI S D_S_pour_43 fl_R5_220 (sh_sht hq2) rfl ?_
      refine j_icmp_ge S D_S_pour_46 (fun c_46 => ?_) (fun c_46 => ?_)
      · have h := ifT c_46 h
        cases h
        exact j_locals [0, 1, 2, 3, 4] rfl hk
      · have h := ifF c_46 h
        refine j_aload_n S D_S_pour_49 2 rfl rfl ?_
        refine j_iload S D_S_pour_50 4 rfl ?_
        obtain ⟨r_52, e_52, h⟩ := bpE h
        refine j_callVI (As := [.int b4]) S D_S_pour_52 mv_R5_226 (c_H_hasNumber (cxL X) E q2 hq2 b4 e_52) (by decide) (sh_sht hq2) rfl rfl rfl rfl (Nat.le_of_ble_eq_true rfl) ?_
        refine j_if_eq S D_S_pour_55 (fun c_55 => ?_) (fun c_55 => ?_)
        · have h := ifT c_55 h
          refine j_iinc S D_S_pour_112 4 rfl (congrArg (fun z => b4 + z) ci_1) (lv := [(4, .int (b4 + 1)), (0, .ref (eb E + 0)), (1, .int b1), (2, .ref (eb E + q2)), (3, .int b3)]) rfl (Nat.le_of_ble_eq_true rfl) ?_
          refine j_goto S D_S_pour_115 ?_
          refine j_locals [1, 2, 3, 4, 0] rfl (ih b1 b3 (b4 + 1) mem _ _ h hk)
        · have h := ifF c_55 h
          refine j_iconst S D_S_pour_58 ci_1 ?_
          refine j_sipush S D_S_pour_59 cs_999 ?_
          refine j_aload_n S D_S_pour_62 2 rfl rfl ?_
          refine j_getR S D_S_pour_63 fl_R5_222 (sh_sht hq2) rfl ?_
          refine j_iload S D_S_pour_66 4 rfl ?_
          obtain ⟨g_68, h⟩ := gdE h
          refine j_iald S D_S_pour_68 (sh_sht1 hq2) g_68 ?_
          refine j_mmin S D_S_pour_69 (by decide) mm_R5_138 (Nat.le_of_ble_eq_true rfl) ?_
          refine j_mmax S D_S_pour_72 (by decide) mm_R5_229 (Nat.le_of_ble_eq_true rfl) ?_
          obtain ⟨x_75, hx_75, h⟩ := ltE h
          refine j_nm hx_75 ?_
          refine j_istore S D_S_pour_75 (lv := [(5, .int x_75), (0, .ref (eb E + 0)), (1, .int b1), (2, .ref (eb E + q2)), (3, .int b3), (4, .int b4)]) rfl (Nat.le_of_ble_eq_true rfl) ?_
          refine j_iload_n S D_S_pour_77 4 rfl rfl ?_
          refine j_iload S D_S_pour_78 0 rfl ?_
          refine j_aload_n S D_S_pour_80 1 rfl rfl ?_
          refine j_getR S D_S_pour_81 fl_R5_52 sh_Sand rfl ?_
          refine j_getR S D_S_pour_84 fl_R5_116 sh_P38 rfl ?_
          refine j_iload S D_S_pour_87 5 rfl ?_
          obtain ⟨g_89, h⟩ := gdE h
          refine j_iald S D_S_pour_89 sh_43 g_89 ?_
          refine j_dia (P := J X E 6 98 [(5, .int x_75), (0, .ref (eb E + 0)), (1, .int b1), (2, .ref (eb E + q2)), (3, .int b3), (4, .int b4)] [.int (if x_75 = mem 43 (ix b4) then (0 : Int32) else 1), .int b3] SH mem) (fun hj => ?_) ?_
          · refine j_icmp_ne S D_S_pour_90 (fun c_90 => ?_) (fun c_90 => ?_)
            · refine j_iconst S D_S_pour_97 ci_1 ?_
              exact j_jnF hj c_90
            · refine j_iconst S D_S_pour_93 ci_0 ?_
              refine j_goto S D_S_pour_94 ?_
              exact j_jnT hj c_90
          refine j_iadd S D_S_pour_98 ?_
          obtain ⟨x_99, hx_99, h⟩ := ltE h
          refine j_nm hx_99 ?_
          refine j_istore_n S D_S_pour_99 (lv := [(3, .int x_99), (5, .int x_75), (0, .ref (eb E + 0)), (1, .int b1), (2, .ref (eb E + q2)), (4, .int b4)]) rfl ⟨rfl, (Nat.le_of_ble_eq_true rfl)⟩ ?_
          refine j_aload_n S D_S_pour_100 2 rfl rfl ?_
          refine j_getR S D_S_pour_101 fl_R5_52 sh_Sand rfl ?_
          refine j_getR S D_S_pour_104 fl_R5_116 sh_P38 rfl ?_
          refine j_iload S D_S_pour_107 5 rfl ?_
          refine j_iload S D_S_pour_109 1 rfl ?_
          obtain ⟨m_111, hm_111, h⟩ := ltE h
          refine j_iast S D_S_pour_111 sh_43 g_89 ?_
          refine j_mem hm_111 ?_
          refine j_iinc S D_S_pour_112 5 rfl (congrArg (fun z => b4 + z) ci_1) (lv := [(4, .int (b4 + 1)), (3, .int x_99), (5, .int x_75), (0, .ref (eb E + 0)), (1, .int b1), (2, .ref (eb E + q2))]) rfl (Nat.le_of_ble_eq_true rfl) ?_
          refine j_goto S D_S_pour_115 ?_
          refine j_locals [3, 4, 5, 1, 0] rfl (ih b1 x_99 (b4 + 1) m_111 _ _ h hk)
theorem c_S_pour (l : Launch) (E : En) (N : Nat) (a1 : Int32) {mem : Mm} {r : Int32} {m2 : Mm} (h : f_S_pour N a1 mem = some (r, m2)) : CtI l E 2 y_S_pour prog_1_method_33_code 6 (some .int) [.ref (eb E + 0), .int a1] SH mem r m2 := by
  refine mk_CtI ⟨by decide, (Nat.le_of_ble_eq_true rfl)⟩ (fun X S hl hR => ?_)
  have S : Std X E prog_1_method_33_code R5 6 2 := S
  show J X E 6 0 [(0, .ref (eb E + 0)), (1, .int a1)] [] SH mem
  unfold f_S_pour at h
  refine j_iload_n S D_S_pour_0 1 rfl rfl ?_
  obtain ⟨r_1, e_1, h⟩ := bpE h
  refine j_callSI (As := [.int a1]) S D_S_pour_1 ms_R5_178 (c_S_isSheet (cxL X) E a1 (mem := mem) e_1) (by decide) rfl rfl (Nat.le_of_ble_eq_true rfl) ?_
  refine j_if_ne S D_S_pour_4 (fun c_4 => ?_) (fun c_4 => ?_)
  · have h := ifF c_4 h
    refine j_aload_n S D_S_pour_10 0 rfl rfl ?_
    refine j_getR S D_S_pour_11 fl_R5_28 sh_Sand rfl ?_
    refine j_iload_n S D_S_pour_14 1 rfl rfl ?_
    obtain ⟨g_15, h⟩ := gdE h
    refine j_aald S D_S_pour_15 sh_4 rfl g_15 (el_sht g_15) ?_
    refine j_astore_n S D_S_pour_16 (lv := [(2, .ref (eb E + (68 + 2 * ix a1))), (0, .ref (eb E + 0)), (1, .int a1)]) rfl ⟨rfl, (Nat.le_of_ble_eq_true rfl)⟩ ?_
    refine j_aload_n S D_S_pour_17 0 rfl rfl ?_
    refine j_getI S D_S_pour_18 fl_R5_181 (sh_sht (ro_sht g_15)) rfl ?_
    refine j_iconst S D_S_pour_21 ci_m1 ?_
    refine j_icmp_ne S D_S_pour_22 (fun c_22 => ?_) (fun c_22 => ?_)
    · have h := ifF c_22 h
      refine j_iconst S D_S_pour_28 ci_0 ?_
      refine j_istore_n S D_S_pour_29 (lv := [(3, .int 0), (2, .ref (eb E + (68 + 2 * ix a1))), (0, .ref (eb E + 0)), (1, .int a1)]) rfl ⟨rfl, (Nat.le_of_ble_eq_true rfl)⟩ ?_
      refine j_iconst S D_S_pour_30 ci_0 ?_
      refine j_istore S D_S_pour_31 (lv := [(4, .int 0), (3, .int 0), (2, .ref (eb E + (68 + 2 * ix a1))), (0, .ref (eb E + 0)), (1, .int a1)]) rfl (Nat.le_of_ble_eq_true rfl) ?_
      refine j_locals [3, 4, 2, 1, 0] rfl ?_
      obtain ⟨y_33, m_33, e_33, h⟩ := bdE h
      refine L_S_pour_33 S (68 + 2 * ix a1) (ro_sht g_15) N a1 0 0 mem _ _ e_33 ?_
      refine j_iload_n S D_S_pour_118 3 rfl rfl ?_
      exact rtM hR h _ _ D_S_pour_119
    · have h := ifT c_22 h
      refine j_ldc S D_S_pour_25 co_R5_184 ?_
      exact rtM hR h _ _ D_S_pour_27
  · have h := ifT c_4 h
    refine j_ldc S D_S_pour_7 co_R5_77 ?_
    exact rtM hR h _ _ D_S_pour_9

def y_S_reads : MethodName := ⟨"SandPicture", "reads", "(I)I"⟩
theorem D_S_reads_0 : decode prog_1_method_34_code 0 = .ok (.iload_n 1, 1) ∧ 0 + 1 = 1 := by decide +kernel
theorem D_S_reads_1 : decode prog_1_method_34_code 1 = .ok (.invokestatic 178, 3) ∧ 1 + 3 = 4 := by decide +kernel
theorem D_S_reads_4 : decode prog_1_method_34_code 4 = .ok (.ifCond .ne 6, 3) ∧ ((4 : Nat) : Int) + 6 = ((10 : Nat) : Int) ∧ 4 + 3 = 7 := by decide +kernel
theorem D_S_reads_10 : decode prog_1_method_34_code 10 = .ok (.aload_n 0, 1) ∧ 10 + 1 = 11 := by decide +kernel
theorem D_S_reads_11 : decode prog_1_method_34_code 11 = .ok (.getfield 28, 3) ∧ 11 + 3 = 14 := by decide +kernel
theorem D_S_reads_14 : decode prog_1_method_34_code 14 = .ok (.iload_n 1, 1) ∧ 14 + 1 = 15 := by decide +kernel
theorem D_S_reads_15 : decode prog_1_method_34_code 15 = .ok (.aaload, 1) ∧ 15 + 1 = 16 := by decide +kernel
theorem D_S_reads_16 : decode prog_1_method_34_code 16 = .ok (.astore_n 2, 1) ∧ 16 + 1 = 17 := by decide +kernel
theorem D_S_reads_17 : decode prog_1_method_34_code 17 = .ok (.aload_n 2, 1) ∧ 17 + 1 = 18 := by decide +kernel
theorem D_S_reads_18 : decode prog_1_method_34_code 18 = .ok (.getfield 181, 3) ∧ 18 + 3 = 21 := by decide +kernel
theorem D_S_reads_21 : decode prog_1_method_34_code 21 = .ok (.iconst (-1), 1) ∧ 21 + 1 = 22 := by decide +kernel
theorem D_S_reads_22 : decode prog_1_method_34_code 22 = .ok (.if_icmp .ne 6, 3) ∧ ((22 : Nat) : Int) + 6 = ((28 : Nat) : Int) ∧ 22 + 3 = 25 := by decide +kernel
theorem D_S_reads_28 : decode prog_1_method_34_code 28 = .ok (.iconst 0, 1) ∧ 28 + 1 = 29 := by decide +kernel
theorem D_S_reads_29 : decode prog_1_method_34_code 29 = .ok (.istore_n 3, 1) ∧ 29 + 1 = 30 := by decide +kernel
theorem D_S_reads_30 : decode prog_1_method_34_code 30 = .ok (.iload_n 3, 1) ∧ 30 + 1 = 31 := by decide +kernel
theorem D_S_reads_31 : decode prog_1_method_34_code 31 = .ok (.aload_n 2, 1) ∧ 31 + 1 = 32 := by decide +kernel
theorem D_S_reads_32 : decode prog_1_method_34_code 32 = .ok (.getfield 220, 3) ∧ 32 + 3 = 35 := by decide +kernel
theorem D_S_reads_35 : decode prog_1_method_34_code 35 = .ok (.if_icmp .ge 43, 3) ∧ ((35 : Nat) : Int) + 43 = ((78 : Nat) : Int) ∧ 35 + 3 = 38 := by decide +kernel
theorem D_S_reads_78 : decode prog_1_method_34_code 78 = .ok (.ldc 174, 2) ∧ 78 + 2 = 80 := by decide +kernel
theorem D_S_reads_80 : decode prog_1_method_34_code 80 = .ok (.ireturn, 1) := by decide +kernel
theorem D_S_reads_38 : decode prog_1_method_34_code 38 = .ok (.aload_n 2, 1) ∧ 38 + 1 = 39 := by decide +kernel
theorem D_S_reads_39 : decode prog_1_method_34_code 39 = .ok (.iload_n 3, 1) ∧ 39 + 1 = 40 := by decide +kernel
theorem D_S_reads_40 : decode prog_1_method_34_code 40 = .ok (.invokevirtual 226, 3) ∧ 40 + 3 = 43 := by decide +kernel
theorem D_S_reads_43 : decode prog_1_method_34_code 43 = .ok (.ifCond .eq 29, 3) ∧ ((43 : Nat) : Int) + 29 = ((72 : Nat) : Int) ∧ 43 + 3 = 46 := by decide +kernel
theorem D_S_reads_72 : decode prog_1_method_34_code 72 = .ok (.iinc 3 1, 3) ∧ 72 + 3 = 75 := by decide +kernel
theorem D_S_reads_75 : decode prog_1_method_34_code 75 = .ok (.goto (-45), 3) ∧ ((75 : Nat) : Int) + (-45) = ((30 : Nat) : Int) := by decide +kernel
theorem D_S_reads_46 : decode prog_1_method_34_code 46 = .ok (.iload_n 3, 1) ∧ 46 + 1 = 47 := by decide +kernel
theorem D_S_reads_47 : decode prog_1_method_34_code 47 = .ok (.bipush 6, 2) ∧ 47 + 2 = 49 := by decide +kernel
theorem D_S_reads_49 : decode prog_1_method_34_code 49 = .ok (.if_icmp .ge 21, 3) ∧ ((49 : Nat) : Int) + 21 = ((70 : Nat) : Int) ∧ 49 + 3 = 52 := by decide +kernel
theorem D_S_reads_70 : decode prog_1_method_34_code 70 = .ok (.iload_n 3, 1) ∧ 70 + 1 = 71 := by decide +kernel
theorem D_S_reads_71 : decode prog_1_method_34_code 71 = .ok (.ireturn, 1) := by decide +kernel
theorem D_S_reads_52 : decode prog_1_method_34_code 52 = .ok (.aload_n 2, 1) ∧ 52 + 1 = 53 := by decide +kernel
theorem D_S_reads_53 : decode prog_1_method_34_code 53 = .ok (.getfield 222, 3) ∧ 53 + 3 = 56 := by decide +kernel
theorem D_S_reads_56 : decode prog_1_method_34_code 56 = .ok (.iload_n 3, 1) ∧ 56 + 1 = 57 := by decide +kernel
theorem D_S_reads_57 : decode prog_1_method_34_code 57 = .ok (.iaload, 1) ∧ 57 + 1 = 58 := by decide +kernel
theorem D_S_reads_58 : decode prog_1_method_34_code 58 = .ok (.aload_n 0, 1) ∧ 58 + 1 = 59 := by decide +kernel
theorem D_S_reads_59 : decode prog_1_method_34_code 59 = .ok (.getfield 52, 3) ∧ 59 + 3 = 62 := by decide +kernel
theorem D_S_reads_62 : decode prog_1_method_34_code 62 = .ok (.getfield 119, 3) ∧ 62 + 3 = 65 := by decide +kernel
theorem D_S_reads_65 : decode prog_1_method_34_code 65 = .ok (.iload_n 3, 1) ∧ 65 + 1 = 66 := by decide +kernel
theorem D_S_reads_66 : decode prog_1_method_34_code 66 = .ok (.iaload, 1) ∧ 66 + 1 = 67 := by decide +kernel
theorem D_S_reads_67 : decode prog_1_method_34_code 67 = .ok (.if_icmp .eq 5, 3) ∧ ((67 : Nat) : Int) + 5 = ((72 : Nat) : Int) ∧ 67 + 3 = 70 := by decide +kernel
theorem D_S_reads_25 : decode prog_1_method_34_code 25 = .ok (.ldc 184, 2) ∧ 25 + 2 = 27 := by decide +kernel
theorem D_S_reads_27 : decode prog_1_method_34_code 27 = .ok (.ireturn, 1) := by decide +kernel
theorem D_S_reads_7 : decode prog_1_method_34_code 7 = .ok (.ldc 77, 2) ∧ 7 + 2 = 9 := by decide +kernel
theorem D_S_reads_9 : decode prog_1_method_34_code 9 = .ok (.ireturn, 1) := by decide +kernel
def f_S_reads_L30 (q2 : Nat) : Nat → Int32 → Int32 → Mm → Option Int32
  | 0, _, _, _ => none
  | n + 1, b1, b3, mem => if mem q2 1 ≤ b3 then some (-1000000005) else bp (f_H_hasNumber q2 b3 mem) fun r_40 => if r_40 = 0 then f_S_reads_L30 q2 n b1 (b3 + 1) mem else if 6 ≤ b3 then some b3 else if inb b3 24 = true then if inb b3 6 = true then if mem (q2 + 1) (ix b3) = mem 44 (ix b3) then f_S_reads_L30 q2 n b1 (b3 + 1) mem else some b3 else none else none
def f_S_reads (N : Nat) (a1 : Int32) (mem : Mm) : Option (Int32) := bp (f_S_isSheet a1) fun r_1 => if r_1 = 0 then some (-1000000001) else if inb a1 4 = true then if mem (68 + 2 * ix a1) 0 = (-1) then some (-1000000011) else f_S_reads_L30 (68 + 2 * ix a1) N a1 0 mem else none
theorem L_S_reads_30 {X : Cx} {E : En} (S : Std X E prog_1_method_34_code R5 4 2) (q2 : Nat) (hq2 : isSht q2) {r : Int32} {mem : Mm} (hR : RetI X E prog_1_method_34_code 4 SH r mem) : ∀ (n : Nat) (b1 : Int32) (b3 : Int32), f_S_reads_L30 q2 n b1 b3 mem = some r → J X E 4 30 [(0, .ref (eb E + 0)), (1, .int b1), (2, .ref (eb E + q2)), (3, .int b3)] [] SH mem := by
  intro n
  induction n with
  | zero =>
    intro b1 b3 h; cases h
  | succ n ih =>
    intro b1 b3 h
    rw [f_S_reads_L30] at h
    refine j_iload_n S D_S_reads_30 3 rfl rfl ?_
    refine j_aload_n S D_S_reads_31 2 rfl rfl ?_
    refine j_getI S D_S_reads_32 fl_R5_220 (sh_sht hq2) rfl ?_
    refine j_icmp_ge S D_S_reads_35 (fun c_35 => ?_) (fun c_35 => ?_)
    · have h := ifT c_35 h
      refine j_ldc S D_S_reads_78 co_R5_174 ?_
      exact rtI hR h _ _ D_S_reads_80
    · have h := ifF c_35 h
      refine j_aload_n S D_S_reads_38 2 rfl rfl ?_
      refine j_iload_n S D_S_reads_39 3 rfl rfl ?_
      obtain ⟨r_40, e_40, h⟩ := bpE h
      refine j_callVI (As := [.int b3]) S D_S_reads_40 mv_R5_226 (c_H_hasNumber (cxL X) E q2 hq2 b3 e_40) (by decide) (sh_sht hq2) rfl rfl rfl rfl (Nat.le_of_ble_eq_true rfl) ?_
      refine j_if_eq S D_S_reads_43 (fun c_43 => ?_) (fun c_43 => ?_)
      · have h := ifT c_43 h
        refine j_iinc S D_S_reads_72 3 rfl (congrArg (fun z => b3 + z) ci_1) (lv := [(3, .int (b3 + 1)), (0, .ref (eb E + 0)), (1, .int b1), (2, .ref (eb E + q2))]) rfl (Nat.le_of_ble_eq_true rfl) ?_
        refine j_goto S D_S_reads_75 ?_
        refine j_locals [1, 2, 3, 0] rfl (ih b1 (b3 + 1) h)
      · have h := ifF c_43 h
        refine j_iload_n S D_S_reads_46 3 rfl rfl ?_
        refine j_bipush S D_S_reads_47 cb_6 ?_
        refine j_icmp_ge S D_S_reads_49 (fun c_49 => ?_) (fun c_49 => ?_)
        · have h := ifT c_49 h
          refine j_iload_n S D_S_reads_70 3 rfl rfl ?_
          exact rtI hR h _ _ D_S_reads_71
        · have h := ifF c_49 h
          refine j_aload_n S D_S_reads_52 2 rfl rfl ?_
          refine j_getR S D_S_reads_53 fl_R5_222 (sh_sht hq2) rfl ?_
          refine j_iload_n S D_S_reads_56 3 rfl rfl ?_
          obtain ⟨g_57, h⟩ := gdE h
          refine j_iald S D_S_reads_57 (sh_sht1 hq2) g_57 ?_
          refine j_aload_n S D_S_reads_58 0 rfl rfl ?_
          refine j_getR S D_S_reads_59 fl_R5_52 sh_Sand rfl ?_
          refine j_getR S D_S_reads_62 fl_R5_119 sh_P38 rfl ?_
          refine j_iload_n S D_S_reads_65 3 rfl rfl ?_
          obtain ⟨g_66, h⟩ := gdE h
          refine j_iald S D_S_reads_66 sh_44 g_66 ?_
          refine j_icmp_eq S D_S_reads_67 (fun c_67 => ?_) (fun c_67 => ?_)
          · have h := ifT c_67 h
            refine j_iinc S D_S_reads_72 3 rfl (congrArg (fun z => b3 + z) ci_1) (lv := [(3, .int (b3 + 1)), (0, .ref (eb E + 0)), (1, .int b1), (2, .ref (eb E + q2))]) rfl (Nat.le_of_ble_eq_true rfl) ?_
            refine j_goto S D_S_reads_75 ?_
            refine j_locals [1, 2, 3, 0] rfl (ih b1 (b3 + 1) h)
          · have h := ifF c_67 h
            refine j_iload_n S D_S_reads_70 3 rfl rfl ?_
            exact rtI hR h _ _ D_S_reads_71
theorem c_S_reads (l : Launch) (E : En) (N : Nat) (a1 : Int32) {mem : Mm} {r : Int32} (h : f_S_reads N a1 mem = some r) : CtI l E 2 y_S_reads prog_1_method_34_code 4 (some .int) [.ref (eb E + 0), .int a1] SH mem r mem := by
  refine mk_CtI ⟨by decide, (Nat.le_of_ble_eq_true rfl)⟩ (fun X S hl hR => ?_)
  have S : Std X E prog_1_method_34_code R5 4 2 := S
  show J X E 4 0 [(0, .ref (eb E + 0)), (1, .int a1)] [] SH mem
  unfold f_S_reads at h
  refine j_iload_n S D_S_reads_0 1 rfl rfl ?_
  obtain ⟨r_1, e_1, h⟩ := bpE h
  refine j_callSI (As := [.int a1]) S D_S_reads_1 ms_R5_178 (c_S_isSheet (cxL X) E a1 (mem := mem) e_1) (by decide) rfl rfl (Nat.le_of_ble_eq_true rfl) ?_
  refine j_if_ne S D_S_reads_4 (fun c_4 => ?_) (fun c_4 => ?_)
  · have h := ifF c_4 h
    refine j_aload_n S D_S_reads_10 0 rfl rfl ?_
    refine j_getR S D_S_reads_11 fl_R5_28 sh_Sand rfl ?_
    refine j_iload_n S D_S_reads_14 1 rfl rfl ?_
    obtain ⟨g_15, h⟩ := gdE h
    refine j_aald S D_S_reads_15 sh_4 rfl g_15 (el_sht g_15) ?_
    refine j_astore_n S D_S_reads_16 (lv := [(2, .ref (eb E + (68 + 2 * ix a1))), (0, .ref (eb E + 0)), (1, .int a1)]) rfl ⟨rfl, (Nat.le_of_ble_eq_true rfl)⟩ ?_
    refine j_aload_n S D_S_reads_17 0 rfl rfl ?_
    refine j_getI S D_S_reads_18 fl_R5_181 (sh_sht (ro_sht g_15)) rfl ?_
    refine j_iconst S D_S_reads_21 ci_m1 ?_
    refine j_icmp_ne S D_S_reads_22 (fun c_22 => ?_) (fun c_22 => ?_)
    · have h := ifF c_22 h
      refine j_iconst S D_S_reads_28 ci_0 ?_
      refine j_istore_n S D_S_reads_29 (lv := [(3, .int 0), (2, .ref (eb E + (68 + 2 * ix a1))), (0, .ref (eb E + 0)), (1, .int a1)]) rfl ⟨rfl, (Nat.le_of_ble_eq_true rfl)⟩ ?_
      refine j_locals [2, 3, 1, 0] rfl ?_
      exact L_S_reads_30 S (68 + 2 * ix a1) (ro_sht g_15) hR N a1 0 h
    · have h := ifT c_22 h
      refine j_ldc S D_S_reads_25 co_R5_184 ?_
      exact rtI hR h _ _ D_S_reads_27
  · have h := ifT c_4 h
    refine j_ldc S D_S_reads_7 co_R5_77 ?_
    exact rtI hR h _ _ D_S_reads_9

def y_S_copy : MethodName := ⟨"SandPicture", "copy", "(IIIII)I"⟩
theorem D_S_copy_0 : decode prog_1_method_35_code 0 = .ok (.iload_n 1, 1) ∧ 0 + 1 = 1 := by decide +kernel
theorem D_S_copy_1 : decode prog_1_method_35_code 1 = .ok (.invokestatic 178, 3) ∧ 1 + 3 = 4 := by decide +kernel
theorem D_S_copy_4 : decode prog_1_method_35_code 4 = .ok (.ifCond .eq 10, 3) ∧ ((4 : Nat) : Int) + 10 = ((14 : Nat) : Int) ∧ 4 + 3 = 7 := by decide +kernel
theorem D_S_copy_14 : decode prog_1_method_35_code 14 = .ok (.ldc 77, 2) ∧ 14 + 2 = 16 := by decide +kernel
theorem D_S_copy_16 : decode prog_1_method_35_code 16 = .ok (.ireturn, 1) := by decide +kernel
theorem D_S_copy_7 : decode prog_1_method_35_code 7 = .ok (.iload_n 3, 1) ∧ 7 + 1 = 8 := by decide +kernel
theorem D_S_copy_8 : decode prog_1_method_35_code 8 = .ok (.invokestatic 178, 3) ∧ 8 + 3 = 11 := by decide +kernel
theorem D_S_copy_11 : decode prog_1_method_35_code 11 = .ok (.ifCond .ne 6, 3) ∧ ((11 : Nat) : Int) + 6 = ((17 : Nat) : Int) ∧ 11 + 3 = 14 := by decide +kernel
theorem D_S_copy_17 : decode prog_1_method_35_code 17 = .ok (.aload_n 0, 1) ∧ 17 + 1 = 18 := by decide +kernel
theorem D_S_copy_18 : decode prog_1_method_35_code 18 = .ok (.getfield 28, 3) ∧ 18 + 3 = 21 := by decide +kernel
theorem D_S_copy_21 : decode prog_1_method_35_code 21 = .ok (.iload_n 1, 1) ∧ 21 + 1 = 22 := by decide +kernel
theorem D_S_copy_22 : decode prog_1_method_35_code 22 = .ok (.aaload, 1) ∧ 22 + 1 = 23 := by decide +kernel
theorem D_S_copy_23 : decode prog_1_method_35_code 23 = .ok (.astore 6, 2) ∧ 23 + 2 = 25 := by decide +kernel
theorem D_S_copy_25 : decode prog_1_method_35_code 25 = .ok (.aload_n 0, 1) ∧ 25 + 1 = 26 := by decide +kernel
theorem D_S_copy_26 : decode prog_1_method_35_code 26 = .ok (.getfield 28, 3) ∧ 26 + 3 = 29 := by decide +kernel
theorem D_S_copy_29 : decode prog_1_method_35_code 29 = .ok (.iload_n 3, 1) ∧ 29 + 1 = 30 := by decide +kernel
theorem D_S_copy_30 : decode prog_1_method_35_code 30 = .ok (.aaload, 1) ∧ 30 + 1 = 31 := by decide +kernel
theorem D_S_copy_31 : decode prog_1_method_35_code 31 = .ok (.astore 7, 2) ∧ 31 + 2 = 33 := by decide +kernel
theorem D_S_copy_33 : decode prog_1_method_35_code 33 = .ok (.aload 6, 2) ∧ 33 + 2 = 35 := by decide +kernel
theorem D_S_copy_35 : decode prog_1_method_35_code 35 = .ok (.getfield 181, 3) ∧ 35 + 3 = 38 := by decide +kernel
theorem D_S_copy_38 : decode prog_1_method_35_code 38 = .ok (.iconst (-1), 1) ∧ 38 + 1 = 39 := by decide +kernel
theorem D_S_copy_39 : decode prog_1_method_35_code 39 = .ok (.if_icmp .eq 12, 3) ∧ ((39 : Nat) : Int) + 12 = ((51 : Nat) : Int) ∧ 39 + 3 = 42 := by decide +kernel
theorem D_S_copy_51 : decode prog_1_method_35_code 51 = .ok (.ldc 184, 2) ∧ 51 + 2 = 53 := by decide +kernel
theorem D_S_copy_53 : decode prog_1_method_35_code 53 = .ok (.ireturn, 1) := by decide +kernel
theorem D_S_copy_42 : decode prog_1_method_35_code 42 = .ok (.aload 7, 2) ∧ 42 + 2 = 44 := by decide +kernel
theorem D_S_copy_44 : decode prog_1_method_35_code 44 = .ok (.getfield 181, 3) ∧ 44 + 3 = 47 := by decide +kernel
theorem D_S_copy_47 : decode prog_1_method_35_code 47 = .ok (.iconst (-1), 1) ∧ 47 + 1 = 48 := by decide +kernel
theorem D_S_copy_48 : decode prog_1_method_35_code 48 = .ok (.if_icmp .ne 6, 3) ∧ ((48 : Nat) : Int) + 6 = ((54 : Nat) : Int) ∧ 48 + 3 = 51 := by decide +kernel
theorem D_S_copy_54 : decode prog_1_method_35_code 54 = .ok (.aload 6, 2) ∧ 54 + 2 = 56 := by decide +kernel
theorem D_S_copy_56 : decode prog_1_method_35_code 56 = .ok (.getfield 181, 3) ∧ 56 + 3 = 59 := by decide +kernel
theorem D_S_copy_59 : decode prog_1_method_35_code 59 = .ok (.aload 7, 2) ∧ 59 + 2 = 61 := by decide +kernel
theorem D_S_copy_61 : decode prog_1_method_35_code 61 = .ok (.getfield 181, 3) ∧ 61 + 3 = 64 := by decide +kernel
theorem D_S_copy_64 : decode prog_1_method_35_code 64 = .ok (.if_icmp .eq 6, 3) ∧ ((64 : Nat) : Int) + 6 = ((70 : Nat) : Int) ∧ 64 + 3 = 67 := by decide +kernel
theorem D_S_copy_70 : decode prog_1_method_35_code 70 = .ok (.aload 6, 2) ∧ 70 + 2 = 72 := by decide +kernel
theorem D_S_copy_72 : decode prog_1_method_35_code 72 = .ok (.iload_n 2, 1) ∧ 72 + 1 = 73 := by decide +kernel
theorem D_S_copy_73 : decode prog_1_method_35_code 73 = .ok (.iload 5, 2) ∧ 73 + 2 = 75 := by decide +kernel
theorem D_S_copy_75 : decode prog_1_method_35_code 75 = .ok (.invokevirtual 232, 3) ∧ 75 + 3 = 78 := by decide +kernel
theorem D_S_copy_78 : decode prog_1_method_35_code 78 = .ok (.ifCond .eq 15, 3) ∧ ((78 : Nat) : Int) + 15 = ((93 : Nat) : Int) ∧ 78 + 3 = 81 := by decide +kernel
theorem D_S_copy_93 : decode prog_1_method_35_code 93 = .ok (.ldc 221, 2) ∧ 93 + 2 = 95 := by decide +kernel
theorem D_S_copy_95 : decode prog_1_method_35_code 95 = .ok (.ireturn, 1) := by decide +kernel
theorem D_S_copy_81 : decode prog_1_method_35_code 81 = .ok (.aload 7, 2) ∧ 81 + 2 = 83 := by decide +kernel
theorem D_S_copy_83 : decode prog_1_method_35_code 83 = .ok (.iload 4, 2) ∧ 83 + 2 = 85 := by decide +kernel
theorem D_S_copy_85 : decode prog_1_method_35_code 85 = .ok (.iload 5, 2) ∧ 85 + 2 = 87 := by decide +kernel
theorem D_S_copy_87 : decode prog_1_method_35_code 87 = .ok (.invokevirtual 232, 3) ∧ 87 + 3 = 90 := by decide +kernel
theorem D_S_copy_90 : decode prog_1_method_35_code 90 = .ok (.ifCond .ne 6, 3) ∧ ((90 : Nat) : Int) + 6 = ((96 : Nat) : Int) ∧ 90 + 3 = 93 := by decide +kernel
theorem D_S_copy_96 : decode prog_1_method_35_code 96 = .ok (.aload 6, 2) ∧ 96 + 2 = 98 := by decide +kernel
theorem D_S_copy_98 : decode prog_1_method_35_code 98 = .ok (.getfield 222, 3) ∧ 98 + 3 = 101 := by decide +kernel
theorem D_S_copy_101 : decode prog_1_method_35_code 101 = .ok (.iload_n 2, 1) ∧ 101 + 1 = 102 := by decide +kernel
theorem D_S_copy_102 : decode prog_1_method_35_code 102 = .ok (.aload 7, 2) ∧ 102 + 2 = 104 := by decide +kernel
theorem D_S_copy_104 : decode prog_1_method_35_code 104 = .ok (.getfield 222, 3) ∧ 104 + 3 = 107 := by decide +kernel
theorem D_S_copy_107 : decode prog_1_method_35_code 107 = .ok (.iload 4, 2) ∧ 107 + 2 = 109 := by decide +kernel
theorem D_S_copy_109 : decode prog_1_method_35_code 109 = .ok (.iload 5, 2) ∧ 109 + 2 = 111 := by decide +kernel
theorem D_S_copy_111 : decode prog_1_method_35_code 111 = .ok (.invokestatic 235, 3) ∧ 111 + 3 = 114 := by decide +kernel
theorem D_S_copy_114 : decode prog_1_method_35_code 114 = .ok (.iload 5, 2) ∧ 114 + 2 = 116 := by decide +kernel
theorem D_S_copy_116 : decode prog_1_method_35_code 116 = .ok (.ireturn, 1) := by decide +kernel
theorem D_S_copy_67 : decode prog_1_method_35_code 67 = .ok (.ldc 115, 2) ∧ 67 + 2 = 69 := by decide +kernel
theorem D_S_copy_69 : decode prog_1_method_35_code 69 = .ok (.ireturn, 1) := by decide +kernel
def f_S_copy (a1 : Int32) (a2 : Int32) (a3 : Int32) (a4 : Int32) (a5 : Int32) (mem : Mm) : Option (Int32 × Mm) := bp (f_S_isSheet a1) fun r_1 => if r_1 = 0 then some ((-1000000001), mem) else bp (f_S_isSheet a3) fun r_8 => if r_8 = 0 then some ((-1000000001), mem) else if inb a1 4 = true then if inb a3 4 = true then if mem (68 + 2 * ix a1) 0 = (-1) then some ((-1000000011), mem) else if mem (68 + 2 * ix a3) 0 = (-1) then some ((-1000000011), mem) else if mem (68 + 2 * ix a1) 0 = mem (68 + 2 * ix a3) 0 then bp (f_H_hasStretch (68 + 2 * ix a1) a2 a5 mem) fun r_75 => if r_75 = 0 then some ((-1000000013), mem) else bp (f_H_hasStretch (68 + 2 * ix a3) a4 a5 mem) fun r_87 => if r_87 = 0 then some ((-1000000013), mem) else if 0 ≤ a5 then if cpok a2 a5 24 = true then if cpok a4 a5 24 = true then lt (va_up mem ((68 + 2 * ix a3) + 1) (va_cpy (mem ((68 + 2 * ix a1) + 1)) (mem ((68 + 2 * ix a3) + 1)) (ix a2) (ix a4) (ix a5))) fun m_111 => some (a5, m_111) else none else none else none else some ((-1000000012), mem) else none else none
theorem c_S_copy (l : Launch) (E : En) (a1 : Int32) (a2 : Int32) (a3 : Int32) (a4 : Int32) (a5 : Int32) {mem : Mm} {r : Int32} {m2 : Mm} (h : f_S_copy a1 a2 a3 a4 a5 mem = some (r, m2)) : CtI l E 2 y_S_copy prog_1_method_35_code 8 (some .int) [.ref (eb E + 0), .int a1, .int a2, .int a3, .int a4, .int a5] SH mem r m2 := by
  refine mk_CtI ⟨by decide, (Nat.le_of_ble_eq_true rfl)⟩ (fun X S hl hR => ?_)
  have S : Std X E prog_1_method_35_code R5 8 2 := S
  show J X E 8 0 [(0, .ref (eb E + 0)), (1, .int a1), (2, .int a2), (3, .int a3), (4, .int a4), (5, .int a5)] [] SH mem
  unfold f_S_copy at h
  refine j_iload_n S D_S_copy_0 1 rfl rfl ?_
  obtain ⟨r_1, e_1, h⟩ := bpE h
  refine j_callSI (As := [.int a1]) S D_S_copy_1 ms_R5_178 (c_S_isSheet (cxL X) E a1 (mem := mem) e_1) (by decide) rfl rfl (Nat.le_of_ble_eq_true rfl) ?_
  refine j_if_eq S D_S_copy_4 (fun c_4 => ?_) (fun c_4 => ?_)
  · have h := ifT c_4 h
    refine j_ldc S D_S_copy_14 co_R5_77 ?_
    exact rtM hR h _ _ D_S_copy_16
  · have h := ifF c_4 h
    refine j_iload_n S D_S_copy_7 3 rfl rfl ?_
    obtain ⟨r_8, e_8, h⟩ := bpE h
    refine j_callSI (As := [.int a3]) S D_S_copy_8 ms_R5_178 (c_S_isSheet (cxL X) E a3 (mem := mem) e_8) (by decide) rfl rfl (Nat.le_of_ble_eq_true rfl) ?_
    refine j_if_ne S D_S_copy_11 (fun c_11 => ?_) (fun c_11 => ?_)
    · have h := ifF c_11 h
      refine j_aload_n S D_S_copy_17 0 rfl rfl ?_
      refine j_getR S D_S_copy_18 fl_R5_28 sh_Sand rfl ?_
      refine j_iload_n S D_S_copy_21 1 rfl rfl ?_
      obtain ⟨g_22, h⟩ := gdE h
      refine j_aald S D_S_copy_22 sh_4 rfl g_22 (el_sht g_22) ?_
      refine j_astore S D_S_copy_23 (lv := [(6, .ref (eb E + (68 + 2 * ix a1))), (0, .ref (eb E + 0)), (1, .int a1), (2, .int a2), (3, .int a3), (4, .int a4), (5, .int a5)]) rfl (Nat.le_of_ble_eq_true rfl) ?_
      refine j_aload_n S D_S_copy_25 1 rfl rfl ?_
      refine j_getR S D_S_copy_26 fl_R5_28 sh_Sand rfl ?_
      refine j_iload_n S D_S_copy_29 4 rfl rfl ?_
      obtain ⟨g_30, h⟩ := gdE h
      refine j_aald S D_S_copy_30 sh_4 rfl g_30 (el_sht g_30) ?_
      refine j_astore S D_S_copy_31 (lv := [(7, .ref (eb E + (68 + 2 * ix a3))), (6, .ref (eb E + (68 + 2 * ix a1))), (0, .ref (eb E + 0)), (1, .int a1), (2, .int a2), (3, .int a3), (4, .int a4), (5, .int a5)]) rfl (Nat.le_of_ble_eq_true rfl) ?_
      refine j_aload S D_S_copy_33 1 rfl ?_
      refine j_getI S D_S_copy_35 fl_R5_181 (sh_sht (ro_sht g_22)) rfl ?_
      refine j_iconst S D_S_copy_38 ci_m1 ?_
      refine j_icmp_eq S D_S_copy_39 (fun c_39 => ?_) (fun c_39 => ?_)
      · have h := ifT c_39 h
        refine j_ldc S D_S_copy_51 co_R5_184 ?_
        exact rtM hR h _ _ D_S_copy_53
      · have h := ifF c_39 h
        refine j_aload S D_S_copy_42 0 rfl ?_
        refine j_getI S D_S_copy_44 fl_R5_181 (sh_sht (ro_sht g_30)) rfl ?_
        refine j_iconst S D_S_copy_47 ci_m1 ?_
        refine j_icmp_ne S D_S_copy_48 (fun c_48 => ?_) (fun c_48 => ?_)
        · have h := ifF c_48 h
          refine j_aload S D_S_copy_54 1 rfl ?_
          refine j_getI S D_S_copy_56 fl_R5_181 (sh_sht (ro_sht g_22)) rfl ?_
          refine j_aload S D_S_copy_59 0 rfl ?_
          refine j_getI S D_S_copy_61 fl_R5_181 (sh_sht (ro_sht g_30)) rfl ?_
          refine j_icmp_eq S D_S_copy_64 (fun c_64 => ?_) (fun c_64 => ?_)
          · have h := ifT c_64 h
            refine j_aload S D_S_copy_70 1 rfl ?_
            refine j_iload_n S D_S_copy_72 4 rfl rfl ?_
            refine j_iload S D_S_copy_73 7 rfl ?_
            obtain ⟨r_75, e_75, h⟩ := bpE h
            refine j_callVI (As := [.int a2, .int a5]) S D_S_copy_75 mv_R5_232 (c_H_hasStretch (cxL X) E (68 + 2 * ix a1) (ro_sht g_22) a2 a5 e_75) (by decide) (sh_sht (ro_sht g_22)) rfl rfl rfl rfl (Nat.le_of_ble_eq_true rfl) ?_
            refine j_if_eq S D_S_copy_78 (fun c_78 => ?_) (fun c_78 => ?_)
            · have h := ifT c_78 h
              refine j_ldc S D_S_copy_93 co_R5_221 ?_
              exact rtM hR h _ _ D_S_copy_95
            · have h := ifF c_78 h
              refine j_aload S D_S_copy_81 0 rfl ?_
              refine j_iload S D_S_copy_83 6 rfl ?_
              refine j_iload S D_S_copy_85 7 rfl ?_
              obtain ⟨r_87, e_87, h⟩ := bpE h
              refine j_callVI (As := [.int a4, .int a5]) S D_S_copy_87 mv_R5_232 (c_H_hasStretch (cxL X) E (68 + 2 * ix a3) (ro_sht g_30) a4 a5 e_87) (by decide) (sh_sht (ro_sht g_30)) rfl rfl rfl rfl (Nat.le_of_ble_eq_true rfl) ?_
              refine j_if_ne S D_S_copy_90 (fun c_90 => ?_) (fun c_90 => ?_)
              · have h := ifF c_90 h
                refine j_aload S D_S_copy_96 1 rfl ?_
                refine j_getR S D_S_copy_98 fl_R5_222 (sh_sht (ro_sht g_22)) rfl ?_
                refine j_iload_n S D_S_copy_101 4 rfl rfl ?_
                refine j_aload S D_S_copy_102 0 rfl ?_
                refine j_getR S D_S_copy_104 fl_R5_222 (sh_sht (ro_sht g_30)) rfl ?_
                refine j_iload S D_S_copy_107 6 rfl ?_
                refine j_iload S D_S_copy_109 7 rfl ?_
                obtain ⟨g_111, h⟩ := gdE h
                obtain ⟨g_111_2, h⟩ := gdE h
                obtain ⟨g_111_3, h⟩ := gdE h
                obtain ⟨m_111, hm_111, h⟩ := ltE h
                refine j_copy S D_S_copy_111 (by decide) ac_R5_235 (Nat.le_of_ble_eq_true rfl) (sh_sht1 (ro_sht g_22)) (sh_sht1 (ro_sht g_30)) g_111 g_111_2 g_111_3 ?_
                refine j_mem hm_111 ?_
                refine j_iload S D_S_copy_114 7 rfl ?_
                exact rtM hR h _ _ D_S_copy_116
              · have h := ifT c_90 h
                refine j_ldc S D_S_copy_93 co_R5_221 ?_
                exact rtM hR h _ _ D_S_copy_95
          · have h := ifF c_64 h
            refine j_ldc S D_S_copy_67 co_R5_115 ?_
            exact rtM hR h _ _ D_S_copy_69
        · have h := ifT c_48 h
          refine j_ldc S D_S_copy_51 co_R5_184 ?_
          exact rtM hR h _ _ D_S_copy_53
    · have h := ifT c_11 h
      refine j_ldc S D_S_copy_14 co_R5_77 ?_
      exact rtM hR h _ _ D_S_copy_16

def y_S_isSlot : MethodName := ⟨"SandPicture", "isSlot", "(I)Z"⟩
theorem D_S_isSlot_0 : decode prog_1_method_49_code 0 = .ok (.iload_n 0, 1) ∧ 0 + 1 = 1 := by decide +kernel
theorem D_S_isSlot_1 : decode prog_1_method_49_code 1 = .ok (.iconst 0, 1) ∧ 1 + 1 = 2 := by decide +kernel
theorem D_S_isSlot_2 : decode prog_1_method_49_code 2 = .ok (.iconst 4, 1) ∧ 2 + 1 = 3 := by decide +kernel
theorem D_S_isSlot_3 : decode prog_1_method_49_code 3 = .ok (.invokestatic 70, 3) ∧ 3 + 3 = 6 := by decide +kernel
theorem D_S_isSlot_6 : decode prog_1_method_49_code 6 = .ok (.ireturn, 1) := by decide +kernel
def f_S_isSlot (a1 : Int32) : Option (Int32) := bp (f_S_within a1 0 4) fun r_3 => if isb r_3 = true then some r_3 else none
theorem c_S_isSlot (l : Launch) (E : En) (a1 : Int32) {mem : Mm} {r : Int32} (h : f_S_isSlot a1 = some r) : CtI l E 1 y_S_isSlot prog_1_method_49_code 1 (some .boolean) [.int a1] SH mem r mem := by
  refine mk_CtZ ⟨by decide, (Nat.le_of_ble_eq_true rfl)⟩ (fun X S hl hR => ?_)
  have S : Std X E prog_1_method_49_code R5 1 1 := S
  show J X E 1 0 [(0, .int a1)] [] SH mem
  unfold f_S_isSlot at h
  refine j_iload_n S D_S_isSlot_0 0 rfl rfl ?_
  refine j_iconst S D_S_isSlot_1 ci_0 ?_
  refine j_iconst S D_S_isSlot_2 ci_4 ?_
  obtain ⟨r_3, e_3, h⟩ := bpE h
  refine j_callSI (As := [.int a1, .int 0, .int 4]) S D_S_isSlot_3 ms_R5_70 (c_S_within (cxL X) E a1 0 4 (mem := mem) e_3) (by decide) rfl rfl (Nat.le_of_ble_eq_true rfl) ?_
  obtain ⟨z_6, h⟩ := gdE h
  exact rtIZ hR h z_6 _ _ D_S_isSlot_6

def y_S_lay : MethodName := ⟨"SandPicture", "lay", "(III)I"⟩
theorem D_S_lay_0 : decode prog_1_method_36_code 0 = .ok (.iload_n 1, 1) ∧ 0 + 1 = 1 := by decide +kernel
theorem D_S_lay_1 : decode prog_1_method_36_code 1 = .ok (.invokestatic 241, 3) ∧ 1 + 3 = 4 := by decide +kernel
theorem D_S_lay_4 : decode prog_1_method_36_code 4 = .ok (.ifCond .eq 12, 3) ∧ ((4 : Nat) : Int) + 12 = ((16 : Nat) : Int) ∧ 4 + 3 = 7 := by decide +kernel
theorem D_S_lay_16 : decode prog_1_method_36_code 16 = .ok (.ldc 77, 2) ∧ 16 + 2 = 18 := by decide +kernel
theorem D_S_lay_18 : decode prog_1_method_36_code 18 = .ok (.ireturn, 1) := by decide +kernel
theorem D_S_lay_7 : decode prog_1_method_36_code 7 = .ok (.iload_n 2, 1) ∧ 7 + 1 = 8 := by decide +kernel
theorem D_S_lay_8 : decode prog_1_method_36_code 8 = .ok (.iconst 0, 1) ∧ 8 + 1 = 9 := by decide +kernel
theorem D_S_lay_9 : decode prog_1_method_36_code 9 = .ok (.iconst 3, 1) ∧ 9 + 1 = 10 := by decide +kernel
theorem D_S_lay_10 : decode prog_1_method_36_code 10 = .ok (.invokestatic 70, 3) ∧ 10 + 3 = 13 := by decide +kernel
theorem D_S_lay_13 : decode prog_1_method_36_code 13 = .ok (.ifCond .ne 6, 3) ∧ ((13 : Nat) : Int) + 6 = ((19 : Nat) : Int) ∧ 13 + 3 = 16 := by decide +kernel
theorem D_S_lay_19 : decode prog_1_method_36_code 19 = .ok (.iload_n 2, 1) ∧ 19 + 1 = 20 := by decide +kernel
theorem D_S_lay_20 : decode prog_1_method_36_code 20 = .ok (.iconst 1, 1) ∧ 20 + 1 = 21 := by decide +kernel
theorem D_S_lay_21 : decode prog_1_method_36_code 21 = .ok (.if_icmp .ne 11, 3) ∧ ((21 : Nat) : Int) + 11 = ((32 : Nat) : Int) ∧ 21 + 3 = 24 := by decide +kernel
theorem D_S_lay_32 : decode prog_1_method_36_code 32 = .ok (.iload_n 2, 1) ∧ 32 + 1 = 33 := by decide +kernel
theorem D_S_lay_33 : decode prog_1_method_36_code 33 = .ok (.iconst 2, 1) ∧ 33 + 1 = 34 := by decide +kernel
theorem D_S_lay_34 : decode prog_1_method_36_code 34 = .ok (.if_icmp .ne 13, 3) ∧ ((34 : Nat) : Int) + 13 = ((47 : Nat) : Int) ∧ 34 + 3 = 37 := by decide +kernel
theorem D_S_lay_47 : decode prog_1_method_36_code 47 = .ok (.iload_n 2, 1) ∧ 47 + 1 = 48 := by decide +kernel
theorem D_S_lay_48 : decode prog_1_method_36_code 48 = .ok (.iconst 2, 1) ∧ 48 + 1 = 49 := by decide +kernel
theorem D_S_lay_49 : decode prog_1_method_36_code 49 = .ok (.if_icmp .ne 19, 3) ∧ ((49 : Nat) : Int) + 19 = ((68 : Nat) : Int) ∧ 49 + 3 = 52 := by decide +kernel
theorem D_S_lay_68 : decode prog_1_method_36_code 68 = .ok (.aload_n 0, 1) ∧ 68 + 1 = 69 := by decide +kernel
theorem D_S_lay_69 : decode prog_1_method_36_code 69 = .ok (.getfield 34, 3) ∧ 69 + 3 = 72 := by decide +kernel
theorem D_S_lay_72 : decode prog_1_method_36_code 72 = .ok (.iload_n 1, 1) ∧ 72 + 1 = 73 := by decide +kernel
theorem D_S_lay_73 : decode prog_1_method_36_code 73 = .ok (.aaload, 1) ∧ 73 + 1 = 74 := by decide +kernel
theorem D_S_lay_74 : decode prog_1_method_36_code 74 = .ok (.astore 4, 2) ∧ 74 + 2 = 76 := by decide +kernel
theorem D_S_lay_76 : decode prog_1_method_36_code 76 = .ok (.aload 4, 2) ∧ 76 + 2 = 78 := by decide +kernel
theorem D_S_lay_78 : decode prog_1_method_36_code 78 = .ok (.getfield 244, 3) ∧ 78 + 3 = 81 := by decide +kernel
theorem D_S_lay_81 : decode prog_1_method_36_code 81 = .ok (.istore 5, 2) ∧ 81 + 2 = 83 := by decide +kernel
theorem D_S_lay_83 : decode prog_1_method_36_code 83 = .ok (.aload 4, 2) ∧ 83 + 2 = 85 := by decide +kernel
theorem D_S_lay_85 : decode prog_1_method_36_code 85 = .ok (.iload_n 2, 1) ∧ 85 + 1 = 86 := by decide +kernel
theorem D_S_lay_86 : decode prog_1_method_36_code 86 = .ok (.putfield 244, 3) ∧ 86 + 3 = 89 := by decide +kernel
theorem D_S_lay_89 : decode prog_1_method_36_code 89 = .ok (.iload_n 2, 1) ∧ 89 + 1 = 90 := by decide +kernel
theorem D_S_lay_90 : decode prog_1_method_36_code 90 = .ok (.iconst 1, 1) ∧ 90 + 1 = 91 := by decide +kernel
theorem D_S_lay_91 : decode prog_1_method_36_code 91 = .ok (.if_icmp .ne 34, 3) ∧ ((91 : Nat) : Int) + 34 = ((125 : Nat) : Int) ∧ 91 + 3 = 94 := by decide +kernel
theorem D_S_lay_125 : decode prog_1_method_36_code 125 = .ok (.iload_n 2, 1) ∧ 125 + 1 = 126 := by decide +kernel
theorem D_S_lay_126 : decode prog_1_method_36_code 126 = .ok (.iconst 2, 1) ∧ 126 + 1 = 127 := by decide +kernel
theorem D_S_lay_127 : decode prog_1_method_36_code 127 = .ok (.if_icmp .ne 20, 3) ∧ ((127 : Nat) : Int) + 20 = ((147 : Nat) : Int) ∧ 127 + 3 = 130 := by decide +kernel
theorem D_S_lay_147 : decode prog_1_method_36_code 147 = .ok (.iload_n 2, 1) ∧ 147 + 1 = 148 := by decide +kernel
theorem D_S_lay_148 : decode prog_1_method_36_code 148 = .ok (.iconst 3, 1) ∧ 148 + 1 = 149 := by decide +kernel
theorem D_S_lay_149 : decode prog_1_method_36_code 149 = .ok (.if_icmp .ne 9, 3) ∧ ((149 : Nat) : Int) + 9 = ((158 : Nat) : Int) ∧ 149 + 3 = 152 := by decide +kernel
theorem D_S_lay_158 : decode prog_1_method_36_code 158 = .ok (.iload 5, 2) ∧ 158 + 2 = 160 := by decide +kernel
theorem D_S_lay_160 : decode prog_1_method_36_code 160 = .ok (.ireturn, 1) := by decide +kernel
theorem D_S_lay_152 : decode prog_1_method_36_code 152 = .ok (.aload 4, 2) ∧ 152 + 2 = 154 := by decide +kernel
theorem D_S_lay_154 : decode prog_1_method_36_code 154 = .ok (.iload_n 3, 1) ∧ 154 + 1 = 155 := by decide +kernel
theorem D_S_lay_155 : decode prog_1_method_36_code 155 = .ok (.putfield 258, 3) ∧ 155 + 3 = 158 := by decide +kernel
theorem D_S_lay_130 : decode prog_1_method_36_code 130 = .ok (.aload 4, 2) ∧ 130 + 2 = 132 := by decide +kernel
theorem D_S_lay_132 : decode prog_1_method_36_code 132 = .ok (.getfield 251, 3) ∧ 132 + 3 = 135 := by decide +kernel
theorem D_S_lay_135 : decode prog_1_method_36_code 135 = .ok (.aload_n 0, 1) ∧ 135 + 1 = 136 := by decide +kernel
theorem D_S_lay_136 : decode prog_1_method_36_code 136 = .ok (.getfield 28, 3) ∧ 136 + 3 = 139 := by decide +kernel
theorem D_S_lay_139 : decode prog_1_method_36_code 139 = .ok (.iload_n 3, 1) ∧ 139 + 1 = 140 := by decide +kernel
theorem D_S_lay_140 : decode prog_1_method_36_code 140 = .ok (.aaload, 1) ∧ 140 + 1 = 141 := by decide +kernel
theorem D_S_lay_141 : decode prog_1_method_36_code 141 = .ok (.invokevirtual 255, 3) ∧ 141 + 3 = 144 := by decide +kernel
theorem D_S_lay_144 : decode prog_1_method_36_code 144 = .ok (.goto 14, 3) ∧ ((144 : Nat) : Int) + 14 = ((158 : Nat) : Int) := by decide +kernel
theorem D_S_lay_94 : decode prog_1_method_36_code 94 = .ok (.aload 4, 2) ∧ 94 + 2 = 96 := by decide +kernel
theorem D_S_lay_96 : decode prog_1_method_36_code 96 = .ok (.aload_n 0, 1) ∧ 96 + 1 = 97 := by decide +kernel
theorem D_S_lay_97 : decode prog_1_method_36_code 97 = .ok (.getfield 52, 3) ∧ 97 + 3 = 100 := by decide +kernel
theorem D_S_lay_100 : decode prog_1_method_36_code 100 = .ok (.getfield 89, 3) ∧ 100 + 3 = 103 := by decide +kernel
theorem D_S_lay_103 : decode prog_1_method_36_code 103 = .ok (.iload_n 3, 1) ∧ 103 + 1 = 104 := by decide +kernel
theorem D_S_lay_104 : decode prog_1_method_36_code 104 = .ok (.iaload, 1) ∧ 104 + 1 = 105 := by decide +kernel
theorem D_S_lay_105 : decode prog_1_method_36_code 105 = .ok (.putfield 247, 3) ∧ 105 + 3 = 108 := by decide +kernel
theorem D_S_lay_108 : decode prog_1_method_36_code 108 = .ok (.aload 4, 2) ∧ 108 + 2 = 110 := by decide +kernel
theorem D_S_lay_110 : decode prog_1_method_36_code 110 = .ok (.aload_n 0, 1) ∧ 110 + 1 = 111 := by decide +kernel
theorem D_S_lay_111 : decode prog_1_method_36_code 111 = .ok (.getfield 52, 3) ∧ 111 + 3 = 114 := by decide +kernel
theorem D_S_lay_114 : decode prog_1_method_36_code 114 = .ok (.getfield 92, 3) ∧ 114 + 3 = 117 := by decide +kernel
theorem D_S_lay_117 : decode prog_1_method_36_code 117 = .ok (.iload_n 3, 1) ∧ 117 + 1 = 118 := by decide +kernel
theorem D_S_lay_118 : decode prog_1_method_36_code 118 = .ok (.iaload, 1) ∧ 118 + 1 = 119 := by decide +kernel
theorem D_S_lay_119 : decode prog_1_method_36_code 119 = .ok (.putfield 249, 3) ∧ 119 + 3 = 122 := by decide +kernel
theorem D_S_lay_122 : decode prog_1_method_36_code 122 = .ok (.goto 36, 3) ∧ ((122 : Nat) : Int) + 36 = ((158 : Nat) : Int) := by decide +kernel
theorem D_S_lay_52 : decode prog_1_method_36_code 52 = .ok (.aload_n 0, 1) ∧ 52 + 1 = 53 := by decide +kernel
theorem D_S_lay_53 : decode prog_1_method_36_code 53 = .ok (.getfield 28, 3) ∧ 53 + 3 = 56 := by decide +kernel
theorem D_S_lay_56 : decode prog_1_method_36_code 56 = .ok (.iload_n 3, 1) ∧ 56 + 1 = 57 := by decide +kernel
theorem D_S_lay_57 : decode prog_1_method_36_code 57 = .ok (.aaload, 1) ∧ 57 + 1 = 58 := by decide +kernel
theorem D_S_lay_58 : decode prog_1_method_36_code 58 = .ok (.getfield 181, 3) ∧ 58 + 3 = 61 := by decide +kernel
theorem D_S_lay_61 : decode prog_1_method_36_code 61 = .ok (.iconst (-1), 1) ∧ 61 + 1 = 62 := by decide +kernel
theorem D_S_lay_62 : decode prog_1_method_36_code 62 = .ok (.if_icmp .ne 6, 3) ∧ ((62 : Nat) : Int) + 6 = ((68 : Nat) : Int) ∧ 62 + 3 = 65 := by decide +kernel
theorem D_S_lay_65 : decode prog_1_method_36_code 65 = .ok (.ldc 184, 2) ∧ 65 + 2 = 67 := by decide +kernel
theorem D_S_lay_67 : decode prog_1_method_36_code 67 = .ok (.ireturn, 1) := by decide +kernel
theorem D_S_lay_37 : decode prog_1_method_36_code 37 = .ok (.iload_n 3, 1) ∧ 37 + 1 = 38 := by decide +kernel
theorem D_S_lay_38 : decode prog_1_method_36_code 38 = .ok (.invokestatic 178, 3) ∧ 38 + 3 = 41 := by decide +kernel
theorem D_S_lay_41 : decode prog_1_method_36_code 41 = .ok (.ifCond .ne 6, 3) ∧ ((41 : Nat) : Int) + 6 = ((47 : Nat) : Int) ∧ 41 + 3 = 44 := by decide +kernel
theorem D_S_lay_44 : decode prog_1_method_36_code 44 = .ok (.ldc 77, 2) ∧ 44 + 2 = 46 := by decide +kernel
theorem D_S_lay_46 : decode prog_1_method_36_code 46 = .ok (.ireturn, 1) := by decide +kernel
theorem D_S_lay_24 : decode prog_1_method_36_code 24 = .ok (.aload_n 0, 1) ∧ 24 + 1 = 25 := by decide +kernel
theorem D_S_lay_25 : decode prog_1_method_36_code 25 = .ok (.iload_n 3, 1) ∧ 25 + 1 = 26 := by decide +kernel
theorem D_S_lay_26 : decode prog_1_method_36_code 26 = .ok (.invokevirtual 86, 3) ∧ 26 + 3 = 29 := by decide +kernel
theorem D_S_lay_29 : decode prog_1_method_36_code 29 = .ok (.ifCond .eq 15, 3) ∧ ((29 : Nat) : Int) + 15 = ((44 : Nat) : Int) ∧ 29 + 3 = 32 := by decide +kernel
def f_S_lay (a1 : Int32) (a2 : Int32) (a3 : Int32) (mem : Mm) : Option (Int32 × Mm) := bp (f_S_isSlot a1) fun r_1 => if r_1 = 0 then some ((-1000000001), mem) else bp (f_S_within a2 0 3) fun r_10 => if r_10 = 0 then some ((-1000000001), mem) else if a2 = 1 then bp (f_S_isMonk a3 mem) fun r_26 => if r_26 = 0 then some ((-1000000001), mem) else if a2 = 2 then bp (f_S_isSheet a3) fun r_38 => if r_38 = 0 then some ((-1000000001), mem) else if a2 = 2 then if inb a3 4 = true then if mem (68 + 2 * ix a3) 0 = (-1) then some ((-1000000011), mem) else if inb a1 5 = true then lt (mem (76 + 3 * ix a1) 0) fun x_81 => lt (mst mem (76 + 3 * ix a1) 0 a2) fun m_86 => if a2 = 1 then if inb a3 10 = true then lt (mst m_86 (76 + 3 * ix a1) 1 (m_86 40 (ix a3))) fun m_105 => lt (mst m_105 (76 + 3 * ix a1) 2 (m_105 41 (ix a3))) fun m_119 => some (x_81, m_119) else none else if a2 = 2 then bp (f_H_become ((76 + 3 * ix a1) + 1) (68 + 2 * ix a3) m_86) fun m_141 => some (x_81, m_141) else if a2 = 3 then lt (mst m_86 (76 + 3 * ix a1) 3 a3) fun m_155 => some (x_81, m_155) else some (x_81, m_86) else none else none else if inb a1 5 = true then lt (mem (76 + 3 * ix a1) 0) fun x_81 => lt (mst mem (76 + 3 * ix a1) 0 a2) fun m_86 => if a2 = 1 then if inb a3 10 = true then lt (mst m_86 (76 + 3 * ix a1) 1 (m_86 40 (ix a3))) fun m_105 => lt (mst m_105 (76 + 3 * ix a1) 2 (m_105 41 (ix a3))) fun m_119 => some (x_81, m_119) else none else if a2 = 2 then if inb a3 4 = true then bp (f_H_become ((76 + 3 * ix a1) + 1) (68 + 2 * ix a3) m_86) fun m_141 => some (x_81, m_141) else none else if a2 = 3 then lt (mst m_86 (76 + 3 * ix a1) 3 a3) fun m_155 => some (x_81, m_155) else some (x_81, m_86) else none else if a2 = 2 then if inb a3 4 = true then if mem (68 + 2 * ix a3) 0 = (-1) then some ((-1000000011), mem) else if inb a1 5 = true then lt (mem (76 + 3 * ix a1) 0) fun x_81 => lt (mst mem (76 + 3 * ix a1) 0 a2) fun m_86 => if a2 = 1 then if inb a3 10 = true then lt (mst m_86 (76 + 3 * ix a1) 1 (m_86 40 (ix a3))) fun m_105 => lt (mst m_105 (76 + 3 * ix a1) 2 (m_105 41 (ix a3))) fun m_119 => some (x_81, m_119) else none else if a2 = 2 then bp (f_H_become ((76 + 3 * ix a1) + 1) (68 + 2 * ix a3) m_86) fun m_141 => some (x_81, m_141) else if a2 = 3 then lt (mst m_86 (76 + 3 * ix a1) 3 a3) fun m_155 => some (x_81, m_155) else some (x_81, m_86) else none else none else if inb a1 5 = true then lt (mem (76 + 3 * ix a1) 0) fun x_81 => lt (mst mem (76 + 3 * ix a1) 0 a2) fun m_86 => if a2 = 1 then if inb a3 10 = true then lt (mst m_86 (76 + 3 * ix a1) 1 (m_86 40 (ix a3))) fun m_105 => lt (mst m_105 (76 + 3 * ix a1) 2 (m_105 41 (ix a3))) fun m_119 => some (x_81, m_119) else none else if a2 = 2 then if inb a3 4 = true then bp (f_H_become ((76 + 3 * ix a1) + 1) (68 + 2 * ix a3) m_86) fun m_141 => some (x_81, m_141) else none else if a2 = 3 then lt (mst m_86 (76 + 3 * ix a1) 3 a3) fun m_155 => some (x_81, m_155) else some (x_81, m_86) else none else if a2 = 2 then bp (f_S_isSheet a3) fun r_38 => if r_38 = 0 then some ((-1000000001), mem) else if a2 = 2 then if inb a3 4 = true then if mem (68 + 2 * ix a3) 0 = (-1) then some ((-1000000011), mem) else if inb a1 5 = true then lt (mem (76 + 3 * ix a1) 0) fun x_81 => lt (mst mem (76 + 3 * ix a1) 0 a2) fun m_86 => if a2 = 1 then if inb a3 10 = true then lt (mst m_86 (76 + 3 * ix a1) 1 (m_86 40 (ix a3))) fun m_105 => lt (mst m_105 (76 + 3 * ix a1) 2 (m_105 41 (ix a3))) fun m_119 => some (x_81, m_119) else none else if a2 = 2 then bp (f_H_become ((76 + 3 * ix a1) + 1) (68 + 2 * ix a3) m_86) fun m_141 => some (x_81, m_141) else if a2 = 3 then lt (mst m_86 (76 + 3 * ix a1) 3 a3) fun m_155 => some (x_81, m_155) else some (x_81, m_86) else none else none else if inb a1 5 = true then lt (mem (76 + 3 * ix a1) 0) fun x_81 => lt (mst mem (76 + 3 * ix a1) 0 a2) fun m_86 => if a2 = 1 then if inb a3 10 = true then lt (mst m_86 (76 + 3 * ix a1) 1 (m_86 40 (ix a3))) fun m_105 => lt (mst m_105 (76 + 3 * ix a1) 2 (m_105 41 (ix a3))) fun m_119 => some (x_81, m_119) else none else if a2 = 2 then if inb a3 4 = true then bp (f_H_become ((76 + 3 * ix a1) + 1) (68 + 2 * ix a3) m_86) fun m_141 => some (x_81, m_141) else none else if a2 = 3 then lt (mst m_86 (76 + 3 * ix a1) 3 a3) fun m_155 => some (x_81, m_155) else some (x_81, m_86) else none else if a2 = 2 then if inb a3 4 = true then if mem (68 + 2 * ix a3) 0 = (-1) then some ((-1000000011), mem) else if inb a1 5 = true then lt (mem (76 + 3 * ix a1) 0) fun x_81 => lt (mst mem (76 + 3 * ix a1) 0 a2) fun m_86 => if a2 = 1 then if inb a3 10 = true then lt (mst m_86 (76 + 3 * ix a1) 1 (m_86 40 (ix a3))) fun m_105 => lt (mst m_105 (76 + 3 * ix a1) 2 (m_105 41 (ix a3))) fun m_119 => some (x_81, m_119) else none else if a2 = 2 then bp (f_H_become ((76 + 3 * ix a1) + 1) (68 + 2 * ix a3) m_86) fun m_141 => some (x_81, m_141) else if a2 = 3 then lt (mst m_86 (76 + 3 * ix a1) 3 a3) fun m_155 => some (x_81, m_155) else some (x_81, m_86) else none else none else if inb a1 5 = true then lt (mem (76 + 3 * ix a1) 0) fun x_81 => lt (mst mem (76 + 3 * ix a1) 0 a2) fun m_86 => if a2 = 1 then if inb a3 10 = true then lt (mst m_86 (76 + 3 * ix a1) 1 (m_86 40 (ix a3))) fun m_105 => lt (mst m_105 (76 + 3 * ix a1) 2 (m_105 41 (ix a3))) fun m_119 => some (x_81, m_119) else none else if a2 = 2 then if inb a3 4 = true then bp (f_H_become ((76 + 3 * ix a1) + 1) (68 + 2 * ix a3) m_86) fun m_141 => some (x_81, m_141) else none else if a2 = 3 then lt (mst m_86 (76 + 3 * ix a1) 3 a3) fun m_155 => some (x_81, m_155) else some (x_81, m_86) else none
theorem c_S_lay (l : Launch) (E : En) (a1 : Int32) (a2 : Int32) (a3 : Int32) {mem : Mm} {r : Int32} {m2 : Mm} (h : f_S_lay a1 a2 a3 mem = some (r, m2)) : CtI l E 2 y_S_lay prog_1_method_36_code 6 (some .int) [.ref (eb E + 0), .int a1, .int a2, .int a3] SH mem r m2 := by
  refine mk_CtI ⟨by decide, (Nat.le_of_ble_eq_true rfl)⟩ (fun X S hl hR => ?_)
  have S : Std X E prog_1_method_36_code R5 6 2 := S
  show J X E 6 0 [(0, .ref (eb E + 0)), (1, .int a1), (2, .int a2), (3, .int a3)] [] SH mem
  unfold f_S_lay at h
  refine j_iload_n S D_S_lay_0 1 rfl rfl ?_
  obtain ⟨r_1, e_1, h⟩ := bpE h
  refine j_callSI (As := [.int a1]) S D_S_lay_1 ms_R5_241 (c_S_isSlot (cxL X) E a1 (mem := mem) e_1) (by decide) rfl rfl (Nat.le_of_ble_eq_true rfl) ?_
  refine j_if_eq S D_S_lay_4 (fun c_4 => ?_) (fun c_4 => ?_)
  · have h := ifT c_4 h
    refine j_ldc S D_S_lay_16 co_R5_77 ?_
    exact rtM hR h _ _ D_S_lay_18
  · have h := ifF c_4 h
    refine j_iload_n S D_S_lay_7 2 rfl rfl ?_
    refine j_iconst S D_S_lay_8 ci_0 ?_
    refine j_iconst S D_S_lay_9 ci_3 ?_
    obtain ⟨r_10, e_10, h⟩ := bpE h
    refine j_callSI (As := [.int a2, .int 0, .int 3]) S D_S_lay_10 ms_R5_70 (c_S_within (cxL X) E a2 0 3 (mem := mem) e_10) (by decide) rfl rfl (Nat.le_of_ble_eq_true rfl) ?_
    refine j_if_ne S D_S_lay_13 (fun c_13 => ?_) (fun c_13 => ?_)
    · have h := ifF c_13 h
      refine j_iload_n S D_S_lay_19 2 rfl rfl ?_
      refine j_iconst S D_S_lay_20 ci_1 ?_
      refine j_icmp_ne S D_S_lay_21 (fun c_21 => ?_) (fun c_21 => ?_)
      · have h := ifF c_21 h
        refine j_iload_n S D_S_lay_32 2 rfl rfl ?_
        refine j_iconst S D_S_lay_33 ci_2 ?_
        refine j_icmp_ne S D_S_lay_34 (fun c_34 => ?_) (fun c_34 => ?_)
        · have h := ifF c_34 h
          refine j_iload_n S D_S_lay_47 2 rfl rfl ?_
          refine j_iconst S D_S_lay_48 ci_2 ?_
          refine j_icmp_ne S D_S_lay_49 (fun c_49 => ?_) (fun c_49 => ?_)
          · have h := ifF c_49 h
            refine j_aload_n S D_S_lay_68 0 rfl rfl ?_
            refine j_getR S D_S_lay_69 fl_R5_34 sh_Sand rfl ?_
            refine j_iload_n S D_S_lay_72 1 rfl rfl ?_
            obtain ⟨g_73, h⟩ := gdE h
            refine j_aald S D_S_lay_73 sh_5 rfl g_73 (el_slt g_73) ?_
            refine j_astore S D_S_lay_74 (lv := [(4, .ref (eb E + (76 + 3 * ix a1))), (0, .ref (eb E + 0)), (1, .int a1), (2, .int a2), (3, .int a3)]) rfl (Nat.le_of_ble_eq_true rfl) ?_
            refine j_aload S D_S_lay_76 0 rfl ?_
            refine j_getI S D_S_lay_78 fl_R5_244 (sh_slt (ro_slt g_73)) rfl ?_
            obtain ⟨x_81, hx_81, h⟩ := ltE h
            refine j_nm hx_81 ?_
            refine j_istore S D_S_lay_81 (lv := [(5, .int x_81), (4, .ref (eb E + (76 + 3 * ix a1))), (0, .ref (eb E + 0)), (1, .int a1), (2, .int a2), (3, .int a3)]) rfl (Nat.le_of_ble_eq_true rfl) ?_
            refine j_aload S D_S_lay_83 1 rfl ?_
            refine j_iload_n S D_S_lay_85 4 rfl rfl ?_
            obtain ⟨m_86, hm_86, h⟩ := ltE h
            refine j_putI S D_S_lay_86 fp_R5_244 (sh_slt (ro_slt g_73)) rfl ?_
            refine j_mem hm_86 ?_
            refine j_iload_n S D_S_lay_89 4 rfl rfl ?_
            refine j_iconst S D_S_lay_90 ci_1 ?_
            refine j_icmp_ne S D_S_lay_91 (fun c_91 => ?_) (fun c_91 => ?_)
            · have h := ifF c_91 h
              refine j_iload_n S D_S_lay_125 4 rfl rfl ?_
              refine j_iconst S D_S_lay_126 ci_2 ?_
              refine j_icmp_ne S D_S_lay_127 (fun c_127 => ?_) (fun c_127 => ?_)
              · have h := ifF c_127 h
                refine j_iload_n S D_S_lay_147 4 rfl rfl ?_
                refine j_iconst S D_S_lay_148 ci_3 ?_
                refine j_icmp_ne S D_S_lay_149 (fun c_149 => ?_) (fun c_149 => ?_)
                · have h := ifF c_149 h
                  refine j_iload S D_S_lay_158 0 rfl ?_
                  exact rtM hR h _ _ D_S_lay_160
                · have h := ifT c_149 h
                  refine j_aload S D_S_lay_152 1 rfl ?_
                  refine j_iload_n S D_S_lay_154 5 rfl rfl ?_
                  obtain ⟨m_155, hm_155, h⟩ := ltE h
                  refine j_putI S D_S_lay_155 fp_R5_258 (sh_slt (ro_slt g_73)) rfl ?_
                  refine j_mem hm_155 ?_
                  refine j_iload S D_S_lay_158 0 rfl ?_
                  exact rtM hR h _ _ D_S_lay_160
              · have h := ifT c_127 h
                refine j_aload S D_S_lay_130 1 rfl ?_
                refine j_getR S D_S_lay_132 fl_R5_251 (sh_slt (ro_slt g_73)) rfl ?_
                refine j_aload_n S D_S_lay_135 2 rfl rfl ?_
                refine j_getR S D_S_lay_136 fl_R5_28 sh_Sand rfl ?_
                refine j_iload_n S D_S_lay_139 5 rfl rfl ?_
                obtain ⟨g_140, h⟩ := gdE h
                refine j_aald S D_S_lay_140 sh_4 rfl g_140 (el_sht g_140) ?_
                obtain ⟨m_141, e_141, h⟩ := bpE h
                refine j_callVV (As := [.ref (eb E + (68 + 2 * ix a3))]) S D_S_lay_141 mv_R5_255 (c_H_become (cxL X) E ((76 + 3 * ix a1) + 1) (ro_slsh (ro_slt g_73)) (68 + 2 * ix a3) (ro_sht g_140) e_141) (by decide) (sh_sht (ro_slsh (ro_slt g_73))) rfl rfl rfl rfl (Nat.le_of_ble_eq_true rfl) ?_
                refine j_goto S D_S_lay_144 ?_
                refine j_iload S D_S_lay_158 0 rfl ?_
                exact rtM hR h _ _ D_S_lay_160
            · have h := ifT c_91 h
              refine j_aload S D_S_lay_94 1 rfl ?_
              refine j_aload_n S D_S_lay_96 2 rfl rfl ?_
              refine j_getR S D_S_lay_97 fl_R5_52 sh_Sand rfl ?_
              refine j_getR S D_S_lay_100 fl_R5_89 sh_P38 rfl ?_
              refine j_iload_n S D_S_lay_103 5 rfl rfl ?_
              obtain ⟨g_104, h⟩ := gdE h
              refine j_iald S D_S_lay_104 sh_40 g_104 ?_
              obtain ⟨m_105, hm_105, h⟩ := ltE h
              refine j_putI S D_S_lay_105 fp_R5_247 (sh_slt (ro_slt g_73)) rfl ?_
              refine j_mem hm_105 ?_
              refine j_aload S D_S_lay_108 1 rfl ?_
              refine j_aload_n S D_S_lay_110 2 rfl rfl ?_
              refine j_getR S D_S_lay_111 fl_R5_52 sh_Sand rfl ?_
              refine j_getR S D_S_lay_114 fl_R5_92 sh_P38 rfl ?_
              refine j_iload_n S D_S_lay_117 5 rfl rfl ?_
              refine j_iald S D_S_lay_118 sh_41 g_104 ?_
              obtain ⟨m_119, hm_119, h⟩ := ltE h
              refine j_putI S D_S_lay_119 fp_R5_249 (sh_slt (ro_slt g_73)) rfl ?_
              refine j_mem hm_119 ?_
              refine j_goto S D_S_lay_122 ?_
              refine j_iload S D_S_lay_158 0 rfl ?_
              exact rtM hR h _ _ D_S_lay_160
          · have h := ifT c_49 h
            refine j_aload_n S D_S_lay_52 0 rfl rfl ?_
            refine j_getR S D_S_lay_53 fl_R5_28 sh_Sand rfl ?_
            refine j_iload_n S D_S_lay_56 3 rfl rfl ?_
            obtain ⟨g_57, h⟩ := gdE h
            refine j_aald S D_S_lay_57 sh_4 rfl g_57 (el_sht g_57) ?_
            refine j_getI S D_S_lay_58 fl_R5_181 (sh_sht (ro_sht g_57)) rfl ?_
            refine j_iconst S D_S_lay_61 ci_m1 ?_
            refine j_icmp_ne S D_S_lay_62 (fun c_62 => ?_) (fun c_62 => ?_)
            · have h := ifF c_62 h
              refine j_aload_n S D_S_lay_68 0 rfl rfl ?_
              refine j_getR S D_S_lay_69 fl_R5_34 sh_Sand rfl ?_
              refine j_iload_n S D_S_lay_72 1 rfl rfl ?_
              obtain ⟨g_73, h⟩ := gdE h
              refine j_aald S D_S_lay_73 sh_5 rfl g_73 (el_slt g_73) ?_
              refine j_astore S D_S_lay_74 (lv := [(4, .ref (eb E + (76 + 3 * ix a1))), (0, .ref (eb E + 0)), (1, .int a1), (2, .int a2), (3, .int a3)]) rfl (Nat.le_of_ble_eq_true rfl) ?_
              refine j_aload S D_S_lay_76 0 rfl ?_
              refine j_getI S D_S_lay_78 fl_R5_244 (sh_slt (ro_slt g_73)) rfl ?_
              obtain ⟨x_81, hx_81, h⟩ := ltE h
              refine j_nm hx_81 ?_
              refine j_istore S D_S_lay_81 (lv := [(5, .int x_81), (4, .ref (eb E + (76 + 3 * ix a1))), (0, .ref (eb E + 0)), (1, .int a1), (2, .int a2), (3, .int a3)]) rfl (Nat.le_of_ble_eq_true rfl) ?_
              refine j_aload S D_S_lay_83 1 rfl ?_
              refine j_iload_n S D_S_lay_85 4 rfl rfl ?_
              obtain ⟨m_86, hm_86, h⟩ := ltE h
              refine j_putI S D_S_lay_86 fp_R5_244 (sh_slt (ro_slt g_73)) rfl ?_
              refine j_mem hm_86 ?_
              refine j_iload_n S D_S_lay_89 4 rfl rfl ?_
              refine j_iconst S D_S_lay_90 ci_1 ?_
              refine j_icmp_ne S D_S_lay_91 (fun c_91 => ?_) (fun c_91 => ?_)
              · have h := ifF c_91 h
                refine j_iload_n S D_S_lay_125 4 rfl rfl ?_
                refine j_iconst S D_S_lay_126 ci_2 ?_
                refine j_icmp_ne S D_S_lay_127 (fun c_127 => ?_) (fun c_127 => ?_)
                · have h := ifF c_127 h
                  refine j_iload_n S D_S_lay_147 4 rfl rfl ?_
                  refine j_iconst S D_S_lay_148 ci_3 ?_
                  refine j_icmp_ne S D_S_lay_149 (fun c_149 => ?_) (fun c_149 => ?_)
                  · have h := ifF c_149 h
                    refine j_iload S D_S_lay_158 0 rfl ?_
                    exact rtM hR h _ _ D_S_lay_160
                  · have h := ifT c_149 h
                    refine j_aload S D_S_lay_152 1 rfl ?_
                    refine j_iload_n S D_S_lay_154 5 rfl rfl ?_
                    obtain ⟨m_155, hm_155, h⟩ := ltE h
                    refine j_putI S D_S_lay_155 fp_R5_258 (sh_slt (ro_slt g_73)) rfl ?_
                    refine j_mem hm_155 ?_
                    refine j_iload S D_S_lay_158 0 rfl ?_
                    exact rtM hR h _ _ D_S_lay_160
                · have h := ifT c_127 h
                  refine j_aload S D_S_lay_130 1 rfl ?_
                  refine j_getR S D_S_lay_132 fl_R5_251 (sh_slt (ro_slt g_73)) rfl ?_
                  refine j_aload_n S D_S_lay_135 2 rfl rfl ?_
                  refine j_getR S D_S_lay_136 fl_R5_28 sh_Sand rfl ?_
                  refine j_iload_n S D_S_lay_139 5 rfl rfl ?_
                  refine j_aald S D_S_lay_140 sh_4 rfl g_57 (el_sht g_57) ?_
                  obtain ⟨m_141, e_141, h⟩ := bpE h
                  refine j_callVV (As := [.ref (eb E + (68 + 2 * ix a3))]) S D_S_lay_141 mv_R5_255 (c_H_become (cxL X) E ((76 + 3 * ix a1) + 1) (ro_slsh (ro_slt g_73)) (68 + 2 * ix a3) (ro_sht g_57) e_141) (by decide) (sh_sht (ro_slsh (ro_slt g_73))) rfl rfl rfl rfl (Nat.le_of_ble_eq_true rfl) ?_
                  refine j_goto S D_S_lay_144 ?_
                  refine j_iload S D_S_lay_158 0 rfl ?_
                  exact rtM hR h _ _ D_S_lay_160
              · have h := ifT c_91 h
                refine j_aload S D_S_lay_94 1 rfl ?_
                refine j_aload_n S D_S_lay_96 2 rfl rfl ?_
                refine j_getR S D_S_lay_97 fl_R5_52 sh_Sand rfl ?_
                refine j_getR S D_S_lay_100 fl_R5_89 sh_P38 rfl ?_
                refine j_iload_n S D_S_lay_103 5 rfl rfl ?_
                obtain ⟨g_104, h⟩ := gdE h
                refine j_iald S D_S_lay_104 sh_40 g_104 ?_
                obtain ⟨m_105, hm_105, h⟩ := ltE h
                refine j_putI S D_S_lay_105 fp_R5_247 (sh_slt (ro_slt g_73)) rfl ?_
                refine j_mem hm_105 ?_
                refine j_aload S D_S_lay_108 1 rfl ?_
                refine j_aload_n S D_S_lay_110 2 rfl rfl ?_
                refine j_getR S D_S_lay_111 fl_R5_52 sh_Sand rfl ?_
                refine j_getR S D_S_lay_114 fl_R5_92 sh_P38 rfl ?_
                refine j_iload_n S D_S_lay_117 5 rfl rfl ?_
                refine j_iald S D_S_lay_118 sh_41 g_104 ?_
                obtain ⟨m_119, hm_119, h⟩ := ltE h
                refine j_putI S D_S_lay_119 fp_R5_249 (sh_slt (ro_slt g_73)) rfl ?_
                refine j_mem hm_119 ?_
                refine j_goto S D_S_lay_122 ?_
                refine j_iload S D_S_lay_158 0 rfl ?_
                exact rtM hR h _ _ D_S_lay_160
            · have h := ifT c_62 h
              refine j_ldc S D_S_lay_65 co_R5_184 ?_
              exact rtM hR h _ _ D_S_lay_67
        · have h := ifT c_34 h
          refine j_iload_n S D_S_lay_37 3 rfl rfl ?_
          obtain ⟨r_38, e_38, h⟩ := bpE h
          refine j_callSI (As := [.int a3]) S D_S_lay_38 ms_R5_178 (c_S_isSheet (cxL X) E a3 (mem := mem) e_38) (by decide) rfl rfl (Nat.le_of_ble_eq_true rfl) ?_
          refine j_if_ne S D_S_lay_41 (fun c_41 => ?_) (fun c_41 => ?_)
          · have h := ifF c_41 h
            refine j_iload_n S D_S_lay_47 2 rfl rfl ?_
            refine j_iconst S D_S_lay_48 ci_2 ?_
            refine j_icmp_ne S D_S_lay_49 (fun c_49 => ?_) (fun c_49 => ?_)
            · have h := ifF c_49 h
              refine j_aload_n S D_S_lay_68 0 rfl rfl ?_
              refine j_getR S D_S_lay_69 fl_R5_34 sh_Sand rfl ?_
              refine j_iload_n S D_S_lay_72 1 rfl rfl ?_
              obtain ⟨g_73, h⟩ := gdE h
              refine j_aald S D_S_lay_73 sh_5 rfl g_73 (el_slt g_73) ?_
              refine j_astore S D_S_lay_74 (lv := [(4, .ref (eb E + (76 + 3 * ix a1))), (0, .ref (eb E + 0)), (1, .int a1), (2, .int a2), (3, .int a3)]) rfl (Nat.le_of_ble_eq_true rfl) ?_
              refine j_aload S D_S_lay_76 0 rfl ?_
              refine j_getI S D_S_lay_78 fl_R5_244 (sh_slt (ro_slt g_73)) rfl ?_
              obtain ⟨x_81, hx_81, h⟩ := ltE h
              refine j_nm hx_81 ?_
              refine j_istore S D_S_lay_81 (lv := [(5, .int x_81), (4, .ref (eb E + (76 + 3 * ix a1))), (0, .ref (eb E + 0)), (1, .int a1), (2, .int a2), (3, .int a3)]) rfl (Nat.le_of_ble_eq_true rfl) ?_
              refine j_aload S D_S_lay_83 1 rfl ?_
              refine j_iload_n S D_S_lay_85 4 rfl rfl ?_
              obtain ⟨m_86, hm_86, h⟩ := ltE h
              refine j_putI S D_S_lay_86 fp_R5_244 (sh_slt (ro_slt g_73)) rfl ?_
              refine j_mem hm_86 ?_
              refine j_iload_n S D_S_lay_89 4 rfl rfl ?_
              refine j_iconst S D_S_lay_90 ci_1 ?_
              refine j_icmp_ne S D_S_lay_91 (fun c_91 => ?_) (fun c_91 => ?_)
              · have h := ifF c_91 h
                refine j_iload_n S D_S_lay_125 4 rfl rfl ?_
                refine j_iconst S D_S_lay_126 ci_2 ?_
                refine j_icmp_ne S D_S_lay_127 (fun c_127 => ?_) (fun c_127 => ?_)
                · have h := ifF c_127 h
                  refine j_iload_n S D_S_lay_147 4 rfl rfl ?_
                  refine j_iconst S D_S_lay_148 ci_3 ?_
                  refine j_icmp_ne S D_S_lay_149 (fun c_149 => ?_) (fun c_149 => ?_)
                  · have h := ifF c_149 h
                    refine j_iload S D_S_lay_158 0 rfl ?_
                    exact rtM hR h _ _ D_S_lay_160
                  · have h := ifT c_149 h
                    refine j_aload S D_S_lay_152 1 rfl ?_
                    refine j_iload_n S D_S_lay_154 5 rfl rfl ?_
                    obtain ⟨m_155, hm_155, h⟩ := ltE h
                    refine j_putI S D_S_lay_155 fp_R5_258 (sh_slt (ro_slt g_73)) rfl ?_
                    refine j_mem hm_155 ?_
                    refine j_iload S D_S_lay_158 0 rfl ?_
                    exact rtM hR h _ _ D_S_lay_160
                · have h := ifT c_127 h
                  refine j_aload S D_S_lay_130 1 rfl ?_
                  refine j_getR S D_S_lay_132 fl_R5_251 (sh_slt (ro_slt g_73)) rfl ?_
                  refine j_aload_n S D_S_lay_135 2 rfl rfl ?_
                  refine j_getR S D_S_lay_136 fl_R5_28 sh_Sand rfl ?_
                  refine j_iload_n S D_S_lay_139 5 rfl rfl ?_
                  obtain ⟨g_140, h⟩ := gdE h
                  refine j_aald S D_S_lay_140 sh_4 rfl g_140 (el_sht g_140) ?_
                  obtain ⟨m_141, e_141, h⟩ := bpE h
                  refine j_callVV (As := [.ref (eb E + (68 + 2 * ix a3))]) S D_S_lay_141 mv_R5_255 (c_H_become (cxL X) E ((76 + 3 * ix a1) + 1) (ro_slsh (ro_slt g_73)) (68 + 2 * ix a3) (ro_sht g_140) e_141) (by decide) (sh_sht (ro_slsh (ro_slt g_73))) rfl rfl rfl rfl (Nat.le_of_ble_eq_true rfl) ?_
                  refine j_goto S D_S_lay_144 ?_
                  refine j_iload S D_S_lay_158 0 rfl ?_
                  exact rtM hR h _ _ D_S_lay_160
              · have h := ifT c_91 h
                refine j_aload S D_S_lay_94 1 rfl ?_
                refine j_aload_n S D_S_lay_96 2 rfl rfl ?_
                refine j_getR S D_S_lay_97 fl_R5_52 sh_Sand rfl ?_
                refine j_getR S D_S_lay_100 fl_R5_89 sh_P38 rfl ?_
                refine j_iload_n S D_S_lay_103 5 rfl rfl ?_
                obtain ⟨g_104, h⟩ := gdE h
                refine j_iald S D_S_lay_104 sh_40 g_104 ?_
                obtain ⟨m_105, hm_105, h⟩ := ltE h
                refine j_putI S D_S_lay_105 fp_R5_247 (sh_slt (ro_slt g_73)) rfl ?_
                refine j_mem hm_105 ?_
                refine j_aload S D_S_lay_108 1 rfl ?_
                refine j_aload_n S D_S_lay_110 2 rfl rfl ?_
                refine j_getR S D_S_lay_111 fl_R5_52 sh_Sand rfl ?_
                refine j_getR S D_S_lay_114 fl_R5_92 sh_P38 rfl ?_
                refine j_iload_n S D_S_lay_117 5 rfl rfl ?_
                refine j_iald S D_S_lay_118 sh_41 g_104 ?_
                obtain ⟨m_119, hm_119, h⟩ := ltE h
                refine j_putI S D_S_lay_119 fp_R5_249 (sh_slt (ro_slt g_73)) rfl ?_
                refine j_mem hm_119 ?_
                refine j_goto S D_S_lay_122 ?_
                refine j_iload S D_S_lay_158 0 rfl ?_
                exact rtM hR h _ _ D_S_lay_160
            · have h := ifT c_49 h
              refine j_aload_n S D_S_lay_52 0 rfl rfl ?_
              refine j_getR S D_S_lay_53 fl_R5_28 sh_Sand rfl ?_
              refine j_iload_n S D_S_lay_56 3 rfl rfl ?_
              obtain ⟨g_57, h⟩ := gdE h
              refine j_aald S D_S_lay_57 sh_4 rfl g_57 (el_sht g_57) ?_
              refine j_getI S D_S_lay_58 fl_R5_181 (sh_sht (ro_sht g_57)) rfl ?_
              refine j_iconst S D_S_lay_61 ci_m1 ?_
              refine j_icmp_ne S D_S_lay_62 (fun c_62 => ?_) (fun c_62 => ?_)
              · have h := ifF c_62 h
                refine j_aload_n S D_S_lay_68 0 rfl rfl ?_
                refine j_getR S D_S_lay_69 fl_R5_34 sh_Sand rfl ?_
                refine j_iload_n S D_S_lay_72 1 rfl rfl ?_
                obtain ⟨g_73, h⟩ := gdE h
                refine j_aald S D_S_lay_73 sh_5 rfl g_73 (el_slt g_73) ?_
                refine j_astore S D_S_lay_74 (lv := [(4, .ref (eb E + (76 + 3 * ix a1))), (0, .ref (eb E + 0)), (1, .int a1), (2, .int a2), (3, .int a3)]) rfl (Nat.le_of_ble_eq_true rfl) ?_
                refine j_aload S D_S_lay_76 0 rfl ?_
                refine j_getI S D_S_lay_78 fl_R5_244 (sh_slt (ro_slt g_73)) rfl ?_
                obtain ⟨x_81, hx_81, h⟩ := ltE h
                refine j_nm hx_81 ?_
                refine j_istore S D_S_lay_81 (lv := [(5, .int x_81), (4, .ref (eb E + (76 + 3 * ix a1))), (0, .ref (eb E + 0)), (1, .int a1), (2, .int a2), (3, .int a3)]) rfl (Nat.le_of_ble_eq_true rfl) ?_
                refine j_aload S D_S_lay_83 1 rfl ?_
                refine j_iload_n S D_S_lay_85 4 rfl rfl ?_
                obtain ⟨m_86, hm_86, h⟩ := ltE h
                refine j_putI S D_S_lay_86 fp_R5_244 (sh_slt (ro_slt g_73)) rfl ?_
                refine j_mem hm_86 ?_
                refine j_iload_n S D_S_lay_89 4 rfl rfl ?_
                refine j_iconst S D_S_lay_90 ci_1 ?_
                refine j_icmp_ne S D_S_lay_91 (fun c_91 => ?_) (fun c_91 => ?_)
                · have h := ifF c_91 h
                  refine j_iload_n S D_S_lay_125 4 rfl rfl ?_
                  refine j_iconst S D_S_lay_126 ci_2 ?_
                  refine j_icmp_ne S D_S_lay_127 (fun c_127 => ?_) (fun c_127 => ?_)
                  · have h := ifF c_127 h
                    refine j_iload_n S D_S_lay_147 4 rfl rfl ?_
                    refine j_iconst S D_S_lay_148 ci_3 ?_
                    refine j_icmp_ne S D_S_lay_149 (fun c_149 => ?_) (fun c_149 => ?_)
                    · have h := ifF c_149 h
                      refine j_iload S D_S_lay_158 0 rfl ?_
                      exact rtM hR h _ _ D_S_lay_160
                    · have h := ifT c_149 h
                      refine j_aload S D_S_lay_152 1 rfl ?_
                      refine j_iload_n S D_S_lay_154 5 rfl rfl ?_
                      obtain ⟨m_155, hm_155, h⟩ := ltE h
                      refine j_putI S D_S_lay_155 fp_R5_258 (sh_slt (ro_slt g_73)) rfl ?_
                      refine j_mem hm_155 ?_
                      refine j_iload S D_S_lay_158 0 rfl ?_
                      exact rtM hR h _ _ D_S_lay_160
                  · have h := ifT c_127 h
                    refine j_aload S D_S_lay_130 1 rfl ?_
                    refine j_getR S D_S_lay_132 fl_R5_251 (sh_slt (ro_slt g_73)) rfl ?_
                    refine j_aload_n S D_S_lay_135 2 rfl rfl ?_
                    refine j_getR S D_S_lay_136 fl_R5_28 sh_Sand rfl ?_
                    refine j_iload_n S D_S_lay_139 5 rfl rfl ?_
                    refine j_aald S D_S_lay_140 sh_4 rfl g_57 (el_sht g_57) ?_
                    obtain ⟨m_141, e_141, h⟩ := bpE h
                    refine j_callVV (As := [.ref (eb E + (68 + 2 * ix a3))]) S D_S_lay_141 mv_R5_255 (c_H_become (cxL X) E ((76 + 3 * ix a1) + 1) (ro_slsh (ro_slt g_73)) (68 + 2 * ix a3) (ro_sht g_57) e_141) (by decide) (sh_sht (ro_slsh (ro_slt g_73))) rfl rfl rfl rfl (Nat.le_of_ble_eq_true rfl) ?_
                    refine j_goto S D_S_lay_144 ?_
                    refine j_iload S D_S_lay_158 0 rfl ?_
                    exact rtM hR h _ _ D_S_lay_160
                · have h := ifT c_91 h
                  refine j_aload S D_S_lay_94 1 rfl ?_
                  refine j_aload_n S D_S_lay_96 2 rfl rfl ?_
                  refine j_getR S D_S_lay_97 fl_R5_52 sh_Sand rfl ?_
                  refine j_getR S D_S_lay_100 fl_R5_89 sh_P38 rfl ?_
                  refine j_iload_n S D_S_lay_103 5 rfl rfl ?_
                  obtain ⟨g_104, h⟩ := gdE h
                  refine j_iald S D_S_lay_104 sh_40 g_104 ?_
                  obtain ⟨m_105, hm_105, h⟩ := ltE h
                  refine j_putI S D_S_lay_105 fp_R5_247 (sh_slt (ro_slt g_73)) rfl ?_
                  refine j_mem hm_105 ?_
                  refine j_aload S D_S_lay_108 1 rfl ?_
                  refine j_aload_n S D_S_lay_110 2 rfl rfl ?_
                  refine j_getR S D_S_lay_111 fl_R5_52 sh_Sand rfl ?_
                  refine j_getR S D_S_lay_114 fl_R5_92 sh_P38 rfl ?_
                  refine j_iload_n S D_S_lay_117 5 rfl rfl ?_
                  refine j_iald S D_S_lay_118 sh_41 g_104 ?_
                  obtain ⟨m_119, hm_119, h⟩ := ltE h
                  refine j_putI S D_S_lay_119 fp_R5_249 (sh_slt (ro_slt g_73)) rfl ?_
                  refine j_mem hm_119 ?_
                  refine j_goto S D_S_lay_122 ?_
                  refine j_iload S D_S_lay_158 0 rfl ?_
                  exact rtM hR h _ _ D_S_lay_160
              · have h := ifT c_62 h
                refine j_ldc S D_S_lay_65 co_R5_184 ?_
                exact rtM hR h _ _ D_S_lay_67
          · have h := ifT c_41 h
            refine j_ldc S D_S_lay_44 co_R5_77 ?_
            exact rtM hR h _ _ D_S_lay_46
      · have h := ifT c_21 h
        refine j_aload_n S D_S_lay_24 0 rfl rfl ?_
        refine j_iload_n S D_S_lay_25 3 rfl rfl ?_
        obtain ⟨r_26, e_26, h⟩ := bpE h
        refine j_callVI (As := [.int a3]) S D_S_lay_26 mv_R5_86 (c_S_isMonk (cxL X) E a3 e_26) (by decide) sh_Sand rfl rfl rfl rfl (Nat.le_of_ble_eq_true rfl) ?_
        refine j_if_eq S D_S_lay_29 (fun c_29 => ?_) (fun c_29 => ?_)
        · have h := ifT c_29 h
          refine j_ldc S D_S_lay_44 co_R5_77 ?_
          exact rtM hR h _ _ D_S_lay_46
        · have h := ifF c_29 h
          refine j_iload_n S D_S_lay_32 2 rfl rfl ?_
          refine j_iconst S D_S_lay_33 ci_2 ?_
          refine j_icmp_ne S D_S_lay_34 (fun c_34 => ?_) (fun c_34 => ?_)
          · have h := ifF c_34 h
            refine j_iload_n S D_S_lay_47 2 rfl rfl ?_
            refine j_iconst S D_S_lay_48 ci_2 ?_
            refine j_icmp_ne S D_S_lay_49 (fun c_49 => ?_) (fun c_49 => ?_)
            · have h := ifF c_49 h
              refine j_aload_n S D_S_lay_68 0 rfl rfl ?_
              refine j_getR S D_S_lay_69 fl_R5_34 sh_Sand rfl ?_
              refine j_iload_n S D_S_lay_72 1 rfl rfl ?_
              obtain ⟨g_73, h⟩ := gdE h
              refine j_aald S D_S_lay_73 sh_5 rfl g_73 (el_slt g_73) ?_
              refine j_astore S D_S_lay_74 (lv := [(4, .ref (eb E + (76 + 3 * ix a1))), (0, .ref (eb E + 0)), (1, .int a1), (2, .int a2), (3, .int a3)]) rfl (Nat.le_of_ble_eq_true rfl) ?_
              refine j_aload S D_S_lay_76 0 rfl ?_
              refine j_getI S D_S_lay_78 fl_R5_244 (sh_slt (ro_slt g_73)) rfl ?_
              obtain ⟨x_81, hx_81, h⟩ := ltE h
              refine j_nm hx_81 ?_
              refine j_istore S D_S_lay_81 (lv := [(5, .int x_81), (4, .ref (eb E + (76 + 3 * ix a1))), (0, .ref (eb E + 0)), (1, .int a1), (2, .int a2), (3, .int a3)]) rfl (Nat.le_of_ble_eq_true rfl) ?_
              refine j_aload S D_S_lay_83 1 rfl ?_
              refine j_iload_n S D_S_lay_85 4 rfl rfl ?_
              obtain ⟨m_86, hm_86, h⟩ := ltE h
              refine j_putI S D_S_lay_86 fp_R5_244 (sh_slt (ro_slt g_73)) rfl ?_
              refine j_mem hm_86 ?_
              refine j_iload_n S D_S_lay_89 4 rfl rfl ?_
              refine j_iconst S D_S_lay_90 ci_1 ?_
              refine j_icmp_ne S D_S_lay_91 (fun c_91 => ?_) (fun c_91 => ?_)
              · have h := ifF c_91 h
                refine j_iload_n S D_S_lay_125 4 rfl rfl ?_
                refine j_iconst S D_S_lay_126 ci_2 ?_
                refine j_icmp_ne S D_S_lay_127 (fun c_127 => ?_) (fun c_127 => ?_)
                · have h := ifF c_127 h
                  refine j_iload_n S D_S_lay_147 4 rfl rfl ?_
                  refine j_iconst S D_S_lay_148 ci_3 ?_
                  refine j_icmp_ne S D_S_lay_149 (fun c_149 => ?_) (fun c_149 => ?_)
                  · have h := ifF c_149 h
                    refine j_iload S D_S_lay_158 0 rfl ?_
                    exact rtM hR h _ _ D_S_lay_160
                  · have h := ifT c_149 h
                    refine j_aload S D_S_lay_152 1 rfl ?_
                    refine j_iload_n S D_S_lay_154 5 rfl rfl ?_
                    obtain ⟨m_155, hm_155, h⟩ := ltE h
                    refine j_putI S D_S_lay_155 fp_R5_258 (sh_slt (ro_slt g_73)) rfl ?_
                    refine j_mem hm_155 ?_
                    refine j_iload S D_S_lay_158 0 rfl ?_
                    exact rtM hR h _ _ D_S_lay_160
                · have h := ifT c_127 h
                  refine j_aload S D_S_lay_130 1 rfl ?_
                  refine j_getR S D_S_lay_132 fl_R5_251 (sh_slt (ro_slt g_73)) rfl ?_
                  refine j_aload_n S D_S_lay_135 2 rfl rfl ?_
                  refine j_getR S D_S_lay_136 fl_R5_28 sh_Sand rfl ?_
                  refine j_iload_n S D_S_lay_139 5 rfl rfl ?_
                  obtain ⟨g_140, h⟩ := gdE h
                  refine j_aald S D_S_lay_140 sh_4 rfl g_140 (el_sht g_140) ?_
                  obtain ⟨m_141, e_141, h⟩ := bpE h
                  refine j_callVV (As := [.ref (eb E + (68 + 2 * ix a3))]) S D_S_lay_141 mv_R5_255 (c_H_become (cxL X) E ((76 + 3 * ix a1) + 1) (ro_slsh (ro_slt g_73)) (68 + 2 * ix a3) (ro_sht g_140) e_141) (by decide) (sh_sht (ro_slsh (ro_slt g_73))) rfl rfl rfl rfl (Nat.le_of_ble_eq_true rfl) ?_
                  refine j_goto S D_S_lay_144 ?_
                  refine j_iload S D_S_lay_158 0 rfl ?_
                  exact rtM hR h _ _ D_S_lay_160
              · have h := ifT c_91 h
                refine j_aload S D_S_lay_94 1 rfl ?_
                refine j_aload_n S D_S_lay_96 2 rfl rfl ?_
                refine j_getR S D_S_lay_97 fl_R5_52 sh_Sand rfl ?_
                refine j_getR S D_S_lay_100 fl_R5_89 sh_P38 rfl ?_
                refine j_iload_n S D_S_lay_103 5 rfl rfl ?_
                obtain ⟨g_104, h⟩ := gdE h
                refine j_iald S D_S_lay_104 sh_40 g_104 ?_
                obtain ⟨m_105, hm_105, h⟩ := ltE h
                refine j_putI S D_S_lay_105 fp_R5_247 (sh_slt (ro_slt g_73)) rfl ?_
                refine j_mem hm_105 ?_
                refine j_aload S D_S_lay_108 1 rfl ?_
                refine j_aload_n S D_S_lay_110 2 rfl rfl ?_
                refine j_getR S D_S_lay_111 fl_R5_52 sh_Sand rfl ?_
                refine j_getR S D_S_lay_114 fl_R5_92 sh_P38 rfl ?_
                refine j_iload_n S D_S_lay_117 5 rfl rfl ?_
                refine j_iald S D_S_lay_118 sh_41 g_104 ?_
                obtain ⟨m_119, hm_119, h⟩ := ltE h
                refine j_putI S D_S_lay_119 fp_R5_249 (sh_slt (ro_slt g_73)) rfl ?_
                refine j_mem hm_119 ?_
                refine j_goto S D_S_lay_122 ?_
                refine j_iload S D_S_lay_158 0 rfl ?_
                exact rtM hR h _ _ D_S_lay_160
            · have h := ifT c_49 h
              refine j_aload_n S D_S_lay_52 0 rfl rfl ?_
              refine j_getR S D_S_lay_53 fl_R5_28 sh_Sand rfl ?_
              refine j_iload_n S D_S_lay_56 3 rfl rfl ?_
              obtain ⟨g_57, h⟩ := gdE h
              refine j_aald S D_S_lay_57 sh_4 rfl g_57 (el_sht g_57) ?_
              refine j_getI S D_S_lay_58 fl_R5_181 (sh_sht (ro_sht g_57)) rfl ?_
              refine j_iconst S D_S_lay_61 ci_m1 ?_
              refine j_icmp_ne S D_S_lay_62 (fun c_62 => ?_) (fun c_62 => ?_)
              · have h := ifF c_62 h
                refine j_aload_n S D_S_lay_68 0 rfl rfl ?_
                refine j_getR S D_S_lay_69 fl_R5_34 sh_Sand rfl ?_
                refine j_iload_n S D_S_lay_72 1 rfl rfl ?_
                obtain ⟨g_73, h⟩ := gdE h
                refine j_aald S D_S_lay_73 sh_5 rfl g_73 (el_slt g_73) ?_
                refine j_astore S D_S_lay_74 (lv := [(4, .ref (eb E + (76 + 3 * ix a1))), (0, .ref (eb E + 0)), (1, .int a1), (2, .int a2), (3, .int a3)]) rfl (Nat.le_of_ble_eq_true rfl) ?_
                refine j_aload S D_S_lay_76 0 rfl ?_
                refine j_getI S D_S_lay_78 fl_R5_244 (sh_slt (ro_slt g_73)) rfl ?_
                obtain ⟨x_81, hx_81, h⟩ := ltE h
                refine j_nm hx_81 ?_
                refine j_istore S D_S_lay_81 (lv := [(5, .int x_81), (4, .ref (eb E + (76 + 3 * ix a1))), (0, .ref (eb E + 0)), (1, .int a1), (2, .int a2), (3, .int a3)]) rfl (Nat.le_of_ble_eq_true rfl) ?_
                refine j_aload S D_S_lay_83 1 rfl ?_
                refine j_iload_n S D_S_lay_85 4 rfl rfl ?_
                obtain ⟨m_86, hm_86, h⟩ := ltE h
                refine j_putI S D_S_lay_86 fp_R5_244 (sh_slt (ro_slt g_73)) rfl ?_
                refine j_mem hm_86 ?_
                refine j_iload_n S D_S_lay_89 4 rfl rfl ?_
                refine j_iconst S D_S_lay_90 ci_1 ?_
                refine j_icmp_ne S D_S_lay_91 (fun c_91 => ?_) (fun c_91 => ?_)
                · have h := ifF c_91 h
                  refine j_iload_n S D_S_lay_125 4 rfl rfl ?_
                  refine j_iconst S D_S_lay_126 ci_2 ?_
                  refine j_icmp_ne S D_S_lay_127 (fun c_127 => ?_) (fun c_127 => ?_)
                  · have h := ifF c_127 h
                    refine j_iload_n S D_S_lay_147 4 rfl rfl ?_
                    refine j_iconst S D_S_lay_148 ci_3 ?_
                    refine j_icmp_ne S D_S_lay_149 (fun c_149 => ?_) (fun c_149 => ?_)
                    · have h := ifF c_149 h
                      refine j_iload S D_S_lay_158 0 rfl ?_
                      exact rtM hR h _ _ D_S_lay_160
                    · have h := ifT c_149 h
                      refine j_aload S D_S_lay_152 1 rfl ?_
                      refine j_iload_n S D_S_lay_154 5 rfl rfl ?_
                      obtain ⟨m_155, hm_155, h⟩ := ltE h
                      refine j_putI S D_S_lay_155 fp_R5_258 (sh_slt (ro_slt g_73)) rfl ?_
                      refine j_mem hm_155 ?_
                      refine j_iload S D_S_lay_158 0 rfl ?_
                      exact rtM hR h _ _ D_S_lay_160
                  · have h := ifT c_127 h
                    refine j_aload S D_S_lay_130 1 rfl ?_
                    refine j_getR S D_S_lay_132 fl_R5_251 (sh_slt (ro_slt g_73)) rfl ?_
                    refine j_aload_n S D_S_lay_135 2 rfl rfl ?_
                    refine j_getR S D_S_lay_136 fl_R5_28 sh_Sand rfl ?_
                    refine j_iload_n S D_S_lay_139 5 rfl rfl ?_
                    refine j_aald S D_S_lay_140 sh_4 rfl g_57 (el_sht g_57) ?_
                    obtain ⟨m_141, e_141, h⟩ := bpE h
                    refine j_callVV (As := [.ref (eb E + (68 + 2 * ix a3))]) S D_S_lay_141 mv_R5_255 (c_H_become (cxL X) E ((76 + 3 * ix a1) + 1) (ro_slsh (ro_slt g_73)) (68 + 2 * ix a3) (ro_sht g_57) e_141) (by decide) (sh_sht (ro_slsh (ro_slt g_73))) rfl rfl rfl rfl (Nat.le_of_ble_eq_true rfl) ?_
                    refine j_goto S D_S_lay_144 ?_
                    refine j_iload S D_S_lay_158 0 rfl ?_
                    exact rtM hR h _ _ D_S_lay_160
                · have h := ifT c_91 h
                  refine j_aload S D_S_lay_94 1 rfl ?_
                  refine j_aload_n S D_S_lay_96 2 rfl rfl ?_
                  refine j_getR S D_S_lay_97 fl_R5_52 sh_Sand rfl ?_
                  refine j_getR S D_S_lay_100 fl_R5_89 sh_P38 rfl ?_
                  refine j_iload_n S D_S_lay_103 5 rfl rfl ?_
                  obtain ⟨g_104, h⟩ := gdE h
                  refine j_iald S D_S_lay_104 sh_40 g_104 ?_
                  obtain ⟨m_105, hm_105, h⟩ := ltE h
                  refine j_putI S D_S_lay_105 fp_R5_247 (sh_slt (ro_slt g_73)) rfl ?_
                  refine j_mem hm_105 ?_
                  refine j_aload S D_S_lay_108 1 rfl ?_
                  refine j_aload_n S D_S_lay_110 2 rfl rfl ?_
                  refine j_getR S D_S_lay_111 fl_R5_52 sh_Sand rfl ?_
                  refine j_getR S D_S_lay_114 fl_R5_92 sh_P38 rfl ?_
                  refine j_iload_n S D_S_lay_117 5 rfl rfl ?_
                  refine j_iald S D_S_lay_118 sh_41 g_104 ?_
                  obtain ⟨m_119, hm_119, h⟩ := ltE h
                  refine j_putI S D_S_lay_119 fp_R5_249 (sh_slt (ro_slt g_73)) rfl ?_
                  refine j_mem hm_119 ?_
                  refine j_goto S D_S_lay_122 ?_
                  refine j_iload S D_S_lay_158 0 rfl ?_
                  exact rtM hR h _ _ D_S_lay_160
              · have h := ifT c_62 h
                refine j_ldc S D_S_lay_65 co_R5_184 ?_
                exact rtM hR h _ _ D_S_lay_67
          · have h := ifT c_34 h
            refine j_iload_n S D_S_lay_37 3 rfl rfl ?_
            obtain ⟨r_38, e_38, h⟩ := bpE h
            refine j_callSI (As := [.int a3]) S D_S_lay_38 ms_R5_178 (c_S_isSheet (cxL X) E a3 (mem := mem) e_38) (by decide) rfl rfl (Nat.le_of_ble_eq_true rfl) ?_
            refine j_if_ne S D_S_lay_41 (fun c_41 => ?_) (fun c_41 => ?_)
            · have h := ifF c_41 h
              refine j_iload_n S D_S_lay_47 2 rfl rfl ?_
              refine j_iconst S D_S_lay_48 ci_2 ?_
              refine j_icmp_ne S D_S_lay_49 (fun c_49 => ?_) (fun c_49 => ?_)
              · have h := ifF c_49 h
                refine j_aload_n S D_S_lay_68 0 rfl rfl ?_
                refine j_getR S D_S_lay_69 fl_R5_34 sh_Sand rfl ?_
                refine j_iload_n S D_S_lay_72 1 rfl rfl ?_
                obtain ⟨g_73, h⟩ := gdE h
                refine j_aald S D_S_lay_73 sh_5 rfl g_73 (el_slt g_73) ?_
                refine j_astore S D_S_lay_74 (lv := [(4, .ref (eb E + (76 + 3 * ix a1))), (0, .ref (eb E + 0)), (1, .int a1), (2, .int a2), (3, .int a3)]) rfl (Nat.le_of_ble_eq_true rfl) ?_
                refine j_aload S D_S_lay_76 0 rfl ?_
                refine j_getI S D_S_lay_78 fl_R5_244 (sh_slt (ro_slt g_73)) rfl ?_
                obtain ⟨x_81, hx_81, h⟩ := ltE h
                refine j_nm hx_81 ?_
                refine j_istore S D_S_lay_81 (lv := [(5, .int x_81), (4, .ref (eb E + (76 + 3 * ix a1))), (0, .ref (eb E + 0)), (1, .int a1), (2, .int a2), (3, .int a3)]) rfl (Nat.le_of_ble_eq_true rfl) ?_
                refine j_aload S D_S_lay_83 1 rfl ?_
                refine j_iload_n S D_S_lay_85 4 rfl rfl ?_
                obtain ⟨m_86, hm_86, h⟩ := ltE h
                refine j_putI S D_S_lay_86 fp_R5_244 (sh_slt (ro_slt g_73)) rfl ?_
                refine j_mem hm_86 ?_
                refine j_iload_n S D_S_lay_89 4 rfl rfl ?_
                refine j_iconst S D_S_lay_90 ci_1 ?_
                refine j_icmp_ne S D_S_lay_91 (fun c_91 => ?_) (fun c_91 => ?_)
                · have h := ifF c_91 h
                  refine j_iload_n S D_S_lay_125 4 rfl rfl ?_
                  refine j_iconst S D_S_lay_126 ci_2 ?_
                  refine j_icmp_ne S D_S_lay_127 (fun c_127 => ?_) (fun c_127 => ?_)
                  · have h := ifF c_127 h
                    refine j_iload_n S D_S_lay_147 4 rfl rfl ?_
                    refine j_iconst S D_S_lay_148 ci_3 ?_
                    refine j_icmp_ne S D_S_lay_149 (fun c_149 => ?_) (fun c_149 => ?_)
                    · have h := ifF c_149 h
                      refine j_iload S D_S_lay_158 0 rfl ?_
                      exact rtM hR h _ _ D_S_lay_160
                    · have h := ifT c_149 h
                      refine j_aload S D_S_lay_152 1 rfl ?_
                      refine j_iload_n S D_S_lay_154 5 rfl rfl ?_
                      obtain ⟨m_155, hm_155, h⟩ := ltE h
                      refine j_putI S D_S_lay_155 fp_R5_258 (sh_slt (ro_slt g_73)) rfl ?_
                      refine j_mem hm_155 ?_
                      refine j_iload S D_S_lay_158 0 rfl ?_
                      exact rtM hR h _ _ D_S_lay_160
                  · have h := ifT c_127 h
                    refine j_aload S D_S_lay_130 1 rfl ?_
                    refine j_getR S D_S_lay_132 fl_R5_251 (sh_slt (ro_slt g_73)) rfl ?_
                    refine j_aload_n S D_S_lay_135 2 rfl rfl ?_
                    refine j_getR S D_S_lay_136 fl_R5_28 sh_Sand rfl ?_
                    refine j_iload_n S D_S_lay_139 5 rfl rfl ?_
                    obtain ⟨g_140, h⟩ := gdE h
                    refine j_aald S D_S_lay_140 sh_4 rfl g_140 (el_sht g_140) ?_
                    obtain ⟨m_141, e_141, h⟩ := bpE h
                    refine j_callVV (As := [.ref (eb E + (68 + 2 * ix a3))]) S D_S_lay_141 mv_R5_255 (c_H_become (cxL X) E ((76 + 3 * ix a1) + 1) (ro_slsh (ro_slt g_73)) (68 + 2 * ix a3) (ro_sht g_140) e_141) (by decide) (sh_sht (ro_slsh (ro_slt g_73))) rfl rfl rfl rfl (Nat.le_of_ble_eq_true rfl) ?_
                    refine j_goto S D_S_lay_144 ?_
                    refine j_iload S D_S_lay_158 0 rfl ?_
                    exact rtM hR h _ _ D_S_lay_160
                · have h := ifT c_91 h
                  refine j_aload S D_S_lay_94 1 rfl ?_
                  refine j_aload_n S D_S_lay_96 2 rfl rfl ?_
                  refine j_getR S D_S_lay_97 fl_R5_52 sh_Sand rfl ?_
                  refine j_getR S D_S_lay_100 fl_R5_89 sh_P38 rfl ?_
                  refine j_iload_n S D_S_lay_103 5 rfl rfl ?_
                  obtain ⟨g_104, h⟩ := gdE h
                  refine j_iald S D_S_lay_104 sh_40 g_104 ?_
                  obtain ⟨m_105, hm_105, h⟩ := ltE h
                  refine j_putI S D_S_lay_105 fp_R5_247 (sh_slt (ro_slt g_73)) rfl ?_
                  refine j_mem hm_105 ?_
                  refine j_aload S D_S_lay_108 1 rfl ?_
                  refine j_aload_n S D_S_lay_110 2 rfl rfl ?_
                  refine j_getR S D_S_lay_111 fl_R5_52 sh_Sand rfl ?_
                  refine j_getR S D_S_lay_114 fl_R5_92 sh_P38 rfl ?_
                  refine j_iload_n S D_S_lay_117 5 rfl rfl ?_
                  refine j_iald S D_S_lay_118 sh_41 g_104 ?_
                  obtain ⟨m_119, hm_119, h⟩ := ltE h
                  refine j_putI S D_S_lay_119 fp_R5_249 (sh_slt (ro_slt g_73)) rfl ?_
                  refine j_mem hm_119 ?_
                  refine j_goto S D_S_lay_122 ?_
                  refine j_iload S D_S_lay_158 0 rfl ?_
                  exact rtM hR h _ _ D_S_lay_160
              · have h := ifT c_49 h
                refine j_aload_n S D_S_lay_52 0 rfl rfl ?_
                refine j_getR S D_S_lay_53 fl_R5_28 sh_Sand rfl ?_
                refine j_iload_n S D_S_lay_56 3 rfl rfl ?_
                obtain ⟨g_57, h⟩ := gdE h
                refine j_aald S D_S_lay_57 sh_4 rfl g_57 (el_sht g_57) ?_
                refine j_getI S D_S_lay_58 fl_R5_181 (sh_sht (ro_sht g_57)) rfl ?_
                refine j_iconst S D_S_lay_61 ci_m1 ?_
                refine j_icmp_ne S D_S_lay_62 (fun c_62 => ?_) (fun c_62 => ?_)
                · have h := ifF c_62 h
                  refine j_aload_n S D_S_lay_68 0 rfl rfl ?_
                  refine j_getR S D_S_lay_69 fl_R5_34 sh_Sand rfl ?_
                  refine j_iload_n S D_S_lay_72 1 rfl rfl ?_
                  obtain ⟨g_73, h⟩ := gdE h
                  refine j_aald S D_S_lay_73 sh_5 rfl g_73 (el_slt g_73) ?_
                  refine j_astore S D_S_lay_74 (lv := [(4, .ref (eb E + (76 + 3 * ix a1))), (0, .ref (eb E + 0)), (1, .int a1), (2, .int a2), (3, .int a3)]) rfl (Nat.le_of_ble_eq_true rfl) ?_
                  refine j_aload S D_S_lay_76 0 rfl ?_
                  refine j_getI S D_S_lay_78 fl_R5_244 (sh_slt (ro_slt g_73)) rfl ?_
                  obtain ⟨x_81, hx_81, h⟩ := ltE h
                  refine j_nm hx_81 ?_
                  refine j_istore S D_S_lay_81 (lv := [(5, .int x_81), (4, .ref (eb E + (76 + 3 * ix a1))), (0, .ref (eb E + 0)), (1, .int a1), (2, .int a2), (3, .int a3)]) rfl (Nat.le_of_ble_eq_true rfl) ?_
                  refine j_aload S D_S_lay_83 1 rfl ?_
                  refine j_iload_n S D_S_lay_85 4 rfl rfl ?_
                  obtain ⟨m_86, hm_86, h⟩ := ltE h
                  refine j_putI S D_S_lay_86 fp_R5_244 (sh_slt (ro_slt g_73)) rfl ?_
                  refine j_mem hm_86 ?_
                  refine j_iload_n S D_S_lay_89 4 rfl rfl ?_
                  refine j_iconst S D_S_lay_90 ci_1 ?_
                  refine j_icmp_ne S D_S_lay_91 (fun c_91 => ?_) (fun c_91 => ?_)
                  · have h := ifF c_91 h
                    refine j_iload_n S D_S_lay_125 4 rfl rfl ?_
                    refine j_iconst S D_S_lay_126 ci_2 ?_
                    refine j_icmp_ne S D_S_lay_127 (fun c_127 => ?_) (fun c_127 => ?_)
                    · have h := ifF c_127 h
                      refine j_iload_n S D_S_lay_147 4 rfl rfl ?_
                      refine j_iconst S D_S_lay_148 ci_3 ?_
                      refine j_icmp_ne S D_S_lay_149 (fun c_149 => ?_) (fun c_149 => ?_)
                      · have h := ifF c_149 h
                        refine j_iload S D_S_lay_158 0 rfl ?_
                        exact rtM hR h _ _ D_S_lay_160
                      · have h := ifT c_149 h
                        refine j_aload S D_S_lay_152 1 rfl ?_
                        refine j_iload_n S D_S_lay_154 5 rfl rfl ?_
                        obtain ⟨m_155, hm_155, h⟩ := ltE h
                        refine j_putI S D_S_lay_155 fp_R5_258 (sh_slt (ro_slt g_73)) rfl ?_
                        refine j_mem hm_155 ?_
                        refine j_iload S D_S_lay_158 0 rfl ?_
                        exact rtM hR h _ _ D_S_lay_160
                    · have h := ifT c_127 h
                      refine j_aload S D_S_lay_130 1 rfl ?_
                      refine j_getR S D_S_lay_132 fl_R5_251 (sh_slt (ro_slt g_73)) rfl ?_
                      refine j_aload_n S D_S_lay_135 2 rfl rfl ?_
                      refine j_getR S D_S_lay_136 fl_R5_28 sh_Sand rfl ?_
                      refine j_iload_n S D_S_lay_139 5 rfl rfl ?_
                      refine j_aald S D_S_lay_140 sh_4 rfl g_57 (el_sht g_57) ?_
                      obtain ⟨m_141, e_141, h⟩ := bpE h
                      refine j_callVV (As := [.ref (eb E + (68 + 2 * ix a3))]) S D_S_lay_141 mv_R5_255 (c_H_become (cxL X) E ((76 + 3 * ix a1) + 1) (ro_slsh (ro_slt g_73)) (68 + 2 * ix a3) (ro_sht g_57) e_141) (by decide) (sh_sht (ro_slsh (ro_slt g_73))) rfl rfl rfl rfl (Nat.le_of_ble_eq_true rfl) ?_
                      refine j_goto S D_S_lay_144 ?_
                      refine j_iload S D_S_lay_158 0 rfl ?_
                      exact rtM hR h _ _ D_S_lay_160
                  · have h := ifT c_91 h
                    refine j_aload S D_S_lay_94 1 rfl ?_
                    refine j_aload_n S D_S_lay_96 2 rfl rfl ?_
                    refine j_getR S D_S_lay_97 fl_R5_52 sh_Sand rfl ?_
                    refine j_getR S D_S_lay_100 fl_R5_89 sh_P38 rfl ?_
                    refine j_iload_n S D_S_lay_103 5 rfl rfl ?_
                    obtain ⟨g_104, h⟩ := gdE h
                    refine j_iald S D_S_lay_104 sh_40 g_104 ?_
                    obtain ⟨m_105, hm_105, h⟩ := ltE h
                    refine j_putI S D_S_lay_105 fp_R5_247 (sh_slt (ro_slt g_73)) rfl ?_
                    refine j_mem hm_105 ?_
                    refine j_aload S D_S_lay_108 1 rfl ?_
                    refine j_aload_n S D_S_lay_110 2 rfl rfl ?_
                    refine j_getR S D_S_lay_111 fl_R5_52 sh_Sand rfl ?_
                    refine j_getR S D_S_lay_114 fl_R5_92 sh_P38 rfl ?_
                    refine j_iload_n S D_S_lay_117 5 rfl rfl ?_
                    refine j_iald S D_S_lay_118 sh_41 g_104 ?_
                    obtain ⟨m_119, hm_119, h⟩ := ltE h
                    refine j_putI S D_S_lay_119 fp_R5_249 (sh_slt (ro_slt g_73)) rfl ?_
                    refine j_mem hm_119 ?_
                    refine j_goto S D_S_lay_122 ?_
                    refine j_iload S D_S_lay_158 0 rfl ?_
                    exact rtM hR h _ _ D_S_lay_160
                · have h := ifT c_62 h
                  refine j_ldc S D_S_lay_65 co_R5_184 ?_
                  exact rtM hR h _ _ D_S_lay_67
            · have h := ifT c_41 h
              refine j_ldc S D_S_lay_44 co_R5_77 ?_
              exact rtM hR h _ _ D_S_lay_46
    · have h := ifT c_13 h
      refine j_ldc S D_S_lay_16 co_R5_77 ?_
      exact rtM hR h _ _ D_S_lay_18

def y_S_ask : MethodName := ⟨"SandPicture", "ask", "(II)I"⟩
theorem D_S_ask_0 : decode prog_1_method_37_code 0 = .ok (.iload_n 1, 1) ∧ 0 + 1 = 1 := by decide +kernel
theorem D_S_ask_1 : decode prog_1_method_37_code 1 = .ok (.invokestatic 241, 3) ∧ 1 + 3 = 4 := by decide +kernel
theorem D_S_ask_4 : decode prog_1_method_37_code 4 = .ok (.ifCond .eq 10, 3) ∧ ((4 : Nat) : Int) + 10 = ((14 : Nat) : Int) ∧ 4 + 3 = 7 := by decide +kernel
theorem D_S_ask_14 : decode prog_1_method_37_code 14 = .ok (.ldc 77, 2) ∧ 14 + 2 = 16 := by decide +kernel
theorem D_S_ask_16 : decode prog_1_method_37_code 16 = .ok (.ireturn, 1) := by decide +kernel
theorem D_S_ask_7 : decode prog_1_method_37_code 7 = .ok (.iload_n 2, 1) ∧ 7 + 1 = 8 := by decide +kernel
theorem D_S_ask_8 : decode prog_1_method_37_code 8 = .ok (.invokestatic 64, 3) ∧ 8 + 3 = 11 := by decide +kernel
theorem D_S_ask_11 : decode prog_1_method_37_code 11 = .ok (.ifCond .ne 6, 3) ∧ ((11 : Nat) : Int) + 6 = ((17 : Nat) : Int) ∧ 11 + 3 = 14 := by decide +kernel
theorem D_S_ask_17 : decode prog_1_method_37_code 17 = .ok (.aload_n 0, 1) ∧ 17 + 1 = 18 := by decide +kernel
theorem D_S_ask_18 : decode prog_1_method_37_code 18 = .ok (.getfield 34, 3) ∧ 18 + 3 = 21 := by decide +kernel
theorem D_S_ask_21 : decode prog_1_method_37_code 21 = .ok (.iload_n 1, 1) ∧ 21 + 1 = 22 := by decide +kernel
theorem D_S_ask_22 : decode prog_1_method_37_code 22 = .ok (.aaload, 1) ∧ 22 + 1 = 23 := by decide +kernel
theorem D_S_ask_23 : decode prog_1_method_37_code 23 = .ok (.astore_n 3, 1) ∧ 23 + 1 = 24 := by decide +kernel
theorem D_S_ask_24 : decode prog_1_method_37_code 24 = .ok (.aload_n 3, 1) ∧ 24 + 1 = 25 := by decide +kernel
theorem D_S_ask_25 : decode prog_1_method_37_code 25 = .ok (.getfield 244, 3) ∧ 25 + 3 = 28 := by decide +kernel
theorem D_S_ask_28 : decode prog_1_method_37_code 28 = .ok (.ifCond .ne 6, 3) ∧ ((28 : Nat) : Int) + 6 = ((34 : Nat) : Int) ∧ 28 + 3 = 31 := by decide +kernel
theorem D_S_ask_34 : decode prog_1_method_37_code 34 = .ok (.aload_n 3, 1) ∧ 34 + 1 = 35 := by decide +kernel
theorem D_S_ask_35 : decode prog_1_method_37_code 35 = .ok (.getfield 244, 3) ∧ 35 + 3 = 38 := by decide +kernel
theorem D_S_ask_38 : decode prog_1_method_37_code 38 = .ok (.iconst 1, 1) ∧ 38 + 1 = 39 := by decide +kernel
theorem D_S_ask_39 : decode prog_1_method_37_code 39 = .ok (.if_icmp .ne 14, 3) ∧ ((39 : Nat) : Int) + 14 = ((53 : Nat) : Int) ∧ 39 + 3 = 42 := by decide +kernel
theorem D_S_ask_53 : decode prog_1_method_37_code 53 = .ok (.ldc 115, 2) ∧ 53 + 2 = 55 := by decide +kernel
theorem D_S_ask_55 : decode prog_1_method_37_code 55 = .ok (.ireturn, 1) := by decide +kernel
theorem D_S_ask_42 : decode prog_1_method_37_code 42 = .ok (.aload_n 3, 1) ∧ 42 + 1 = 43 := by decide +kernel
theorem D_S_ask_43 : decode prog_1_method_37_code 43 = .ok (.getfield 247, 3) ∧ 43 + 3 = 46 := by decide +kernel
theorem D_S_ask_46 : decode prog_1_method_37_code 46 = .ok (.iload_n 2, 1) ∧ 46 + 1 = 47 := by decide +kernel
theorem D_S_ask_47 : decode prog_1_method_37_code 47 = .ok (.invokestatic 111, 3) ∧ 47 + 3 = 50 := by decide +kernel
theorem D_S_ask_50 : decode prog_1_method_37_code 50 = .ok (.ifCond .ne 6, 3) ∧ ((50 : Nat) : Int) + 6 = ((56 : Nat) : Int) ∧ 50 + 3 = 53 := by decide +kernel
theorem D_S_ask_56 : decode prog_1_method_37_code 56 = .ok (.aload_n 3, 1) ∧ 56 + 1 = 57 := by decide +kernel
theorem D_S_ask_57 : decode prog_1_method_37_code 57 = .ok (.getfield 247, 3) ∧ 57 + 3 = 60 := by decide +kernel
theorem D_S_ask_60 : decode prog_1_method_37_code 60 = .ok (.aload_n 3, 1) ∧ 60 + 1 = 61 := by decide +kernel
theorem D_S_ask_61 : decode prog_1_method_37_code 61 = .ok (.getfield 249, 3) ∧ 61 + 3 = 64 := by decide +kernel
theorem D_S_ask_64 : decode prog_1_method_37_code 64 = .ok (.invokestatic 98, 3) ∧ 64 + 3 = 67 := by decide +kernel
theorem D_S_ask_67 : decode prog_1_method_37_code 67 = .ok (.ireturn, 1) := by decide +kernel
theorem D_S_ask_31 : decode prog_1_method_37_code 31 = .ok (.ldc 184, 2) ∧ 31 + 2 = 33 := by decide +kernel
theorem D_S_ask_33 : decode prog_1_method_37_code 33 = .ok (.ireturn, 1) := by decide +kernel
def f_S_ask (a1 : Int32) (a2 : Int32) (mem : Mm) : Option (Int32) := bp (f_S_isSlot a1) fun r_1 => if r_1 = 0 then some (-1000000001) else bp (f_K_known a2) fun r_8 => if r_8 = 0 then some (-1000000001) else if inb a1 5 = true then if mem (76 + 3 * ix a1) 0 = 0 then some (-1000000011) else if mem (76 + 3 * ix a1) 0 = 1 then bp (f_K_isUnder (mem (76 + 3 * ix a1) 1) a2) fun r_47 => if r_47 = 0 then some (-1000000012) else bp (f_K_worth (mem (76 + 3 * ix a1) 1) (mem (76 + 3 * ix a1) 2)) fun r_64 => some r_64 else some (-1000000012) else none
theorem c_S_ask (l : Launch) (E : En) (a1 : Int32) (a2 : Int32) {mem : Mm} {r : Int32} (h : f_S_ask a1 a2 mem = some r) : CtI l E 2 y_S_ask prog_1_method_37_code 4 (some .int) [.ref (eb E + 0), .int a1, .int a2] SH mem r mem := by
  refine mk_CtI ⟨by decide, (Nat.le_of_ble_eq_true rfl)⟩ (fun X S hl hR => ?_)
  have S : Std X E prog_1_method_37_code R5 4 2 := S
  show J X E 4 0 [(0, .ref (eb E + 0)), (1, .int a1), (2, .int a2)] [] SH mem
  unfold f_S_ask at h
  refine j_iload_n S D_S_ask_0 1 rfl rfl ?_
  obtain ⟨r_1, e_1, h⟩ := bpE h
  refine j_callSI (As := [.int a1]) S D_S_ask_1 ms_R5_241 (c_S_isSlot (cxL X) E a1 (mem := mem) e_1) (by decide) rfl rfl (Nat.le_of_ble_eq_true rfl) ?_
  refine j_if_eq S D_S_ask_4 (fun c_4 => ?_) (fun c_4 => ?_)
  · have h := ifT c_4 h
    refine j_ldc S D_S_ask_14 co_R5_77 ?_
    exact rtI hR h _ _ D_S_ask_16
  · have h := ifF c_4 h
    refine j_iload_n S D_S_ask_7 2 rfl rfl ?_
    obtain ⟨r_8, e_8, h⟩ := bpE h
    refine j_callSI (As := [.int a2]) S D_S_ask_8 ms_R5_64 (c_K_known (cxL X) E a2 (mem := mem) e_8) (by decide) rfl rfl (Nat.le_of_ble_eq_true rfl) ?_
    refine j_if_ne S D_S_ask_11 (fun c_11 => ?_) (fun c_11 => ?_)
    · have h := ifF c_11 h
      refine j_aload_n S D_S_ask_17 0 rfl rfl ?_
      refine j_getR S D_S_ask_18 fl_R5_34 sh_Sand rfl ?_
      refine j_iload_n S D_S_ask_21 1 rfl rfl ?_
      obtain ⟨g_22, h⟩ := gdE h
      refine j_aald S D_S_ask_22 sh_5 rfl g_22 (el_slt g_22) ?_
      refine j_astore_n S D_S_ask_23 (lv := [(3, .ref (eb E + (76 + 3 * ix a1))), (0, .ref (eb E + 0)), (1, .int a1), (2, .int a2)]) rfl ⟨rfl, (Nat.le_of_ble_eq_true rfl)⟩ ?_
      refine j_aload_n S D_S_ask_24 0 rfl rfl ?_
      refine j_getI S D_S_ask_25 fl_R5_244 (sh_slt (ro_slt g_22)) rfl ?_
      refine j_if_ne S D_S_ask_28 (fun c_28 => ?_) (fun c_28 => ?_)
      · have h := ifF c_28 h
        refine j_aload_n S D_S_ask_34 0 rfl rfl ?_
        refine j_getI S D_S_ask_35 fl_R5_244 (sh_slt (ro_slt g_22)) rfl ?_
        refine j_iconst S D_S_ask_38 ci_1 ?_
        refine j_icmp_ne S D_S_ask_39 (fun c_39 => ?_) (fun c_39 => ?_)
        · have h := ifF c_39 h
          refine j_ldc S D_S_ask_53 co_R5_115 ?_
          exact rtI hR h _ _ D_S_ask_55
        · have h := ifT c_39 h
          refine j_aload_n S D_S_ask_42 0 rfl rfl ?_
          refine j_getI S D_S_ask_43 fl_R5_247 (sh_slt (ro_slt g_22)) rfl ?_
          refine j_iload_n S D_S_ask_46 3 rfl rfl ?_
          obtain ⟨r_47, e_47, h⟩ := bpE h
          refine j_callSI (As := [.int (mem (76 + 3 * ix a1) 1), .int a2]) S D_S_ask_47 ms_R5_111 (c_K_isUnder (cxL X) E (mem (76 + 3 * ix a1) 1) a2 (mem := mem) e_47) (by decide) rfl rfl (Nat.le_of_ble_eq_true rfl) ?_
          refine j_if_ne S D_S_ask_50 (fun c_50 => ?_) (fun c_50 => ?_)
          · have h := ifF c_50 h
            refine j_aload_n S D_S_ask_56 0 rfl rfl ?_
            refine j_getI S D_S_ask_57 fl_R5_247 (sh_slt (ro_slt g_22)) rfl ?_
            refine j_aload_n S D_S_ask_60 0 rfl rfl ?_
            refine j_getI S D_S_ask_61 fl_R5_249 (sh_slt (ro_slt g_22)) rfl ?_
            obtain ⟨r_64, e_64, h⟩ := bpE h
            refine j_callSI (As := [.int (mem (76 + 3 * ix a1) 1), .int (mem (76 + 3 * ix a1) 2)]) S D_S_ask_64 ms_R5_98 (c_K_worth (cxL X) E (mem (76 + 3 * ix a1) 1) (mem (76 + 3 * ix a1) 2) (mem := mem) e_64) (by decide) rfl rfl (Nat.le_of_ble_eq_true rfl) ?_
            exact rtI hR h _ _ D_S_ask_67
          · have h := ifT c_50 h
            refine j_ldc S D_S_ask_53 co_R5_115 ?_
            exact rtI hR h _ _ D_S_ask_55
      · have h := ifT c_28 h
        refine j_ldc S D_S_ask_31 co_R5_184 ?_
        exact rtI hR h _ _ D_S_ask_33
    · have h := ifT c_11 h
      refine j_ldc S D_S_ask_14 co_R5_77 ?_
      exact rtI hR h _ _ D_S_ask_16

def y_S_item : MethodName := ⟨"SandPicture", "item", "(II)I"⟩
theorem D_S_item_0 : decode prog_1_method_38_code 0 = .ok (.iload_n 1, 1) ∧ 0 + 1 = 1 := by decide +kernel
theorem D_S_item_1 : decode prog_1_method_38_code 1 = .ok (.invokestatic 241, 3) ∧ 1 + 3 = 4 := by decide +kernel
theorem D_S_item_4 : decode prog_1_method_38_code 4 = .ok (.ifCond .ne 6, 3) ∧ ((4 : Nat) : Int) + 6 = ((10 : Nat) : Int) ∧ 4 + 3 = 7 := by decide +kernel
theorem D_S_item_10 : decode prog_1_method_38_code 10 = .ok (.aload_n 0, 1) ∧ 10 + 1 = 11 := by decide +kernel
theorem D_S_item_11 : decode prog_1_method_38_code 11 = .ok (.getfield 34, 3) ∧ 11 + 3 = 14 := by decide +kernel
theorem D_S_item_14 : decode prog_1_method_38_code 14 = .ok (.iload_n 1, 1) ∧ 14 + 1 = 15 := by decide +kernel
theorem D_S_item_15 : decode prog_1_method_38_code 15 = .ok (.aaload, 1) ∧ 15 + 1 = 16 := by decide +kernel
theorem D_S_item_16 : decode prog_1_method_38_code 16 = .ok (.getfield 244, 3) ∧ 16 + 3 = 19 := by decide +kernel
theorem D_S_item_19 : decode prog_1_method_38_code 19 = .ok (.ifCond .ne 6, 3) ∧ ((19 : Nat) : Int) + 6 = ((25 : Nat) : Int) ∧ 19 + 3 = 22 := by decide +kernel
theorem D_S_item_25 : decode prog_1_method_38_code 25 = .ok (.aload_n 0, 1) ∧ 25 + 1 = 26 := by decide +kernel
theorem D_S_item_26 : decode prog_1_method_38_code 26 = .ok (.getfield 34, 3) ∧ 26 + 3 = 29 := by decide +kernel
theorem D_S_item_29 : decode prog_1_method_38_code 29 = .ok (.iload_n 1, 1) ∧ 29 + 1 = 30 := by decide +kernel
theorem D_S_item_30 : decode prog_1_method_38_code 30 = .ok (.aaload, 1) ∧ 30 + 1 = 31 := by decide +kernel
theorem D_S_item_31 : decode prog_1_method_38_code 31 = .ok (.getfield 244, 3) ∧ 31 + 3 = 34 := by decide +kernel
theorem D_S_item_34 : decode prog_1_method_38_code 34 = .ok (.iconst 2, 1) ∧ 34 + 1 = 35 := by decide +kernel
theorem D_S_item_35 : decode prog_1_method_38_code 35 = .ok (.if_icmp .eq 6, 3) ∧ ((35 : Nat) : Int) + 6 = ((41 : Nat) : Int) ∧ 35 + 3 = 38 := by decide +kernel
theorem D_S_item_41 : decode prog_1_method_38_code 41 = .ok (.aload_n 0, 1) ∧ 41 + 1 = 42 := by decide +kernel
theorem D_S_item_42 : decode prog_1_method_38_code 42 = .ok (.getfield 34, 3) ∧ 42 + 3 = 45 := by decide +kernel
theorem D_S_item_45 : decode prog_1_method_38_code 45 = .ok (.iload_n 1, 1) ∧ 45 + 1 = 46 := by decide +kernel
theorem D_S_item_46 : decode prog_1_method_38_code 46 = .ok (.aaload, 1) ∧ 46 + 1 = 47 := by decide +kernel
theorem D_S_item_47 : decode prog_1_method_38_code 47 = .ok (.getfield 251, 3) ∧ 47 + 3 = 50 := by decide +kernel
theorem D_S_item_50 : decode prog_1_method_38_code 50 = .ok (.astore_n 3, 1) ∧ 50 + 1 = 51 := by decide +kernel
theorem D_S_item_51 : decode prog_1_method_38_code 51 = .ok (.iload_n 2, 1) ∧ 51 + 1 = 52 := by decide +kernel
theorem D_S_item_52 : decode prog_1_method_38_code 52 = .ok (.iconst 0, 1) ∧ 52 + 1 = 53 := by decide +kernel
theorem D_S_item_53 : decode prog_1_method_38_code 53 = .ok (.aload_n 3, 1) ∧ 53 + 1 = 54 := by decide +kernel
theorem D_S_item_54 : decode prog_1_method_38_code 54 = .ok (.getfield 220, 3) ∧ 54 + 3 = 57 := by decide +kernel
theorem D_S_item_57 : decode prog_1_method_38_code 57 = .ok (.iconst 1, 1) ∧ 57 + 1 = 58 := by decide +kernel
theorem D_S_item_58 : decode prog_1_method_38_code 58 = .ok (.isub, 1) ∧ 58 + 1 = 59 := by decide +kernel
theorem D_S_item_59 : decode prog_1_method_38_code 59 = .ok (.invokestatic 70, 3) ∧ 59 + 3 = 62 := by decide +kernel
theorem D_S_item_62 : decode prog_1_method_38_code 62 = .ok (.ifCond .ne 6, 3) ∧ ((62 : Nat) : Int) + 6 = ((68 : Nat) : Int) ∧ 62 + 3 = 65 := by decide +kernel
theorem D_S_item_68 : decode prog_1_method_38_code 68 = .ok (.aload_n 3, 1) ∧ 68 + 1 = 69 := by decide +kernel
theorem D_S_item_69 : decode prog_1_method_38_code 69 = .ok (.iload_n 2, 1) ∧ 69 + 1 = 70 := by decide +kernel
theorem D_S_item_70 : decode prog_1_method_38_code 70 = .ok (.invokevirtual 226, 3) ∧ 70 + 3 = 73 := by decide +kernel
theorem D_S_item_73 : decode prog_1_method_38_code 73 = .ok (.ifCond .eq 12, 3) ∧ ((73 : Nat) : Int) + 12 = ((85 : Nat) : Int) ∧ 73 + 3 = 76 := by decide +kernel
theorem D_S_item_85 : decode prog_1_method_38_code 85 = .ok (.ldc 115, 2) ∧ 85 + 2 = 87 := by decide +kernel
theorem D_S_item_87 : decode prog_1_method_38_code 87 = .ok (.ireturn, 1) := by decide +kernel
theorem D_S_item_76 : decode prog_1_method_38_code 76 = .ok (.aload_n 3, 1) ∧ 76 + 1 = 77 := by decide +kernel
theorem D_S_item_77 : decode prog_1_method_38_code 77 = .ok (.getfield 222, 3) ∧ 77 + 3 = 80 := by decide +kernel
theorem D_S_item_80 : decode prog_1_method_38_code 80 = .ok (.iload_n 2, 1) ∧ 80 + 1 = 81 := by decide +kernel
theorem D_S_item_81 : decode prog_1_method_38_code 81 = .ok (.iaload, 1) ∧ 81 + 1 = 82 := by decide +kernel
theorem D_S_item_82 : decode prog_1_method_38_code 82 = .ok (.goto 5, 3) ∧ ((82 : Nat) : Int) + 5 = ((87 : Nat) : Int) := by decide +kernel
theorem D_S_item_65 : decode prog_1_method_38_code 65 = .ok (.ldc 221, 2) ∧ 65 + 2 = 67 := by decide +kernel
theorem D_S_item_67 : decode prog_1_method_38_code 67 = .ok (.ireturn, 1) := by decide +kernel
theorem D_S_item_38 : decode prog_1_method_38_code 38 = .ok (.ldc 115, 2) ∧ 38 + 2 = 40 := by decide +kernel
theorem D_S_item_40 : decode prog_1_method_38_code 40 = .ok (.ireturn, 1) := by decide +kernel
theorem D_S_item_22 : decode prog_1_method_38_code 22 = .ok (.ldc 184, 2) ∧ 22 + 2 = 24 := by decide +kernel
theorem D_S_item_24 : decode prog_1_method_38_code 24 = .ok (.ireturn, 1) := by decide +kernel
theorem D_S_item_7 : decode prog_1_method_38_code 7 = .ok (.ldc 77, 2) ∧ 7 + 2 = 9 := by decide +kernel
theorem D_S_item_9 : decode prog_1_method_38_code 9 = .ok (.ireturn, 1) := by decide +kernel
def f_S_item (a1 : Int32) (a2 : Int32) (mem : Mm) : Option (Int32) := bp (f_S_isSlot a1) fun r_1 => if r_1 = 0 then some (-1000000001) else if inb a1 5 = true then if mem (76 + 3 * ix a1) 0 = 0 then some (-1000000011) else if mem (76 + 3 * ix a1) 0 = 2 then bp (f_S_within a2 0 ((mem ((76 + 3 * ix a1) + 1) 1) - 1)) fun r_59 => if r_59 = 0 then some (-1000000013) else bp (f_H_hasNumber ((76 + 3 * ix a1) + 1) a2 mem) fun r_70 => if r_70 = 0 then some (-1000000012) else if inb a2 24 = true then some (mem (((76 + 3 * ix a1) + 1) + 1) (ix a2)) else none else some (-1000000012) else none
theorem c_S_item (l : Launch) (E : En) (a1 : Int32) (a2 : Int32) {mem : Mm} {r : Int32} (h : f_S_item a1 a2 mem = some r) : CtI l E 2 y_S_item prog_1_method_38_code 4 (some .int) [.ref (eb E + 0), .int a1, .int a2] SH mem r mem := by
  refine mk_CtI ⟨by decide, (Nat.le_of_ble_eq_true rfl)⟩ (fun X S hl hR => ?_)
  have S : Std X E prog_1_method_38_code R5 4 2 := S
  show J X E 4 0 [(0, .ref (eb E + 0)), (1, .int a1), (2, .int a2)] [] SH mem
  unfold f_S_item at h
  refine j_iload_n S D_S_item_0 1 rfl rfl ?_
  obtain ⟨r_1, e_1, h⟩ := bpE h
  refine j_callSI (As := [.int a1]) S D_S_item_1 ms_R5_241 (c_S_isSlot (cxL X) E a1 (mem := mem) e_1) (by decide) rfl rfl (Nat.le_of_ble_eq_true rfl) ?_
  refine j_if_ne S D_S_item_4 (fun c_4 => ?_) (fun c_4 => ?_)
  · have h := ifF c_4 h
    refine j_aload_n S D_S_item_10 0 rfl rfl ?_
    refine j_getR S D_S_item_11 fl_R5_34 sh_Sand rfl ?_
    refine j_iload_n S D_S_item_14 1 rfl rfl ?_
    obtain ⟨g_15, h⟩ := gdE h
    refine j_aald S D_S_item_15 sh_5 rfl g_15 (el_slt g_15) ?_
    refine j_getI S D_S_item_16 fl_R5_244 (sh_slt (ro_slt g_15)) rfl ?_
    refine j_if_ne S D_S_item_19 (fun c_19 => ?_) (fun c_19 => ?_)
    · have h := ifF c_19 h
      refine j_aload_n S D_S_item_25 0 rfl rfl ?_
      refine j_getR S D_S_item_26 fl_R5_34 sh_Sand rfl ?_
      refine j_iload_n S D_S_item_29 1 rfl rfl ?_
      refine j_aald S D_S_item_30 sh_5 rfl g_15 (el_slt g_15) ?_
      refine j_getI S D_S_item_31 fl_R5_244 (sh_slt (ro_slt g_15)) rfl ?_
      refine j_iconst S D_S_item_34 ci_2 ?_
      refine j_icmp_eq S D_S_item_35 (fun c_35 => ?_) (fun c_35 => ?_)
      · have h := ifT c_35 h
        refine j_aload_n S D_S_item_41 0 rfl rfl ?_
        refine j_getR S D_S_item_42 fl_R5_34 sh_Sand rfl ?_
        refine j_iload_n S D_S_item_45 1 rfl rfl ?_
        refine j_aald S D_S_item_46 sh_5 rfl g_15 (el_slt g_15) ?_
        refine j_getR S D_S_item_47 fl_R5_251 (sh_slt (ro_slt g_15)) rfl ?_
        refine j_astore_n S D_S_item_50 (lv := [(3, .ref (eb E + ((76 + 3 * ix a1) + 1))), (0, .ref (eb E + 0)), (1, .int a1), (2, .int a2)]) rfl ⟨rfl, (Nat.le_of_ble_eq_true rfl)⟩ ?_
        refine j_iload_n S D_S_item_51 3 rfl rfl ?_
        refine j_iconst S D_S_item_52 ci_0 ?_
        refine j_aload_n S D_S_item_53 0 rfl rfl ?_
        refine j_getI S D_S_item_54 fl_R5_220 (sh_sht (ro_slsh (ro_slt g_15))) rfl ?_
        refine j_iconst S D_S_item_57 ci_1 ?_
        refine j_isub S D_S_item_58 ?_
        obtain ⟨r_59, e_59, h⟩ := bpE h
        refine j_callSI (As := [.int a2, .int 0, .int ((mem ((76 + 3 * ix a1) + 1) 1) - 1)]) S D_S_item_59 ms_R5_70 (c_S_within (cxL X) E a2 0 ((mem ((76 + 3 * ix a1) + 1) 1) - 1) (mem := mem) e_59) (by decide) rfl rfl (Nat.le_of_ble_eq_true rfl) ?_
        refine j_if_ne S D_S_item_62 (fun c_62 => ?_) (fun c_62 => ?_)
        · have h := ifF c_62 h
          refine j_aload_n S D_S_item_68 0 rfl rfl ?_
          refine j_iload_n S D_S_item_69 3 rfl rfl ?_
          obtain ⟨r_70, e_70, h⟩ := bpE h
          refine j_callVI (As := [.int a2]) S D_S_item_70 mv_R5_226 (c_H_hasNumber (cxL X) E ((76 + 3 * ix a1) + 1) (ro_slsh (ro_slt g_15)) a2 e_70) (by decide) (sh_sht (ro_slsh (ro_slt g_15))) rfl rfl rfl rfl (Nat.le_of_ble_eq_true rfl) ?_
          refine j_if_eq S D_S_item_73 (fun c_73 => ?_) (fun c_73 => ?_)
          · have h := ifT c_73 h
            refine j_ldc S D_S_item_85 co_R5_115 ?_
            exact rtI hR h _ _ D_S_item_87
          · have h := ifF c_73 h
            refine j_aload_n S D_S_item_76 0 rfl rfl ?_
            refine j_getR S D_S_item_77 fl_R5_222 (sh_sht (ro_slsh (ro_slt g_15))) rfl ?_
            refine j_iload_n S D_S_item_80 3 rfl rfl ?_
            obtain ⟨g_81, h⟩ := gdE h
            refine j_iald S D_S_item_81 (sh_sht1 (ro_slsh (ro_slt g_15))) g_81 ?_
            refine j_goto S D_S_item_82 ?_
            exact rtI hR h _ _ D_S_item_87
        · have h := ifT c_62 h
          refine j_ldc S D_S_item_65 co_R5_221 ?_
          exact rtI hR h _ _ D_S_item_67
      · have h := ifF c_35 h
        refine j_ldc S D_S_item_38 co_R5_115 ?_
        exact rtI hR h _ _ D_S_item_40
    · have h := ifT c_19 h
      refine j_ldc S D_S_item_22 co_R5_184 ?_
      exact rtI hR h _ _ D_S_item_24
  · have h := ifT c_4 h
    refine j_ldc S D_S_item_7 co_R5_77 ?_
    exact rtI hR h _ _ D_S_item_9

def y_S_rest : MethodName := ⟨"SandPicture", "rest", "(II)I"⟩
theorem D_S_rest_0 : decode prog_1_method_39_code 0 = .ok (.iload_n 1, 1) ∧ 0 + 1 = 1 := by decide +kernel
theorem D_S_rest_1 : decode prog_1_method_39_code 1 = .ok (.invokestatic 241, 3) ∧ 1 + 3 = 4 := by decide +kernel
theorem D_S_rest_4 : decode prog_1_method_39_code 4 = .ok (.ifCond .ne 6, 3) ∧ ((4 : Nat) : Int) + 6 = ((10 : Nat) : Int) ∧ 4 + 3 = 7 := by decide +kernel
theorem D_S_rest_10 : decode prog_1_method_39_code 10 = .ok (.aload_n 0, 1) ∧ 10 + 1 = 11 := by decide +kernel
theorem D_S_rest_11 : decode prog_1_method_39_code 11 = .ok (.getfield 34, 3) ∧ 11 + 3 = 14 := by decide +kernel
theorem D_S_rest_14 : decode prog_1_method_39_code 14 = .ok (.iload_n 1, 1) ∧ 14 + 1 = 15 := by decide +kernel
theorem D_S_rest_15 : decode prog_1_method_39_code 15 = .ok (.aaload, 1) ∧ 15 + 1 = 16 := by decide +kernel
theorem D_S_rest_16 : decode prog_1_method_39_code 16 = .ok (.getfield 244, 3) ∧ 16 + 3 = 19 := by decide +kernel
theorem D_S_rest_19 : decode prog_1_method_39_code 19 = .ok (.ifCond .ne 6, 3) ∧ ((19 : Nat) : Int) + 6 = ((25 : Nat) : Int) ∧ 19 + 3 = 22 := by decide +kernel
theorem D_S_rest_25 : decode prog_1_method_39_code 25 = .ok (.aload_n 0, 1) ∧ 25 + 1 = 26 := by decide +kernel
theorem D_S_rest_26 : decode prog_1_method_39_code 26 = .ok (.getfield 34, 3) ∧ 26 + 3 = 29 := by decide +kernel
theorem D_S_rest_29 : decode prog_1_method_39_code 29 = .ok (.iload_n 1, 1) ∧ 29 + 1 = 30 := by decide +kernel
theorem D_S_rest_30 : decode prog_1_method_39_code 30 = .ok (.aaload, 1) ∧ 30 + 1 = 31 := by decide +kernel
theorem D_S_rest_31 : decode prog_1_method_39_code 31 = .ok (.getfield 244, 3) ∧ 31 + 3 = 34 := by decide +kernel
theorem D_S_rest_34 : decode prog_1_method_39_code 34 = .ok (.iconst 3, 1) ∧ 34 + 1 = 35 := by decide +kernel
theorem D_S_rest_35 : decode prog_1_method_39_code 35 = .ok (.if_icmp .eq 6, 3) ∧ ((35 : Nat) : Int) + 6 = ((41 : Nat) : Int) ∧ 35 + 3 = 38 := by decide +kernel
theorem D_S_rest_41 : decode prog_1_method_39_code 41 = .ok (.iload_n 2, 1) ∧ 41 + 1 = 42 := by decide +kernel
theorem D_S_rest_42 : decode prog_1_method_39_code 42 = .ok (.ifCond .ne 9, 3) ∧ ((42 : Nat) : Int) + 9 = ((51 : Nat) : Int) ∧ 42 + 3 = 45 := by decide +kernel
theorem D_S_rest_51 : decode prog_1_method_39_code 51 = .ok (.aload_n 0, 1) ∧ 51 + 1 = 52 := by decide +kernel
theorem D_S_rest_52 : decode prog_1_method_39_code 52 = .ok (.getfield 34, 3) ∧ 52 + 3 = 55 := by decide +kernel
theorem D_S_rest_55 : decode prog_1_method_39_code 55 = .ok (.iload_n 1, 1) ∧ 55 + 1 = 56 := by decide +kernel
theorem D_S_rest_56 : decode prog_1_method_39_code 56 = .ok (.aaload, 1) ∧ 56 + 1 = 57 := by decide +kernel
theorem D_S_rest_57 : decode prog_1_method_39_code 57 = .ok (.getfield 258, 3) ∧ 57 + 3 = 60 := by decide +kernel
theorem D_S_rest_60 : decode prog_1_method_39_code 60 = .ok (.iload_n 2, 1) ∧ 60 + 1 = 61 := by decide +kernel
theorem D_S_rest_61 : decode prog_1_method_39_code 61 = .ok (.irem, 1) ∧ 61 + 1 = 62 := by decide +kernel
theorem D_S_rest_62 : decode prog_1_method_39_code 62 = .ok (.ireturn, 1) := by decide +kernel
theorem D_S_rest_45 : decode prog_1_method_39_code 45 = .ok (.ldc_w 261, 3) ∧ 45 + 3 = 48 := by decide +kernel
theorem D_S_rest_48 : decode prog_1_method_39_code 48 = .ok (.goto 14, 3) ∧ ((48 : Nat) : Int) + 14 = ((62 : Nat) : Int) := by decide +kernel
theorem D_S_rest_38 : decode prog_1_method_39_code 38 = .ok (.ldc 115, 2) ∧ 38 + 2 = 40 := by decide +kernel
theorem D_S_rest_40 : decode prog_1_method_39_code 40 = .ok (.ireturn, 1) := by decide +kernel
theorem D_S_rest_22 : decode prog_1_method_39_code 22 = .ok (.ldc 184, 2) ∧ 22 + 2 = 24 := by decide +kernel
theorem D_S_rest_24 : decode prog_1_method_39_code 24 = .ok (.ireturn, 1) := by decide +kernel
theorem D_S_rest_7 : decode prog_1_method_39_code 7 = .ok (.ldc 77, 2) ∧ 7 + 2 = 9 := by decide +kernel
theorem D_S_rest_9 : decode prog_1_method_39_code 9 = .ok (.ireturn, 1) := by decide +kernel
def f_S_rest (a1 : Int32) (a2 : Int32) (mem : Mm) : Option (Int32) := bp (f_S_isSlot a1) fun r_1 => if r_1 = 0 then some (-1000000001) else if inb a1 5 = true then if mem (76 + 3 * ix a1) 0 = 0 then some (-1000000011) else if mem (76 + 3 * ix a1) 0 = 3 then if a2 = 0 then some (-1000000002) else some ((mem (76 + 3 * ix a1) 3) - (mem (76 + 3 * ix a1) 3) / a2 * a2) else some (-1000000012) else none
theorem c_S_rest (l : Launch) (E : En) (a1 : Int32) (a2 : Int32) {mem : Mm} {r : Int32} (h : f_S_rest a1 a2 mem = some r) : CtI l E 2 y_S_rest prog_1_method_39_code 3 (some .int) [.ref (eb E + 0), .int a1, .int a2] SH mem r mem := by
  refine mk_CtI ⟨by decide, (Nat.le_of_ble_eq_true rfl)⟩ (fun X S hl hR => ?_)
  have S : Std X E prog_1_method_39_code R5 3 2 := S
  show J X E 3 0 [(0, .ref (eb E + 0)), (1, .int a1), (2, .int a2)] [] SH mem
  unfold f_S_rest at h
  refine j_iload_n S D_S_rest_0 1 rfl rfl ?_
  obtain ⟨r_1, e_1, h⟩ := bpE h
  refine j_callSI (As := [.int a1]) S D_S_rest_1 ms_R5_241 (c_S_isSlot (cxL X) E a1 (mem := mem) e_1) (by decide) rfl rfl (Nat.le_of_ble_eq_true rfl) ?_
  refine j_if_ne S D_S_rest_4 (fun c_4 => ?_) (fun c_4 => ?_)
  · have h := ifF c_4 h
    refine j_aload_n S D_S_rest_10 0 rfl rfl ?_
    refine j_getR S D_S_rest_11 fl_R5_34 sh_Sand rfl ?_
    refine j_iload_n S D_S_rest_14 1 rfl rfl ?_
    obtain ⟨g_15, h⟩ := gdE h
    refine j_aald S D_S_rest_15 sh_5 rfl g_15 (el_slt g_15) ?_
    refine j_getI S D_S_rest_16 fl_R5_244 (sh_slt (ro_slt g_15)) rfl ?_
    refine j_if_ne S D_S_rest_19 (fun c_19 => ?_) (fun c_19 => ?_)
    · have h := ifF c_19 h
      refine j_aload_n S D_S_rest_25 0 rfl rfl ?_
      refine j_getR S D_S_rest_26 fl_R5_34 sh_Sand rfl ?_
      refine j_iload_n S D_S_rest_29 1 rfl rfl ?_
      refine j_aald S D_S_rest_30 sh_5 rfl g_15 (el_slt g_15) ?_
      refine j_getI S D_S_rest_31 fl_R5_244 (sh_slt (ro_slt g_15)) rfl ?_
      refine j_iconst S D_S_rest_34 ci_3 ?_
      refine j_icmp_eq S D_S_rest_35 (fun c_35 => ?_) (fun c_35 => ?_)
      · have h := ifT c_35 h
        refine j_iload_n S D_S_rest_41 2 rfl rfl ?_
        refine j_if_ne S D_S_rest_42 (fun c_42 => ?_) (fun c_42 => ?_)
        · have h := ifF c_42 h
          refine j_aload_n S D_S_rest_51 0 rfl rfl ?_
          refine j_getR S D_S_rest_52 fl_R5_34 sh_Sand rfl ?_
          refine j_iload_n S D_S_rest_55 1 rfl rfl ?_
          refine j_aald S D_S_rest_56 sh_5 rfl g_15 (el_slt g_15) ?_
          refine j_getI S D_S_rest_57 fl_R5_258 (sh_slt (ro_slt g_15)) rfl ?_
          refine j_iload_n S D_S_rest_60 2 rfl rfl ?_
          refine j_irem S D_S_rest_61 c_42 ?_
          exact rtI hR h _ _ D_S_rest_62
        · have h := ifT c_42 h
          refine j_ldcw S D_S_rest_45 co_R5_261 ?_
          refine j_goto S D_S_rest_48 ?_
          exact rtI hR h _ _ D_S_rest_62
      · have h := ifF c_35 h
        refine j_ldc S D_S_rest_38 co_R5_115 ?_
        exact rtI hR h _ _ D_S_rest_40
    · have h := ifT c_19 h
      refine j_ldc S D_S_rest_22 co_R5_184 ?_
      exact rtI hR h _ _ D_S_rest_24
  · have h := ifT c_4 h
    refine j_ldc S D_S_rest_7 co_R5_77 ?_
    exact rtI hR h _ _ D_S_rest_9

def y_S_tell : MethodName := ⟨"SandPicture", "tell", "(I)I"⟩
theorem D_S_tell_0 : decode prog_1_method_40_code 0 = .ok (.aload_n 0, 1) ∧ 0 + 1 = 1 := by decide +kernel
theorem D_S_tell_1 : decode prog_1_method_40_code 1 = .ok (.getfield 42, 3) ∧ 1 + 3 = 4 := by decide +kernel
theorem D_S_tell_4 : decode prog_1_method_40_code 4 = .ok (.bipush 60, 2) ∧ 4 + 2 = 6 := by decide +kernel
theorem D_S_tell_6 : decode prog_1_method_40_code 6 = .ok (.if_icmp .lt 6, 3) ∧ ((6 : Nat) : Int) + 6 = ((12 : Nat) : Int) ∧ 6 + 3 = 9 := by decide +kernel
theorem D_S_tell_12 : decode prog_1_method_40_code 12 = .ok (.aload_n 0, 1) ∧ 12 + 1 = 13 := by decide +kernel
theorem D_S_tell_13 : decode prog_1_method_40_code 13 = .ok (.getfield 38, 3) ∧ 13 + 3 = 16 := by decide +kernel
theorem D_S_tell_16 : decode prog_1_method_40_code 16 = .ok (.aload_n 0, 1) ∧ 16 + 1 = 17 := by decide +kernel
theorem D_S_tell_17 : decode prog_1_method_40_code 17 = .ok (.getfield 42, 3) ∧ 17 + 3 = 20 := by decide +kernel
theorem D_S_tell_20 : decode prog_1_method_40_code 20 = .ok (.iload_n 1, 1) ∧ 20 + 1 = 21 := by decide +kernel
theorem D_S_tell_21 : decode prog_1_method_40_code 21 = .ok (.iastore, 1) ∧ 21 + 1 = 22 := by decide +kernel
theorem D_S_tell_22 : decode prog_1_method_40_code 22 = .ok (.aload_n 0, 1) ∧ 22 + 1 = 23 := by decide +kernel
theorem D_S_tell_23 : decode prog_1_method_40_code 23 = .ok (.dup, 1) ∧ 23 + 1 = 24 := by decide +kernel
theorem D_S_tell_24 : decode prog_1_method_40_code 24 = .ok (.getfield 42, 3) ∧ 24 + 3 = 27 := by decide +kernel
theorem D_S_tell_27 : decode prog_1_method_40_code 27 = .ok (.iconst 1, 1) ∧ 27 + 1 = 28 := by decide +kernel
theorem D_S_tell_28 : decode prog_1_method_40_code 28 = .ok (.iadd, 1) ∧ 28 + 1 = 29 := by decide +kernel
theorem D_S_tell_29 : decode prog_1_method_40_code 29 = .ok (.putfield 42, 3) ∧ 29 + 3 = 32 := by decide +kernel
theorem D_S_tell_32 : decode prog_1_method_40_code 32 = .ok (.aload_n 0, 1) ∧ 32 + 1 = 33 := by decide +kernel
theorem D_S_tell_33 : decode prog_1_method_40_code 33 = .ok (.getfield 42, 3) ∧ 33 + 3 = 36 := by decide +kernel
theorem D_S_tell_36 : decode prog_1_method_40_code 36 = .ok (.ireturn, 1) := by decide +kernel
theorem D_S_tell_9 : decode prog_1_method_40_code 9 = .ok (.ldc 81, 2) ∧ 9 + 2 = 11 := by decide +kernel
theorem D_S_tell_11 : decode prog_1_method_40_code 11 = .ok (.ireturn, 1) := by decide +kernel
def f_S_tell (a1 : Int32) (mem : Mm) : Option (Int32 × Mm) := if mem 0 9 < 60 then if inb (mem 0 9) 60 = true then lt (mst mem 6 (ix (mem 0 9)) a1) fun m_21 => lt (mst m_21 0 9 ((m_21 0 9) + 1)) fun m_29 => some (m_29 0 9, m_29) else none else some ((-1000000003), mem)
theorem c_S_tell (l : Launch) (E : En) (a1 : Int32) {mem : Mm} {r : Int32} {m2 : Mm} (h : f_S_tell a1 mem = some (r, m2)) : CtI l E 0 y_S_tell prog_1_method_40_code 2 (some .int) [.ref (eb E + 0), .int a1] SH mem r m2 := by
  refine mk_CtI ⟨by decide, (Nat.le_of_ble_eq_true rfl)⟩ (fun X S hl hR => ?_)
  have S : Std X E prog_1_method_40_code R5 2 0 := S
  show J X E 2 0 [(0, .ref (eb E + 0)), (1, .int a1)] [] SH mem
  unfold f_S_tell at h
  refine j_aload_n S D_S_tell_0 0 rfl rfl ?_
  refine j_getI S D_S_tell_1 fl_R5_42 sh_Sand rfl ?_
  refine j_bipush S D_S_tell_4 cb_60 ?_
  refine j_icmp_lt S D_S_tell_6 (fun c_6 => ?_) (fun c_6 => ?_)
  · have h := ifT c_6 h
    refine j_aload_n S D_S_tell_12 0 rfl rfl ?_
    refine j_getR S D_S_tell_13 fl_R5_38 sh_Sand rfl ?_
    refine j_aload_n S D_S_tell_16 0 rfl rfl ?_
    refine j_getI S D_S_tell_17 fl_R5_42 sh_Sand rfl ?_
    refine j_iload_n S D_S_tell_20 1 rfl rfl ?_
    obtain ⟨g_21, h⟩ := gdE h
    obtain ⟨m_21, hm_21, h⟩ := ltE h
    refine j_iast S D_S_tell_21 sh_6 g_21 ?_
    refine j_mem hm_21 ?_
    refine j_aload_n S D_S_tell_22 0 rfl rfl ?_
    refine j_dup S D_S_tell_23 rfl ?_
    refine j_getI S D_S_tell_24 fl_R5_42 sh_Sand rfl ?_
    refine j_iconst S D_S_tell_27 ci_1 ?_
    refine j_iadd S D_S_tell_28 ?_
    obtain ⟨m_29, hm_29, h⟩ := ltE h
    refine j_putI S D_S_tell_29 fp_R5_42 sh_Sand rfl ?_
    refine j_mem hm_29 ?_
    refine j_aload_n S D_S_tell_32 0 rfl rfl ?_
    refine j_getI S D_S_tell_33 fl_R5_42 sh_Sand rfl ?_
    exact rtM hR h _ _ D_S_tell_36
  · have h := ifF c_6 h
    refine j_ldc S D_S_tell_9 co_R5_81 ?_
    exact rtM hR h _ _ D_S_tell_11

def y_S_check : MethodName := ⟨"SandPicture", "check", "(I)I"⟩
theorem D_S_check_0 : decode prog_1_method_41_code 0 = .ok (.aload_n 0, 1) ∧ 0 + 1 = 1 := by decide +kernel
theorem D_S_check_1 : decode prog_1_method_41_code 1 = .ok (.getfield 42, 3) ∧ 1 + 3 = 4 := by decide +kernel
theorem D_S_check_4 : decode prog_1_method_41_code 4 = .ok (.istore_n 2, 1) ∧ 4 + 1 = 5 := by decide +kernel
theorem D_S_check_5 : decode prog_1_method_41_code 5 = .ok (.aload_n 0, 1) ∧ 5 + 1 = 6 := by decide +kernel
theorem D_S_check_6 : decode prog_1_method_41_code 6 = .ok (.iconst 0, 1) ∧ 6 + 1 = 7 := by decide +kernel
theorem D_S_check_7 : decode prog_1_method_41_code 7 = .ok (.putfield 42, 3) ∧ 7 + 3 = 10 := by decide +kernel
theorem D_S_check_10 : decode prog_1_method_41_code 10 = .ok (.iload_n 1, 1) ∧ 10 + 1 = 11 := by decide +kernel
theorem D_S_check_11 : decode prog_1_method_41_code 11 = .ok (.iconst 1, 1) ∧ 11 + 1 = 12 := by decide +kernel
theorem D_S_check_12 : decode prog_1_method_41_code 12 = .ok (.bipush 30, 2) ∧ 12 + 2 = 14 := by decide +kernel
theorem D_S_check_14 : decode prog_1_method_41_code 14 = .ok (.invokestatic 70, 3) ∧ 14 + 3 = 17 := by decide +kernel
theorem D_S_check_17 : decode prog_1_method_41_code 17 = .ok (.ifCond .ne 6, 3) ∧ ((17 : Nat) : Int) + 6 = ((23 : Nat) : Int) ∧ 17 + 3 = 20 := by decide +kernel
theorem D_S_check_23 : decode prog_1_method_41_code 23 = .ok (.aload_n 0, 1) ∧ 23 + 1 = 24 := by decide +kernel
theorem D_S_check_24 : decode prog_1_method_41_code 24 = .ok (.getfield 22, 3) ∧ 24 + 3 = 27 := by decide +kernel
theorem D_S_check_27 : decode prog_1_method_41_code 27 = .ok (.ifCond .ne 7, 3) ∧ ((27 : Nat) : Int) + 7 = ((34 : Nat) : Int) ∧ 27 + 3 = 30 := by decide +kernel
theorem D_S_check_34 : decode prog_1_method_41_code 34 = .ok (.aload_n 0, 1) ∧ 34 + 1 = 35 := by decide +kernel
theorem D_S_check_35 : decode prog_1_method_41_code 35 = .ok (.getfield 59, 3) ∧ 35 + 3 = 38 := by decide +kernel
theorem D_S_check_38 : decode prog_1_method_41_code 38 = .ok (.aload_n 0, 1) ∧ 38 + 1 = 39 := by decide +kernel
theorem D_S_check_39 : decode prog_1_method_41_code 39 = .ok (.getfield 56, 3) ∧ 39 + 3 = 42 := by decide +kernel
theorem D_S_check_42 : decode prog_1_method_41_code 42 = .ok (.invokevirtual 166, 3) ∧ 42 + 3 = 45 := by decide +kernel
theorem D_S_check_45 : decode prog_1_method_41_code 45 = .ok (.iconst 2, 1) ∧ 45 + 1 = 46 := by decide +kernel
theorem D_S_check_46 : decode prog_1_method_41_code 46 = .ok (.iload_n 1, 1) ∧ 46 + 1 = 47 := by decide +kernel
theorem D_S_check_47 : decode prog_1_method_41_code 47 = .ok (.sipush 9999, 3) ∧ 47 + 3 = 50 := by decide +kernel
theorem D_S_check_50 : decode prog_1_method_41_code 50 = .ok (.aload_n 0, 1) ∧ 50 + 1 = 51 := by decide +kernel
theorem D_S_check_51 : decode prog_1_method_41_code 51 = .ok (.getfield 56, 3) ∧ 51 + 3 = 54 := by decide +kernel
theorem D_S_check_54 : decode prog_1_method_41_code 54 = .ok (.getfield 149, 3) ∧ 54 + 3 = 57 := by decide +kernel
theorem D_S_check_57 : decode prog_1_method_41_code 57 = .ok (.isub, 1) ∧ 57 + 1 = 58 := by decide +kernel
theorem D_S_check_58 : decode prog_1_method_41_code 58 = .ok (.invokestatic 138, 3) ∧ 58 + 3 = 61 := by decide +kernel
theorem D_S_check_61 : decode prog_1_method_41_code 61 = .ok (.imul, 1) ∧ 61 + 1 = 62 := by decide +kernel
theorem D_S_check_62 : decode prog_1_method_41_code 62 = .ok (.istore_n 3, 1) ∧ 62 + 1 = 63 := by decide +kernel
theorem D_S_check_63 : decode prog_1_method_41_code 63 = .ok (.iconst 0, 1) ∧ 63 + 1 = 64 := by decide +kernel
theorem D_S_check_64 : decode prog_1_method_41_code 64 = .ok (.istore 4, 2) ∧ 64 + 2 = 66 := by decide +kernel
theorem D_S_check_66 : decode prog_1_method_41_code 66 = .ok (.iload 4, 2) ∧ 66 + 2 = 68 := by decide +kernel
theorem D_S_check_68 : decode prog_1_method_41_code 68 = .ok (.iload_n 3, 1) ∧ 68 + 1 = 69 := by decide +kernel
theorem D_S_check_69 : decode prog_1_method_41_code 69 = .ok (.if_icmp .ge 79, 3) ∧ ((69 : Nat) : Int) + 79 = ((148 : Nat) : Int) ∧ 69 + 3 = 72 := by decide +kernel
theorem D_S_check_148 : decode prog_1_method_41_code 148 = .ok (.iload_n 2, 1) ∧ 148 + 1 = 149 := by decide +kernel
theorem D_S_check_149 : decode prog_1_method_41_code 149 = .ok (.iload_n 3, 1) ∧ 149 + 1 = 150 := by decide +kernel
theorem D_S_check_159 : decode prog_1_method_41_code 159 = .ok (.iconst 0, 1) ∧ 159 + 1 = 160 := by decide +kernel
theorem D_S_check_153 : decode prog_1_method_41_code 153 = .ok (.iconst 1, 1) ∧ 153 + 1 = 154 := by decide +kernel
theorem D_S_check_154 : decode prog_1_method_41_code 154 = .ok (.iload_n 3, 1) ∧ 154 + 1 = 155 := by decide +kernel
theorem D_S_check_155 : decode prog_1_method_41_code 155 = .ok (.iadd, 1) ∧ 155 + 1 = 156 := by decide +kernel
theorem D_S_check_156 : decode prog_1_method_41_code 156 = .ok (.goto 4, 3) ∧ ((156 : Nat) : Int) + 4 = ((160 : Nat) : Int) := by decide +kernel
theorem D_S_check_150 : decode prog_1_method_41_code 150 = .ok (.if_icmp .le 9, 3) ∧ ((150 : Nat) : Int) + 9 = ((159 : Nat) : Int) ∧ 150 + 3 = 153 := by decide +kernel
theorem D_S_check_160 : decode prog_1_method_41_code 160 = .ok (.ireturn, 1) := by decide +kernel
theorem D_S_check_72 : decode prog_1_method_41_code 72 = .ok (.iload 4, 2) ∧ 72 + 2 = 74 := by decide +kernel
theorem D_S_check_74 : decode prog_1_method_41_code 74 = .ok (.iconst 2, 1) ∧ 74 + 1 = 75 := by decide +kernel
theorem D_S_check_75 : decode prog_1_method_41_code 75 = .ok (.irem, 1) ∧ 75 + 1 = 76 := by decide +kernel
theorem D_S_check_76 : decode prog_1_method_41_code 76 = .ok (.ifCond .ne 11, 3) ∧ ((76 : Nat) : Int) + 11 = ((87 : Nat) : Int) ∧ 76 + 3 = 79 := by decide +kernel
theorem D_S_check_87 : decode prog_1_method_41_code 87 = .ok (.iload 4, 2) ∧ 87 + 2 = 89 := by decide +kernel
theorem D_S_check_89 : decode prog_1_method_41_code 89 = .ok (.iconst 2, 1) ∧ 89 + 1 = 90 := by decide +kernel
theorem D_S_check_90 : decode prog_1_method_41_code 90 = .ok (.irem, 1) ∧ 90 + 1 = 91 := by decide +kernel
theorem D_S_check_91 : decode prog_1_method_41_code 91 = .ok (.ifCond .ne 16, 3) ∧ ((91 : Nat) : Int) + 16 = ((107 : Nat) : Int) ∧ 91 + 3 = 94 := by decide +kernel
theorem D_S_check_107 : decode prog_1_method_41_code 107 = .ok (.aload_n 0, 1) ∧ 107 + 1 = 108 := by decide +kernel
theorem D_S_check_108 : decode prog_1_method_41_code 108 = .ok (.getfield 59, 3) ∧ 108 + 3 = 111 := by decide +kernel
theorem D_S_check_111 : decode prog_1_method_41_code 111 = .ok (.getfield 132, 3) ∧ 111 + 3 = 114 := by decide +kernel
theorem D_S_check_114 : decode prog_1_method_41_code 114 = .ok (.invokestatic 159, 3) ∧ 114 + 3 = 117 := by decide +kernel
theorem D_S_check_117 : decode prog_1_method_41_code 117 = .ok (.istore 5, 2) ∧ 117 + 2 = 119 := by decide +kernel
theorem D_S_check_119 : decode prog_1_method_41_code 119 = .ok (.iload 4, 2) ∧ 119 + 2 = 121 := by decide +kernel
theorem D_S_check_121 : decode prog_1_method_41_code 121 = .ok (.iload_n 2, 1) ∧ 121 + 1 = 122 := by decide +kernel
theorem D_S_check_122 : decode prog_1_method_41_code 122 = .ok (.if_icmp .ge 15, 3) ∧ ((122 : Nat) : Int) + 15 = ((137 : Nat) : Int) ∧ 122 + 3 = 125 := by decide +kernel
theorem D_S_check_137 : decode prog_1_method_41_code 137 = .ok (.iconst 1, 1) ∧ 137 + 1 = 138 := by decide +kernel
theorem D_S_check_138 : decode prog_1_method_41_code 138 = .ok (.iload 4, 2) ∧ 138 + 2 = 140 := by decide +kernel
theorem D_S_check_140 : decode prog_1_method_41_code 140 = .ok (.iadd, 1) ∧ 140 + 1 = 141 := by decide +kernel
theorem D_S_check_141 : decode prog_1_method_41_code 141 = .ok (.ireturn, 1) := by decide +kernel
theorem D_S_check_125 : decode prog_1_method_41_code 125 = .ok (.aload_n 0, 1) ∧ 125 + 1 = 126 := by decide +kernel
theorem D_S_check_126 : decode prog_1_method_41_code 126 = .ok (.getfield 38, 3) ∧ 126 + 3 = 129 := by decide +kernel
theorem D_S_check_129 : decode prog_1_method_41_code 129 = .ok (.iload 4, 2) ∧ 129 + 2 = 131 := by decide +kernel
theorem D_S_check_131 : decode prog_1_method_41_code 131 = .ok (.iaload, 1) ∧ 131 + 1 = 132 := by decide +kernel
theorem D_S_check_132 : decode prog_1_method_41_code 132 = .ok (.iload 5, 2) ∧ 132 + 2 = 134 := by decide +kernel
theorem D_S_check_134 : decode prog_1_method_41_code 134 = .ok (.if_icmp .eq 8, 3) ∧ ((134 : Nat) : Int) + 8 = ((142 : Nat) : Int) ∧ 134 + 3 = 137 := by decide +kernel
theorem D_S_check_142 : decode prog_1_method_41_code 142 = .ok (.iinc 4 1, 3) ∧ 142 + 3 = 145 := by decide +kernel
theorem D_S_check_145 : decode prog_1_method_41_code 145 = .ok (.goto (-79), 3) ∧ ((145 : Nat) : Int) + (-79) = ((66 : Nat) : Int) := by decide +kernel
theorem D_S_check_94 : decode prog_1_method_41_code 94 = .ok (.aload_n 0, 1) ∧ 94 + 1 = 95 := by decide +kernel
theorem D_S_check_95 : decode prog_1_method_41_code 95 = .ok (.getfield 59, 3) ∧ 95 + 3 = 98 := by decide +kernel
theorem D_S_check_98 : decode prog_1_method_41_code 98 = .ok (.getfield 119, 3) ∧ 98 + 3 = 101 := by decide +kernel
theorem D_S_check_101 : decode prog_1_method_41_code 101 = .ok (.invokestatic 159, 3) ∧ 101 + 3 = 104 := by decide +kernel
theorem D_S_check_104 : decode prog_1_method_41_code 104 = .ok (.goto 13, 3) ∧ ((104 : Nat) : Int) + 13 = ((117 : Nat) : Int) := by decide +kernel
theorem D_S_check_79 : decode prog_1_method_41_code 79 = .ok (.aload_n 0, 1) ∧ 79 + 1 = 80 := by decide +kernel
theorem D_S_check_80 : decode prog_1_method_41_code 80 = .ok (.getfield 59, 3) ∧ 80 + 3 = 83 := by decide +kernel
theorem D_S_check_83 : decode prog_1_method_41_code 83 = .ok (.invokevirtual 170, 3) ∧ 83 + 3 = 86 := by decide +kernel
theorem D_S_check_86 : decode prog_1_method_41_code 86 = .ok (.pop, 1) ∧ 86 + 1 = 87 := by decide +kernel
theorem D_S_check_30 : decode prog_1_method_41_code 30 = .ok (.ldc_w 261, 3) ∧ 30 + 3 = 33 := by decide +kernel
theorem D_S_check_33 : decode prog_1_method_41_code 33 = .ok (.ireturn, 1) := by decide +kernel
theorem D_S_check_20 : decode prog_1_method_41_code 20 = .ok (.ldc 77, 2) ∧ 20 + 2 = 22 := by decide +kernel
theorem D_S_check_22 : decode prog_1_method_41_code 22 = .ok (.ireturn, 1) := by decide +kernel
def f_S_check_L66 (N : Nat)  : Nat → Int32 → Int32 → Int32 → Int32 → Mm → Option (Int32 × Mm)
  | 0, _, _, _, _, _ => none
  | n + 1, b1, b2, b3, b4, mem => if b3 ≤ b4 then some (if b2 ≤ b3 then (0 : Int32) else 1 + b3, mem) else if b4 - b4 / 2 * 2 = 0 then bd (f_P_passHour N 58 mem) fun r_83 m_83 => if b4 - b4 / 2 * 2 = 0 then bp (f_S_sum N 64 6 m_83) fun r_101 => if b2 ≤ b4 then some (1 + b4, m_83) else if inb b4 60 = true then if m_83 6 (ix b4) = r_101 then f_S_check_L66 N n b1 b2 b3 (b4 + 1) m_83 else some (1 + b4, m_83) else none else bp (f_S_sum N 67 3 m_83) fun r_114 => if b2 ≤ b4 then some (1 + b4, m_83) else if inb b4 60 = true then if m_83 6 (ix b4) = r_114 then f_S_check_L66 N n b1 b2 b3 (b4 + 1) m_83 else some (1 + b4, m_83) else none else if b4 - b4 / 2 * 2 = 0 then bp (f_S_sum N 64 6 mem) fun r_101 => if b2 ≤ b4 then some (1 + b4, mem) else if inb b4 60 = true then if mem 6 (ix b4) = r_101 then f_S_check_L66 N n b1 b2 b3 (b4 + 1) mem else some (1 + b4, mem) else none else bp (f_S_sum N 67 3 mem) fun r_114 => if b2 ≤ b4 then some (1 + b4, mem) else if inb b4 60 = true then if mem 6 (ix b4) = r_114 then f_S_check_L66 N n b1 b2 b3 (b4 + 1) mem else some (1 + b4, mem) else none
def f_S_check (N : Nat) (a1 : Int32) (mem : Mm) : Option (Int32 × Mm) := lt (mem 0 9) fun x_4 => lt (mst mem 0 9 0) fun m_7 => bp (f_S_within a1 1 30) fun r_14 => if r_14 = 0 then some ((-1000000001), m_7) else if m_7 0 5 = 0 then some ((-1000000002), m_7) else bp (f_P_become 58 48 m_7) fun m_42 => lt (2 * (if (9999 - (m_42 48 15)) < a1 then 9999 - (m_42 48 15) else a1)) fun x_62 => f_S_check_L66 N N a1 x_4 x_62 0 m_42
theorem L_S_check_66 {X : Cx} {E : En} (S : Std X E prog_1_method_41_code R5 6 6) (N : Nat)  {r : Int32} {m2 : Mm} (hR : RetI X E prog_1_method_41_code 6 SH r m2) : ∀ (n : Nat) (b1 : Int32) (b2 : Int32) (b3 : Int32) (b4 : Int32) (mem : Mm), f_S_check_L66 N n b1 b2 b3 b4 mem = some (r, m2) → J X E 6 66 [(0, .ref (eb E + 0)), (1, .int b1), (2, .int b2), (3, .int b3), (4, .int b4)] [] SH mem := by
  intro n
  induction n with
  | zero =>
    intro b1 b2 b3 b4 mem h; cases h
  | succ n ih =>
    intro b1 b2 b3 b4 mem h
    rw [f_S_check_L66] at h
    refine j_iload S D_S_check_66 4 rfl ?_
    refine j_iload_n S D_S_check_68 3 rfl rfl ?_
    refine j_icmp_ge S D_S_check_69 (fun c_69 => ?_) (fun c_69 => ?_)
    · have h := ifT c_69 h
      refine j_iload_n S D_S_check_148 2 rfl rfl ?_
      refine j_iload_n S D_S_check_149 3 rfl rfl ?_
      refine j_dia (P := J X E 6 160 [(0, .ref (eb E + 0)), (1, .int b1), (2, .int b2), (3, .int b3), (4, .int b4)] [.int (if b2 ≤ b3 then (0 : Int32) else 1 + b3)] SH mem) (fun hj => ?_) ?_
      · refine j_icmp_le S D_S_check_150 (fun c_150 => ?_) (fun c_150 => ?_)
        · refine j_iconst S D_S_check_159 ci_0 ?_
          exact j_jnT hj c_150
        · refine j_iconst S D_S_check_153 ci_1 ?_
          refine j_iload_n S D_S_check_154 3 rfl rfl ?_
          refine j_iadd S D_S_check_155 ?_
          refine j_goto S D_S_check_156 ?_
          exact j_jnF hj c_150
      exact rtM hR h _ _ D_S_check_160
    · have h := ifF c_69 h
      refine j_iload S D_S_check_72 4 rfl ?_
      refine j_iconst S D_S_check_74 ci_2 ?_
      refine j_irem S D_S_check_75 nz_2 ?_
      refine j_if_ne S D_S_check_76 (fun c_76 => ?_) (fun c_76 => ?_)
      · have h := ifF c_76 h
        refine j_iload S D_S_check_87 4 rfl ?_
        refine j_iconst S D_S_check_89 ci_2 ?_
        refine j_irem S D_S_check_90 nz_2 ?_
        refine j_if_ne S D_S_check_91 (fun c_91 => ?_) (fun c_91 => ?_)
        · have h := ifF c_91 h
          refine j_aload_n S D_S_check_107 0 rfl rfl ?_
          refine j_getR S D_S_check_108 fl_R5_59 sh_Sand rfl ?_
          refine j_getR S D_S_check_111 fl_R5_132 sh_P58 rfl ?_
          obtain ⟨r_114, e_114, h⟩ := bpE h
          refine j_callSI (As := [.ref (eb E + 67)]) S D_S_check_114 ms_R5_159 (c_S_sum (cxL X) E N 67 3 sh_67 e_114) (by decide) rfl rfl (Nat.le_of_ble_eq_true rfl) ?_
          refine j_istore S D_S_check_117 (lv := [(5, .int r_114), (0, .ref (eb E + 0)), (1, .int b1), (2, .int b2), (3, .int b3), (4, .int b4)]) rfl (Nat.le_of_ble_eq_true rfl) ?_
          refine j_iload S D_S_check_119 5 rfl ?_
          refine j_iload_n S D_S_check_121 3 rfl rfl ?_
          refine j_icmp_ge S D_S_check_122 (fun c_122 => ?_) (fun c_122 => ?_)
          · have h := ifT c_122 h
            refine j_iconst S D_S_check_137 ci_1 ?_
            refine j_iload S D_S_check_138 5 rfl ?_
            refine j_iadd S D_S_check_140 ?_
            exact rtM hR h _ _ D_S_check_141
          · have h := ifF c_122 h
            refine j_aload_n S D_S_check_125 1 rfl rfl ?_
            refine j_getR S D_S_check_126 fl_R5_38 sh_Sand rfl ?_
            refine j_iload S D_S_check_129 5 rfl ?_
            obtain ⟨g_131, h⟩ := gdE h
            refine j_iald S D_S_check_131 sh_6 g_131 ?_
            refine j_iload S D_S_check_132 0 rfl ?_
            refine j_icmp_eq S D_S_check_134 (fun c_134 => ?_) (fun c_134 => ?_)
            · have h := ifT c_134 h
              refine j_iinc S D_S_check_142 5 rfl (congrArg (fun z => b4 + z) ci_1) (lv := [(4, .int (b4 + 1)), (5, .int r_114), (0, .ref (eb E + 0)), (1, .int b1), (2, .int b2), (3, .int b3)]) rfl (Nat.le_of_ble_eq_true rfl) ?_
              refine j_goto S D_S_check_145 ?_
              refine j_locals [2, 3, 4, 5, 0] rfl (ih b1 b2 b3 (b4 + 1) mem h)
            · have h := ifF c_134 h
              refine j_iconst S D_S_check_137 ci_1 ?_
              refine j_iload S D_S_check_138 5 rfl ?_
              refine j_iadd S D_S_check_140 ?_
              exact rtM hR h _ _ D_S_check_141
        · have h := ifT c_91 h
          refine j_aload_n S D_S_check_94 0 rfl rfl ?_
          refine j_getR S D_S_check_95 fl_R5_59 sh_Sand rfl ?_
          refine j_getR S D_S_check_98 fl_R5_119 sh_P58 rfl ?_
          obtain ⟨r_101, e_101, h⟩ := bpE h
          refine j_callSI (As := [.ref (eb E + 64)]) S D_S_check_101 ms_R5_159 (c_S_sum (cxL X) E N 64 6 sh_64 e_101) (by decide) rfl rfl (Nat.le_of_ble_eq_true rfl) ?_
          refine j_goto S D_S_check_104 ?_
          refine j_istore S D_S_check_117 (lv := [(5, .int r_101), (0, .ref (eb E + 0)), (1, .int b1), (2, .int b2), (3, .int b3), (4, .int b4)]) rfl (Nat.le_of_ble_eq_true rfl) ?_
          refine j_iload S D_S_check_119 5 rfl ?_
          refine j_iload_n S D_S_check_121 3 rfl rfl ?_
          refine j_icmp_ge S D_S_check_122 (fun c_122 => ?_) (fun c_122 => ?_)
          · have h := ifT c_122 h
            refine j_iconst S D_S_check_137 ci_1 ?_
            refine j_iload S D_S_check_138 5 rfl ?_
            refine j_iadd S D_S_check_140 ?_
            exact rtM hR h _ _ D_S_check_141
          · have h := ifF c_122 h
            refine j_aload_n S D_S_check_125 1 rfl rfl ?_
            refine j_getR S D_S_check_126 fl_R5_38 sh_Sand rfl ?_
            refine j_iload S D_S_check_129 5 rfl ?_
            obtain ⟨g_131, h⟩ := gdE h
            refine j_iald S D_S_check_131 sh_6 g_131 ?_
            refine j_iload S D_S_check_132 0 rfl ?_
            refine j_icmp_eq S D_S_check_134 (fun c_134 => ?_) (fun c_134 => ?_)
            · have h := ifT c_134 h
              refine j_iinc S D_S_check_142 5 rfl (congrArg (fun z => b4 + z) ci_1) (lv := [(4, .int (b4 + 1)), (5, .int r_101), (0, .ref (eb E + 0)), (1, .int b1), (2, .int b2), (3, .int b3)]) rfl (Nat.le_of_ble_eq_true rfl) ?_
              refine j_goto S D_S_check_145 ?_
              refine j_locals [2, 3, 4, 5, 0] rfl (ih b1 b2 b3 (b4 + 1) mem h)
            · have h := ifF c_134 h
              refine j_iconst S D_S_check_137 ci_1 ?_
              refine j_iload S D_S_check_138 5 rfl ?_
              refine j_iadd S D_S_check_140 ?_
              exact rtM hR h _ _ D_S_check_141
      · have h := ifT c_76 h
        refine j_aload_n S D_S_check_79 0 rfl rfl ?_
        refine j_getR S D_S_check_80 fl_R5_59 sh_Sand rfl ?_
        obtain ⟨r_83, m_83, e_83, h⟩ := bdE h
        refine j_callVI (As := []) S D_S_check_83 mv_R5_170 (c_P_passHour (cxL X) E N 58 pic_58 e_83) (by decide) sh_P58 rfl rfl rfl rfl (Nat.le_of_ble_eq_true rfl) ?_
        refine j_pop S D_S_check_86 rfl ?_
        refine j_iload S D_S_check_87 4 rfl ?_
        refine j_iconst S D_S_check_89 ci_2 ?_
        refine j_irem S D_S_check_90 nz_2 ?_
        refine j_if_ne S D_S_check_91 (fun c_91 => ?_) (fun c_91 => ?_)
        · have h := ifF c_91 h
          refine j_aload_n S D_S_check_107 0 rfl rfl ?_
          refine j_getR S D_S_check_108 fl_R5_59 sh_Sand rfl ?_
          refine j_getR S D_S_check_111 fl_R5_132 sh_P58 rfl ?_
          obtain ⟨r_114, e_114, h⟩ := bpE h
          refine j_callSI (As := [.ref (eb E + 67)]) S D_S_check_114 ms_R5_159 (c_S_sum (cxL X) E N 67 3 sh_67 e_114) (by decide) rfl rfl (Nat.le_of_ble_eq_true rfl) ?_
          refine j_istore S D_S_check_117 (lv := [(5, .int r_114), (0, .ref (eb E + 0)), (1, .int b1), (2, .int b2), (3, .int b3), (4, .int b4)]) rfl (Nat.le_of_ble_eq_true rfl) ?_
          refine j_iload S D_S_check_119 5 rfl ?_
          refine j_iload_n S D_S_check_121 3 rfl rfl ?_
          refine j_icmp_ge S D_S_check_122 (fun c_122 => ?_) (fun c_122 => ?_)
          · have h := ifT c_122 h
            refine j_iconst S D_S_check_137 ci_1 ?_
            refine j_iload S D_S_check_138 5 rfl ?_
            refine j_iadd S D_S_check_140 ?_
            exact rtM hR h _ _ D_S_check_141
          · have h := ifF c_122 h
            refine j_aload_n S D_S_check_125 1 rfl rfl ?_
            refine j_getR S D_S_check_126 fl_R5_38 sh_Sand rfl ?_
            refine j_iload S D_S_check_129 5 rfl ?_
            obtain ⟨g_131, h⟩ := gdE h
            refine j_iald S D_S_check_131 sh_6 g_131 ?_
            refine j_iload S D_S_check_132 0 rfl ?_
            refine j_icmp_eq S D_S_check_134 (fun c_134 => ?_) (fun c_134 => ?_)
            · have h := ifT c_134 h
              refine j_iinc S D_S_check_142 5 rfl (congrArg (fun z => b4 + z) ci_1) (lv := [(4, .int (b4 + 1)), (5, .int r_114), (0, .ref (eb E + 0)), (1, .int b1), (2, .int b2), (3, .int b3)]) rfl (Nat.le_of_ble_eq_true rfl) ?_
              refine j_goto S D_S_check_145 ?_
              refine j_locals [2, 3, 4, 5, 0] rfl (ih b1 b2 b3 (b4 + 1) m_83 h)
            · have h := ifF c_134 h
              refine j_iconst S D_S_check_137 ci_1 ?_
              refine j_iload S D_S_check_138 5 rfl ?_
              refine j_iadd S D_S_check_140 ?_
              exact rtM hR h _ _ D_S_check_141
        · have h := ifT c_91 h
          refine j_aload_n S D_S_check_94 0 rfl rfl ?_
          refine j_getR S D_S_check_95 fl_R5_59 sh_Sand rfl ?_
          refine j_getR S D_S_check_98 fl_R5_119 sh_P58 rfl ?_
          obtain ⟨r_101, e_101, h⟩ := bpE h
          refine j_callSI (As := [.ref (eb E + 64)]) S D_S_check_101 ms_R5_159 (c_S_sum (cxL X) E N 64 6 sh_64 e_101) (by decide) rfl rfl (Nat.le_of_ble_eq_true rfl) ?_
          refine j_goto S D_S_check_104 ?_
          refine j_istore S D_S_check_117 (lv := [(5, .int r_101), (0, .ref (eb E + 0)), (1, .int b1), (2, .int b2), (3, .int b3), (4, .int b4)]) rfl (Nat.le_of_ble_eq_true rfl) ?_
          refine j_iload S D_S_check_119 5 rfl ?_
          refine j_iload_n S D_S_check_121 3 rfl rfl ?_
          refine j_icmp_ge S D_S_check_122 (fun c_122 => ?_) (fun c_122 => ?_)
          · have h := ifT c_122 h
            refine j_iconst S D_S_check_137 ci_1 ?_
            refine j_iload S D_S_check_138 5 rfl ?_
            refine j_iadd S D_S_check_140 ?_
            exact rtM hR h _ _ D_S_check_141
          · have h := ifF c_122 h
            refine j_aload_n S D_S_check_125 1 rfl rfl ?_
            refine j_getR S D_S_check_126 fl_R5_38 sh_Sand rfl ?_
            refine j_iload S D_S_check_129 5 rfl ?_
            obtain ⟨g_131, h⟩ := gdE h
            refine j_iald S D_S_check_131 sh_6 g_131 ?_
            refine j_iload S D_S_check_132 0 rfl ?_
            refine j_icmp_eq S D_S_check_134 (fun c_134 => ?_) (fun c_134 => ?_)
            · have h := ifT c_134 h
              refine j_iinc S D_S_check_142 5 rfl (congrArg (fun z => b4 + z) ci_1) (lv := [(4, .int (b4 + 1)), (5, .int r_101), (0, .ref (eb E + 0)), (1, .int b1), (2, .int b2), (3, .int b3)]) rfl (Nat.le_of_ble_eq_true rfl) ?_
              refine j_goto S D_S_check_145 ?_
              refine j_locals [2, 3, 4, 5, 0] rfl (ih b1 b2 b3 (b4 + 1) m_83 h)
            · have h := ifF c_134 h
              refine j_iconst S D_S_check_137 ci_1 ?_
              refine j_iload S D_S_check_138 5 rfl ?_
              refine j_iadd S D_S_check_140 ?_
              exact rtM hR h _ _ D_S_check_141
theorem c_S_check (l : Launch) (E : En) (N : Nat) (a1 : Int32) {mem : Mm} {r : Int32} {m2 : Mm} (h : f_S_check N a1 mem = some (r, m2)) : CtI l E 6 y_S_check prog_1_method_41_code 6 (some .int) [.ref (eb E + 0), .int a1] SH mem r m2 := by
  refine mk_CtI ⟨by decide, (Nat.le_of_ble_eq_true rfl)⟩ (fun X S hl hR => ?_)
  have S : Std X E prog_1_method_41_code R5 6 6 := S
  show J X E 6 0 [(0, .ref (eb E + 0)), (1, .int a1)] [] SH mem
  unfold f_S_check at h
  refine j_aload_n S D_S_check_0 0 rfl rfl ?_
  refine j_getI S D_S_check_1 fl_R5_42 sh_Sand rfl ?_
  obtain ⟨x_4, hx_4, h⟩ := ltE h
  refine j_nm hx_4 ?_
  refine j_istore_n S D_S_check_4 (lv := [(2, .int x_4), (0, .ref (eb E + 0)), (1, .int a1)]) rfl ⟨rfl, (Nat.le_of_ble_eq_true rfl)⟩ ?_
  refine j_aload_n S D_S_check_5 1 rfl rfl ?_
  refine j_iconst S D_S_check_6 ci_0 ?_
  obtain ⟨m_7, hm_7, h⟩ := ltE h
  refine j_putI S D_S_check_7 fp_R5_42 sh_Sand rfl ?_
  refine j_mem hm_7 ?_
  refine j_iload_n S D_S_check_10 2 rfl rfl ?_
  refine j_iconst S D_S_check_11 ci_1 ?_
  refine j_bipush S D_S_check_12 cb_30 ?_
  obtain ⟨r_14, e_14, h⟩ := bpE h
  refine j_callSI (As := [.int a1, .int 1, .int 30]) S D_S_check_14 ms_R5_70 (c_S_within (cxL X) E a1 1 30 (mem := m_7) e_14) (by decide) rfl rfl (Nat.le_of_ble_eq_true rfl) ?_
  refine j_if_ne S D_S_check_17 (fun c_17 => ?_) (fun c_17 => ?_)
  · have h := ifF c_17 h
    refine j_aload_n S D_S_check_23 1 rfl rfl ?_
    refine j_getI S D_S_check_24 fl_R5_22 sh_Sand rfl ?_
    refine j_if_ne S D_S_check_27 (fun c_27 => ?_) (fun c_27 => ?_)
    · have h := ifF c_27 h
      refine j_aload_n S D_S_check_34 1 rfl rfl ?_
      refine j_getR S D_S_check_35 fl_R5_59 sh_Sand rfl ?_
      refine j_aload_n S D_S_check_38 1 rfl rfl ?_
      refine j_getR S D_S_check_39 fl_R5_56 sh_Sand rfl ?_
      obtain ⟨m_42, e_42, h⟩ := bpE h
      refine j_callVV (As := [.ref (eb E + 48)]) S D_S_check_42 mv_R5_166 (c_P_become (cxL X) E 58 pic_58 48 pic_48 e_42) (by decide) sh_P58 rfl rfl rfl rfl (Nat.le_of_ble_eq_true rfl) ?_
      refine j_iconst S D_S_check_45 ci_2 ?_
      refine j_iload_n S D_S_check_46 2 rfl rfl ?_
      refine j_sipush S D_S_check_47 cs_9999 ?_
      refine j_aload_n S D_S_check_50 1 rfl rfl ?_
      refine j_getR S D_S_check_51 fl_R5_56 sh_Sand rfl ?_
      refine j_getI S D_S_check_54 fl_R5_149 sh_P48 rfl ?_
      refine j_isub S D_S_check_57 ?_
      refine j_mmin S D_S_check_58 (by decide) mm_R5_138 (Nat.le_of_ble_eq_true rfl) ?_
      refine j_imul S D_S_check_61 ?_
      obtain ⟨x_62, hx_62, h⟩ := ltE h
      refine j_nm hx_62 ?_
      refine j_istore_n S D_S_check_62 (lv := [(3, .int x_62), (2, .int x_4), (0, .ref (eb E + 0)), (1, .int a1)]) rfl ⟨rfl, (Nat.le_of_ble_eq_true rfl)⟩ ?_
      refine j_iconst S D_S_check_63 ci_0 ?_
      refine j_istore S D_S_check_64 (lv := [(4, .int 0), (3, .int x_62), (2, .int x_4), (0, .ref (eb E + 0)), (1, .int a1)]) rfl (Nat.le_of_ble_eq_true rfl) ?_
      refine j_locals [3, 4, 2, 1, 0] rfl ?_
      exact L_S_check_66 S N hR N a1 x_4 x_62 0 m_42 h
    · have h := ifT c_27 h
      refine j_ldcw S D_S_check_30 co_R5_261 ?_
      exact rtM hR h _ _ D_S_check_33
  · have h := ifT c_17 h
    refine j_ldc S D_S_check_20 co_R5_77 ?_
    exact rtM hR h _ _ D_S_check_22

def y_S_keep : MethodName := ⟨"SandPicture", "keep", "()I"⟩
theorem D_S_keep_0 : decode prog_1_method_42_code 0 = .ok (.aload_n 0, 1) ∧ 0 + 1 = 1 := by decide +kernel
theorem D_S_keep_1 : decode prog_1_method_42_code 1 = .ok (.getfield 56, 3) ∧ 1 + 3 = 4 := by decide +kernel
theorem D_S_keep_4 : decode prog_1_method_42_code 4 = .ok (.aload_n 0, 1) ∧ 4 + 1 = 5 := by decide +kernel
theorem D_S_keep_5 : decode prog_1_method_42_code 5 = .ok (.getfield 52, 3) ∧ 5 + 3 = 8 := by decide +kernel
theorem D_S_keep_8 : decode prog_1_method_42_code 8 = .ok (.invokevirtual 166, 3) ∧ 8 + 3 = 11 := by decide +kernel
theorem D_S_keep_11 : decode prog_1_method_42_code 11 = .ok (.aload_n 0, 1) ∧ 11 + 1 = 12 := by decide +kernel
theorem D_S_keep_12 : decode prog_1_method_42_code 12 = .ok (.iconst 1, 1) ∧ 12 + 1 = 13 := by decide +kernel
theorem D_S_keep_13 : decode prog_1_method_42_code 13 = .ok (.putfield 22, 3) ∧ 13 + 3 = 16 := by decide +kernel
theorem D_S_keep_16 : decode prog_1_method_42_code 16 = .ok (.aload_n 0, 1) ∧ 16 + 1 = 17 := by decide +kernel
theorem D_S_keep_17 : decode prog_1_method_42_code 17 = .ok (.getfield 52, 3) ∧ 17 + 3 = 20 := by decide +kernel
theorem D_S_keep_20 : decode prog_1_method_42_code 20 = .ok (.getfield 78, 3) ∧ 20 + 3 = 23 := by decide +kernel
theorem D_S_keep_23 : decode prog_1_method_42_code 23 = .ok (.ireturn, 1) := by decide +kernel
def f_S_keep  (mem : Mm) : Option (Int32 × Mm) := bp (f_P_become 48 38 mem) fun m_8 => lt (mst m_8 0 5 1) fun m_13 => some (m_13 38 4, m_13)
theorem c_S_keep (l : Launch) (E : En)  {mem : Mm} {r : Int32} {m2 : Mm} (h : f_S_keep mem = some (r, m2)) : CtI l E 2 y_S_keep prog_1_method_42_code 1 (some .int) [.ref (eb E + 0)] SH mem r m2 := by
  refine mk_CtI ⟨by decide, (Nat.le_of_ble_eq_true rfl)⟩ (fun X S hl hR => ?_)
  have S : Std X E prog_1_method_42_code R5 1 2 := S
  show J X E 1 0 [(0, .ref (eb E + 0))] [] SH mem
  unfold f_S_keep at h
  refine j_aload_n S D_S_keep_0 0 rfl rfl ?_
  refine j_getR S D_S_keep_1 fl_R5_56 sh_Sand rfl ?_
  refine j_aload_n S D_S_keep_4 0 rfl rfl ?_
  refine j_getR S D_S_keep_5 fl_R5_52 sh_Sand rfl ?_
  obtain ⟨m_8, e_8, h⟩ := bpE h
  refine j_callVV (As := [.ref (eb E + 38)]) S D_S_keep_8 mv_R5_166 (c_P_become (cxL X) E 48 pic_48 38 pic_38 e_8) (by decide) sh_P48 rfl rfl rfl rfl (Nat.le_of_ble_eq_true rfl) ?_
  refine j_aload_n S D_S_keep_11 0 rfl rfl ?_
  refine j_iconst S D_S_keep_12 ci_1 ?_
  obtain ⟨m_13, hm_13, h⟩ := ltE h
  refine j_put S D_S_keep_13 fp_R5_22 sh_Sand rfl (isb_nf isb1) ?_
  refine j_mem hm_13 ?_
  refine j_aload_n S D_S_keep_16 0 rfl rfl ?_
  refine j_getR S D_S_keep_17 fl_R5_52 sh_Sand rfl ?_
  refine j_getI S D_S_keep_20 fl_R5_78 sh_P38 rfl ?_
  exact rtM hR h _ _ D_S_keep_23

def y_S_back : MethodName := ⟨"SandPicture", "back", "()I"⟩
theorem D_S_back_0 : decode prog_1_method_43_code 0 = .ok (.aload_n 0, 1) ∧ 0 + 1 = 1 := by decide +kernel
theorem D_S_back_1 : decode prog_1_method_43_code 1 = .ok (.getfield 22, 3) ∧ 1 + 3 = 4 := by decide +kernel
theorem D_S_back_4 : decode prog_1_method_43_code 4 = .ok (.ifCond .ne 7, 3) ∧ ((4 : Nat) : Int) + 7 = ((11 : Nat) : Int) ∧ 4 + 3 = 7 := by decide +kernel
theorem D_S_back_11 : decode prog_1_method_43_code 11 = .ok (.aload_n 0, 1) ∧ 11 + 1 = 12 := by decide +kernel
theorem D_S_back_12 : decode prog_1_method_43_code 12 = .ok (.getfield 52, 3) ∧ 12 + 3 = 15 := by decide +kernel
theorem D_S_back_15 : decode prog_1_method_43_code 15 = .ok (.aload_n 0, 1) ∧ 15 + 1 = 16 := by decide +kernel
theorem D_S_back_16 : decode prog_1_method_43_code 16 = .ok (.getfield 56, 3) ∧ 16 + 3 = 19 := by decide +kernel
theorem D_S_back_19 : decode prog_1_method_43_code 19 = .ok (.invokevirtual 166, 3) ∧ 19 + 3 = 22 := by decide +kernel
theorem D_S_back_22 : decode prog_1_method_43_code 22 = .ok (.aload_n 0, 1) ∧ 22 + 1 = 23 := by decide +kernel
theorem D_S_back_23 : decode prog_1_method_43_code 23 = .ok (.getfield 52, 3) ∧ 23 + 3 = 26 := by decide +kernel
theorem D_S_back_26 : decode prog_1_method_43_code 26 = .ok (.getfield 78, 3) ∧ 26 + 3 = 29 := by decide +kernel
theorem D_S_back_29 : decode prog_1_method_43_code 29 = .ok (.ireturn, 1) := by decide +kernel
theorem D_S_back_7 : decode prog_1_method_43_code 7 = .ok (.ldc_w 261, 3) ∧ 7 + 3 = 10 := by decide +kernel
theorem D_S_back_10 : decode prog_1_method_43_code 10 = .ok (.ireturn, 1) := by decide +kernel
def f_S_back  (mem : Mm) : Option (Int32 × Mm) := if mem 0 5 = 0 then some ((-1000000002), mem) else bp (f_P_become 38 48 mem) fun m_19 => some (m_19 38 4, m_19)
theorem c_S_back (l : Launch) (E : En)  {mem : Mm} {r : Int32} {m2 : Mm} (h : f_S_back mem = some (r, m2)) : CtI l E 2 y_S_back prog_1_method_43_code 1 (some .int) [.ref (eb E + 0)] SH mem r m2 := by
  refine mk_CtI ⟨by decide, (Nat.le_of_ble_eq_true rfl)⟩ (fun X S hl hR => ?_)
  have S : Std X E prog_1_method_43_code R5 1 2 := S
  show J X E 1 0 [(0, .ref (eb E + 0))] [] SH mem
  unfold f_S_back at h
  refine j_aload_n S D_S_back_0 0 rfl rfl ?_
  refine j_getI S D_S_back_1 fl_R5_22 sh_Sand rfl ?_
  refine j_if_ne S D_S_back_4 (fun c_4 => ?_) (fun c_4 => ?_)
  · have h := ifF c_4 h
    refine j_aload_n S D_S_back_11 0 rfl rfl ?_
    refine j_getR S D_S_back_12 fl_R5_52 sh_Sand rfl ?_
    refine j_aload_n S D_S_back_15 0 rfl rfl ?_
    refine j_getR S D_S_back_16 fl_R5_56 sh_Sand rfl ?_
    obtain ⟨m_19, e_19, h⟩ := bpE h
    refine j_callVV (As := [.ref (eb E + 48)]) S D_S_back_19 mv_R5_166 (c_P_become (cxL X) E 38 pic_38 48 pic_48 e_19) (by decide) sh_P38 rfl rfl rfl rfl (Nat.le_of_ble_eq_true rfl) ?_
    refine j_aload_n S D_S_back_22 0 rfl rfl ?_
    refine j_getR S D_S_back_23 fl_R5_52 sh_Sand rfl ?_
    refine j_getI S D_S_back_26 fl_R5_78 sh_P38 rfl ?_
    exact rtM hR h _ _ D_S_back_29
  · have h := ifT c_4 h
    refine j_ldcw S D_S_back_7 co_R5_261 ?_
    exact rtM hR h _ _ D_S_back_10
