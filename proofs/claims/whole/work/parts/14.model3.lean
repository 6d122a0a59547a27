def y_M_slower : MethodName := ⟨"SandPictureModel", "slower", "(II)I"⟩
theorem D_M_slower_0 : decode prog_9_method_47_code 0 = .ok (.aload_n 0, 1) ∧ 0 + 1 = 1 := by decide +kernel
theorem D_M_slower_1 : decode prog_9_method_47_code 1 = .ok (.iload_n 1, 1) ∧ 1 + 1 = 2 := by decide +kernel
theorem D_M_slower_2 : decode prog_9_method_47_code 2 = .ok (.invokevirtual 97, 3) ∧ 2 + 3 = 5 := by decide +kernel
theorem D_M_slower_5 : decode prog_9_method_47_code 5 = .ok (.ifCond .eq 13, 3) ∧ ((5 : Nat) : Int) + 13 = ((18 : Nat) : Int) ∧ 5 + 3 = 8 := by decide +kernel
theorem D_M_slower_18 : decode prog_9_method_47_code 18 = .ok (.ldc 87, 2) ∧ 18 + 2 = 20 := by decide +kernel
theorem D_M_slower_20 : decode prog_9_method_47_code 20 = .ok (.ireturn, 1) := by decide +kernel
theorem D_M_slower_8 : decode prog_9_method_47_code 8 = .ok (.iload_n 2, 1) ∧ 8 + 1 = 9 := by decide +kernel
theorem D_M_slower_9 : decode prog_9_method_47_code 9 = .ok (.iconst 1, 1) ∧ 9 + 1 = 10 := by decide +kernel
theorem D_M_slower_10 : decode prog_9_method_47_code 10 = .ok (.bipush 20, 2) ∧ 10 + 2 = 12 := by decide +kernel
theorem D_M_slower_12 : decode prog_9_method_47_code 12 = .ok (.invokestatic 79, 3) ∧ 12 + 3 = 15 := by decide +kernel
theorem D_M_slower_15 : decode prog_9_method_47_code 15 = .ok (.ifCond .ne 6, 3) ∧ ((15 : Nat) : Int) + 6 = ((21 : Nat) : Int) ∧ 15 + 3 = 18 := by decide +kernel
theorem D_M_slower_21 : decode prog_9_method_47_code 21 = .ok (.aload_n 0, 1) ∧ 21 + 1 = 22 := by decide +kernel
theorem D_M_slower_22 : decode prog_9_method_47_code 22 = .ok (.invokevirtual 162, 3) ∧ 22 + 3 = 25 := by decide +kernel
theorem D_M_slower_25 : decode prog_9_method_47_code 25 = .ok (.bipush 99, 2) ∧ 25 + 2 = 27 := by decide +kernel
theorem D_M_slower_27 : decode prog_9_method_47_code 27 = .ok (.istore_n 3, 1) ∧ 27 + 1 = 28 := by decide +kernel
theorem D_M_slower_28 : decode prog_9_method_47_code 28 = .ok (.iload_n 3, 1) ∧ 28 + 1 = 29 := by decide +kernel
theorem D_M_slower_29 : decode prog_9_method_47_code 29 = .ok (.ifCond .le 63, 3) ∧ ((29 : Nat) : Int) + 63 = ((92 : Nat) : Int) ∧ 29 + 3 = 32 := by decide +kernel
theorem D_M_slower_92 : decode prog_9_method_47_code 92 = .ok (.ldc 168, 2) ∧ 92 + 2 = 94 := by decide +kernel
theorem D_M_slower_94 : decode prog_9_method_47_code 94 = .ok (.ireturn, 1) := by decide +kernel
theorem D_M_slower_32 : decode prog_9_method_47_code 32 = .ok (.aload_n 0, 1) ∧ 32 + 1 = 33 := by decide +kernel
theorem D_M_slower_33 : decode prog_9_method_47_code 33 = .ok (.getfield 9, 3) ∧ 33 + 3 = 36 := by decide +kernel
theorem D_M_slower_36 : decode prog_9_method_47_code 36 = .ok (.bipush 34, 2) ∧ 36 + 2 = 38 := by decide +kernel
theorem D_M_slower_38 : decode prog_9_method_47_code 38 = .ok (.iconst 3, 1) ∧ 38 + 1 = 39 := by decide +kernel
theorem D_M_slower_39 : decode prog_9_method_47_code 39 = .ok (.iload_n 1, 1) ∧ 39 + 1 = 40 := by decide +kernel
theorem D_M_slower_40 : decode prog_9_method_47_code 40 = .ok (.imul, 1) ∧ 40 + 1 = 41 := by decide +kernel
theorem D_M_slower_41 : decode prog_9_method_47_code 41 = .ok (.iadd, 1) ∧ 41 + 1 = 42 := by decide +kernel
theorem D_M_slower_42 : decode prog_9_method_47_code 42 = .ok (.iconst 1, 1) ∧ 42 + 1 = 43 := by decide +kernel
theorem D_M_slower_43 : decode prog_9_method_47_code 43 = .ok (.iadd, 1) ∧ 43 + 1 = 44 := by decide +kernel
theorem D_M_slower_44 : decode prog_9_method_47_code 44 = .ok (.iload_n 3, 1) ∧ 44 + 1 = 45 := by decide +kernel
theorem D_M_slower_45 : decode prog_9_method_47_code 45 = .ok (.iastore, 1) ∧ 45 + 1 = 46 := by decide +kernel
theorem D_M_slower_46 : decode prog_9_method_47_code 46 = .ok (.aload_n 0, 1) ∧ 46 + 1 = 47 := by decide +kernel
theorem D_M_slower_47 : decode prog_9_method_47_code 47 = .ok (.iload_n 2, 1) ∧ 47 + 1 = 48 := by decide +kernel
theorem D_M_slower_48 : decode prog_9_method_47_code 48 = .ok (.invokevirtual 156, 3) ∧ 48 + 3 = 51 := by decide +kernel
theorem D_M_slower_51 : decode prog_9_method_47_code 51 = .ok (.istore 4, 2) ∧ 51 + 2 = 53 := by decide +kernel
theorem D_M_slower_53 : decode prog_9_method_47_code 53 = .ok (.aload_n 0, 1) ∧ 53 + 1 = 54 := by decide +kernel
theorem D_M_slower_54 : decode prog_9_method_47_code 54 = .ok (.getfield 9, 3) ∧ 54 + 3 = 57 := by decide +kernel
theorem D_M_slower_57 : decode prog_9_method_47_code 57 = .ok (.iconst 5, 1) ∧ 57 + 1 = 58 := by decide +kernel
theorem D_M_slower_58 : decode prog_9_method_47_code 58 = .ok (.iaload, 1) ∧ 58 + 1 = 59 := by decide +kernel
theorem D_M_slower_59 : decode prog_9_method_47_code 59 = .ok (.aload_n 0, 1) ∧ 59 + 1 = 60 := by decide +kernel
theorem D_M_slower_60 : decode prog_9_method_47_code 60 = .ok (.getfield 23, 3) ∧ 60 + 3 = 63 := by decide +kernel
theorem D_M_slower_63 : decode prog_9_method_47_code 63 = .ok (.iconst 5, 1) ∧ 63 + 1 = 64 := by decide +kernel
theorem D_M_slower_64 : decode prog_9_method_47_code 64 = .ok (.iaload, 1) ∧ 64 + 1 = 65 := by decide +kernel
theorem D_M_slower_72 : decode prog_9_method_47_code 72 = .ok (.iconst 0, 1) ∧ 72 + 1 = 73 := by decide +kernel
theorem D_M_slower_68 : decode prog_9_method_47_code 68 = .ok (.iconst 1, 1) ∧ 68 + 1 = 69 := by decide +kernel
theorem D_M_slower_69 : decode prog_9_method_47_code 69 = .ok (.goto 4, 3) ∧ ((69 : Nat) : Int) + 4 = ((73 : Nat) : Int) := by decide +kernel
theorem D_M_slower_65 : decode prog_9_method_47_code 65 = .ok (.if_icmp .ne 7, 3) ∧ ((65 : Nat) : Int) + 7 = ((72 : Nat) : Int) ∧ 65 + 3 = 68 := by decide +kernel
theorem D_M_slower_73 : decode prog_9_method_47_code 73 = .ok (.istore 5, 2) ∧ 73 + 2 = 75 := by decide +kernel
theorem D_M_slower_75 : decode prog_9_method_47_code 75 = .ok (.aload_n 0, 1) ∧ 75 + 1 = 76 := by decide +kernel
theorem D_M_slower_76 : decode prog_9_method_47_code 76 = .ok (.invokevirtual 165, 3) ∧ 76 + 3 = 79 := by decide +kernel
theorem D_M_slower_79 : decode prog_9_method_47_code 79 = .ok (.iload 5, 2) ∧ 79 + 2 = 81 := by decide +kernel
theorem D_M_slower_81 : decode prog_9_method_47_code 81 = .ok (.ifCond .eq 5, 3) ∧ ((81 : Nat) : Int) + 5 = ((86 : Nat) : Int) ∧ 81 + 3 = 84 := by decide +kernel
theorem D_M_slower_86 : decode prog_9_method_47_code 86 = .ok (.iinc 3 (-1), 3) ∧ 86 + 3 = 89 := by decide +kernel
theorem D_M_slower_89 : decode prog_9_method_47_code 89 = .ok (.goto (-61), 3) ∧ ((89 : Nat) : Int) + (-61) = ((28 : Nat) : Int) := by decide +kernel
theorem D_M_slower_84 : decode prog_9_method_47_code 84 = .ok (.iload_n 3, 1) ∧ 84 + 1 = 85 := by decide +kernel
theorem D_M_slower_85 : decode prog_9_method_47_code 85 = .ok (.ireturn, 1) := by decide +kernel
def f_M_slower_L28 (N : Nat)  : Nat → Int32 → Int32 → Int32 → Mm → Option (Int32 × Mm)
  | 0, _, _, _, _ => none
  | n + 1, b1, b2, b3, mem => if b3 ≤ 0 then some ((-1000000005), mem) else if inb ((34 + (3 * b1)) + 1) 1436 = true then lt (mst mem 92 (ix ((34 + (3 * b1)) + 1)) b3) fun m_45 => bd (f_M_goesOn N b2 m_45) fun r_48 m_48 => lt (if m_48 92 (ix 5) = m_48 95 (ix 5) then (1 : Int32) else 0) fun x_73 => bp (f_M_putsBack N m_48) fun m_76 => if x_73 = 0 then f_M_slower_L28 N n b1 b2 (b3 + (-1)) m_76 else some (b3, m_76) else none
def f_M_slower (N : Nat) (a1 : Int32) (a2 : Int32) (mem : Mm) : Option (Int32 × Mm) := bp (f_M_isMonk a1 mem) fun r_2 => if r_2 = 0 then some ((-1000000001), mem) else bp (f_M_in a2 1 20) fun r_12 => if r_12 = 0 then some ((-1000000001), mem) else bp (f_M_thinks N mem) fun m_22 => f_M_slower_L28 N N a1 a2 99 m_22
theorem L_M_slower_28 {X : Cx} {E : En} (S : Std X E prog_9_method_47_code R6 6 6) (N : Nat)  {r : Int32} {m2 : Mm} (hR : RetI X E prog_9_method_47_code 6 SH r m2) : ∀ (n : Nat) (b1 : Int32) (b2 : Int32) (b3 : Int32) (mem : Mm), f_M_slower_L28 N n b1 b2 b3 mem = some (r, m2) → J X E 6 28 [(0, .ref (eb E + 91)), (1, .int b1), (2, .int b2), (3, .int b3)] [] SH mem := by
  intro n
  induction n with
  | zero =>
    intro b1 b2 b3 mem h; cases h
  | succ n ih =>
    intro b1 b2 b3 mem h
    rw [f_M_slower_L28] at h
    refine j_iload_n S D_M_slower_28 3 rfl rfl ?_
    refine j_if_le S D_M_slower_29 (fun c_29 => ?_) (fun c_29 => ?_)
    · have h := ifT c_29 h
      refine j_ldc S D_M_slower_92 co_R6_168 ?_
      exact rtM hR h _ _ D_M_slower_94
    · have h := ifF c_29 h
      refine j_aload_n S D_M_slower_32 0 rfl rfl ?_
      refine j_getR S D_M_slower_33 fl_R6_9 sh_Mod rfl ?_
      refine j_bipush S D_M_slower_36 cb_34 ?_
      refine j_iconst S D_M_slower_38 ci_3 ?_
      refine j_iload_n S D_M_slower_39 1 rfl rfl ?_
      refine j_imul S D_M_slower_40 ?_
      refine j_iadd S D_M_slower_41 ?_
      refine j_iconst S D_M_slower_42 ci_1 ?_
      refine j_iadd S D_M_slower_43 ?_
      refine j_iload_n S D_M_slower_44 3 rfl rfl ?_
      obtain ⟨g_45, h⟩ := gdE h
      obtain ⟨m_45, hm_45, h⟩ := ltE h
      refine j_iast S D_M_slower_45 sh_92 g_45 ?_
      refine j_mem hm_45 ?_
      refine j_aload_n S D_M_slower_46 0 rfl rfl ?_
      refine j_iload_n S D_M_slower_47 2 rfl rfl ?_
      obtain ⟨r_48, m_48, e_48, h⟩ := bdE h
      refine j_callVI (As := [.int b2]) S D_M_slower_48 mv_R6_156 (c_M_goesOn (cxL X) E N b2 e_48) (by decide) sh_Mod rfl rfl rfl rfl (Nat.le_of_ble_eq_true rfl) ?_
      refine j_istore S D_M_slower_51 (lv := [(4, .int r_48), (0, .ref (eb E + 91)), (1, .int b1), (2, .int b2), (3, .int b3)]) rfl (Nat.le_of_ble_eq_true rfl) ?_
      refine j_aload_n S D_M_slower_53 1 rfl rfl ?_
      refine j_getR S D_M_slower_54 fl_R6_9 sh_Mod rfl ?_
      refine j_iconst S D_M_slower_57 ci_5 ?_
      refine j_iald S D_M_slower_58 sh_92 inbc_5_1436 ?_
      refine j_aload_n S D_M_slower_59 1 rfl rfl ?_
      refine j_getR S D_M_slower_60 fl_R6_23 sh_Mod rfl ?_
      refine j_iconst S D_M_slower_63 ci_5 ?_
      refine j_iald S D_M_slower_64 sh_95 inbc_5_64 ?_
      refine j_dia (P := J X E 6 73 [(4, .int r_48), (0, .ref (eb E + 91)), (1, .int b1), (2, .int b2), (3, .int b3)] [.int (if m_48 92 (ix 5) = m_48 95 (ix 5) then (1 : Int32) else 0)] SH m_48) (fun hj => ?_) ?_
      · refine j_icmp_ne S D_M_slower_65 (fun c_65 => ?_) (fun c_65 => ?_)
        · refine j_iconst S D_M_slower_72 ci_0 ?_
          exact j_jnF hj c_65
        · refine j_iconst S D_M_slower_68 ci_1 ?_
          refine j_goto S D_M_slower_69 ?_
          exact j_jnT hj c_65
      obtain ⟨x_73, hx_73, h⟩ := ltE h
      refine j_nm hx_73 ?_
      refine j_istore S D_M_slower_73 (lv := [(5, .int x_73), (4, .int r_48), (0, .ref (eb E + 91)), (1, .int b1), (2, .int b2), (3, .int b3)]) rfl (Nat.le_of_ble_eq_true rfl) ?_
      refine j_aload_n S D_M_slower_75 2 rfl rfl ?_
      obtain ⟨m_76, e_76, h⟩ := bpE h
      refine j_callVV (As := []) S D_M_slower_76 mv_R6_165 (c_M_putsBack (cxL X) E N e_76) (by decide) sh_Mod rfl rfl rfl rfl (Nat.le_of_ble_eq_true rfl) ?_
      refine j_iload S D_M_slower_79 0 rfl ?_
      refine j_if_eq S D_M_slower_81 (fun c_81 => ?_) (fun c_81 => ?_)
      · have h := ifT c_81 h
        refine j_iinc S D_M_slower_86 5 rfl (congrArg (fun z => b3 + z) ci_m1) (lv := [(3, .int (b3 + (-1))), (5, .int x_73), (4, .int r_48), (0, .ref (eb E + 91)), (1, .int b1), (2, .int b2)]) rfl (Nat.le_of_ble_eq_true rfl) ?_
        refine j_goto S D_M_slower_89 ?_
        refine j_locals [3, 4, 5, 0] rfl (ih b1 b2 (b3 + (-1)) m_76 h)
      · have h := ifF c_81 h
        refine j_iload_n S D_M_slower_84 5 rfl rfl ?_
        exact rtM hR h _ _ D_M_slower_85
theorem c_M_slower (l : Launch) (E : En) (N : Nat) (a1 : Int32) (a2 : Int32) {mem : Mm} {r : Int32} {m2 : Mm} (h : f_M_slower N a1 a2 mem = some (r, m2)) : CtI l E 6 y_M_slower prog_9_method_47_code 6 (some .int) [.ref (eb E + 91), .int a1, .int a2] SH mem r m2 := by
  refine mk_CtI ⟨by decide, (Nat.le_of_ble_eq_true rfl)⟩ (fun X S hl hR => ?_)
  have S : Std X E prog_9_method_47_code R6 6 6 := S
  show J X E 6 0 [(0, .ref (eb E + 91)), (1, .int a1), (2, .int a2)] [] SH mem
  unfold f_M_slower at h
  refine j_aload_n S D_M_slower_0 0 rfl rfl ?_
  refine j_iload_n S D_M_slower_1 1 rfl rfl ?_
  obtain ⟨r_2, e_2, h⟩ := bpE h
  refine j_callVI (As := [.int a1]) S D_M_slower_2 mv_R6_97 (c_M_isMonk (cxL X) E a1 e_2) (by decide) sh_Mod rfl rfl rfl rfl (Nat.le_of_ble_eq_true rfl) ?_
  refine j_if_eq S D_M_slower_5 (fun c_5 => ?_) (fun c_5 => ?_)
  · have h := ifT c_5 h
    refine j_ldc S D_M_slower_18 co_R6_87 ?_
    exact rtM hR h _ _ D_M_slower_20
  · have h := ifF c_5 h
    refine j_iload_n S D_M_slower_8 2 rfl rfl ?_
    refine j_iconst S D_M_slower_9 ci_1 ?_
    refine j_bipush S D_M_slower_10 cb_20 ?_
    obtain ⟨r_12, e_12, h⟩ := bpE h
    refine j_callSI (As := [.int a2, .int 1, .int 20]) S D_M_slower_12 ms_R6_79 (c_M_in (cxL X) E a2 1 20 (mem := mem) e_12) (by decide) rfl rfl (Nat.le_of_ble_eq_true rfl) ?_
    refine j_if_ne S D_M_slower_15 (fun c_15 => ?_) (fun c_15 => ?_)
    · have h := ifF c_15 h
      refine j_aload_n S D_M_slower_21 0 rfl rfl ?_
      obtain ⟨m_22, e_22, h⟩ := bpE h
      refine j_callVV (As := []) S D_M_slower_22 mv_R6_162 (c_M_thinks (cxL X) E N e_22) (by decide) sh_Mod rfl rfl rfl rfl (Nat.le_of_ble_eq_true rfl) ?_
      refine j_bipush S D_M_slower_25 cb_99 ?_
      refine j_istore_n S D_M_slower_27 (lv := [(3, .int 99), (0, .ref (eb E + 91)), (1, .int a1), (2, .int a2)]) rfl ⟨rfl, (Nat.le_of_ble_eq_true rfl)⟩ ?_
      refine j_locals [1, 2, 3, 0] rfl ?_
      exact L_M_slower_28 S N hR N a1 a2 99 m_22 h
    · have h := ifT c_15 h
      refine j_ldc S D_M_slower_18 co_R6_87 ?_
      exact rtM hR h _ _ D_M_slower_20

def y_M_offBy : MethodName := ⟨"SandPictureModel", "offBy", "(III)J"⟩
theorem D_M_offBy_0 : decode prog_9_method_48_code 0 = .ok (.aload_n 0, 1) ∧ 0 + 1 = 1 := by decide +kernel
theorem D_M_offBy_1 : decode prog_9_method_48_code 1 = .ok (.getfield 9, 3) ∧ 1 + 3 = 4 := by decide +kernel
theorem D_M_offBy_4 : decode prog_9_method_48_code 4 = .ok (.bipush 34, 2) ∧ 4 + 2 = 6 := by decide +kernel
theorem D_M_offBy_6 : decode prog_9_method_48_code 6 = .ok (.iconst 3, 1) ∧ 6 + 1 = 7 := by decide +kernel
theorem D_M_offBy_7 : decode prog_9_method_48_code 7 = .ok (.iload_n 2, 1) ∧ 7 + 1 = 8 := by decide +kernel
theorem D_M_offBy_8 : decode prog_9_method_48_code 8 = .ok (.imul, 1) ∧ 8 + 1 = 9 := by decide +kernel
theorem D_M_offBy_9 : decode prog_9_method_48_code 9 = .ok (.iadd, 1) ∧ 9 + 1 = 10 := by decide +kernel
theorem D_M_offBy_10 : decode prog_9_method_48_code 10 = .ok (.iconst 1, 1) ∧ 10 + 1 = 11 := by decide +kernel
theorem D_M_offBy_11 : decode prog_9_method_48_code 11 = .ok (.iadd, 1) ∧ 11 + 1 = 12 := by decide +kernel
theorem D_M_offBy_12 : decode prog_9_method_48_code 12 = .ok (.iload_n 3, 1) ∧ 12 + 1 = 13 := by decide +kernel
theorem D_M_offBy_13 : decode prog_9_method_48_code 13 = .ok (.iastore, 1) ∧ 13 + 1 = 14 := by decide +kernel
theorem D_M_offBy_14 : decode prog_9_method_48_code 14 = .ok (.aload_n 0, 1) ∧ 14 + 1 = 15 := by decide +kernel
theorem D_M_offBy_15 : decode prog_9_method_48_code 15 = .ok (.invokevirtual 153, 3) ∧ 15 + 3 = 18 := by decide +kernel
theorem D_M_offBy_18 : decode prog_9_method_48_code 18 = .ok (.istore 4, 2) ∧ 18 + 2 = 20 := by decide +kernel
theorem D_M_offBy_20 : decode prog_9_method_48_code 20 = .ok (.lconst 0, 1) ∧ 20 + 1 = 21 := by decide +kernel
theorem D_M_offBy_21 : decode prog_9_method_48_code 21 = .ok (.lstore 5, 2) ∧ 21 + 2 = 23 := by decide +kernel
theorem D_M_offBy_23 : decode prog_9_method_48_code 23 = .ok (.iconst 0, 1) ∧ 23 + 1 = 24 := by decide +kernel
theorem D_M_offBy_24 : decode prog_9_method_48_code 24 = .ok (.istore 7, 2) ∧ 24 + 2 = 26 := by decide +kernel
theorem D_M_offBy_26 : decode prog_9_method_48_code 26 = .ok (.iload 7, 2) ∧ 26 + 2 = 28 := by decide +kernel
theorem D_M_offBy_28 : decode prog_9_method_48_code 28 = .ok (.aload_n 0, 1) ∧ 28 + 1 = 29 := by decide +kernel
theorem D_M_offBy_29 : decode prog_9_method_48_code 29 = .ok (.getfield 55, 3) ∧ 29 + 3 = 32 := by decide +kernel
theorem D_M_offBy_32 : decode prog_9_method_48_code 32 = .ok (.iload_n 1, 1) ∧ 32 + 1 = 33 := by decide +kernel
theorem D_M_offBy_33 : decode prog_9_method_48_code 33 = .ok (.iaload, 1) ∧ 33 + 1 = 34 := by decide +kernel
theorem D_M_offBy_34 : decode prog_9_method_48_code 34 = .ok (.if_icmp .ge 80, 3) ∧ ((34 : Nat) : Int) + 80 = ((114 : Nat) : Int) ∧ 34 + 3 = 37 := by decide +kernel
theorem D_M_offBy_37 : decode prog_9_method_48_code 37 = .ok (.aload_n 0, 1) ∧ 37 + 1 = 38 := by decide +kernel
theorem D_M_offBy_38 : decode prog_9_method_48_code 38 = .ok (.getfield 58, 3) ∧ 38 + 3 = 41 := by decide +kernel
theorem D_M_offBy_41 : decode prog_9_method_48_code 41 = .ok (.bipush 24, 2) ∧ 41 + 2 = 43 := by decide +kernel
theorem D_M_offBy_43 : decode prog_9_method_48_code 43 = .ok (.iload_n 1, 1) ∧ 43 + 1 = 44 := by decide +kernel
theorem D_M_offBy_44 : decode prog_9_method_48_code 44 = .ok (.imul, 1) ∧ 44 + 1 = 45 := by decide +kernel
theorem D_M_offBy_45 : decode prog_9_method_48_code 45 = .ok (.iload 7, 2) ∧ 45 + 2 = 47 := by decide +kernel
theorem D_M_offBy_47 : decode prog_9_method_48_code 47 = .ok (.iadd, 1) ∧ 47 + 1 = 48 := by decide +kernel
theorem D_M_offBy_48 : decode prog_9_method_48_code 48 = .ok (.iaload, 1) ∧ 48 + 1 = 49 := by decide +kernel
theorem D_M_offBy_49 : decode prog_9_method_48_code 49 = .ok (.istore 8, 2) ∧ 49 + 2 = 51 := by decide +kernel
theorem D_M_offBy_51 : decode prog_9_method_48_code 51 = .ok (.iload 8, 2) ∧ 51 + 2 = 53 := by decide +kernel
theorem D_M_offBy_53 : decode prog_9_method_48_code 53 = .ok (.i2l, 1) ∧ 53 + 1 = 54 := by decide +kernel
theorem D_M_offBy_54 : decode prog_9_method_48_code 54 = .ok (.iload 7, 2) ∧ 54 + 2 = 56 := by decide +kernel
theorem D_M_offBy_56 : decode prog_9_method_48_code 56 = .ok (.invokestatic 83, 3) ∧ 56 + 3 = 59 := by decide +kernel
theorem D_M_offBy_59 : decode prog_9_method_48_code 59 = .ok (.ifCond .eq 13, 3) ∧ ((59 : Nat) : Int) + 13 = ((72 : Nat) : Int) ∧ 59 + 3 = 62 := by decide +kernel
theorem D_M_offBy_72 : decode prog_9_method_48_code 72 = .ok (.iconst 0, 1) ∧ 72 + 1 = 73 := by decide +kernel
theorem D_M_offBy_73 : decode prog_9_method_48_code 73 = .ok (.i2l, 1) ∧ 73 + 1 = 74 := by decide +kernel
theorem D_M_offBy_74 : decode prog_9_method_48_code 74 = .ok (.lsub, 1) ∧ 74 + 1 = 75 := by decide +kernel
theorem D_M_offBy_75 : decode prog_9_method_48_code 75 = .ok (.lstore 9, 2) ∧ 75 + 2 = 77 := by decide +kernel
theorem D_M_offBy_77 : decode prog_9_method_48_code 77 = .ok (.lload 5, 2) ∧ 77 + 2 = 79 := by decide +kernel
theorem D_M_offBy_79 : decode prog_9_method_48_code 79 = .ok (.iload 8, 2) ∧ 79 + 2 = 81 := by decide +kernel
theorem D_M_offBy_81 : decode prog_9_method_48_code 81 = .ok (.ldc 168, 2) ∧ 81 + 2 = 83 := by decide +kernel
theorem D_M_offBy_83 : decode prog_9_method_48_code 83 = .ok (.if_icmp .ne 7, 3) ∧ ((83 : Nat) : Int) + 7 = ((90 : Nat) : Int) ∧ 83 + 3 = 86 := by decide +kernel
theorem D_M_offBy_90 : decode prog_9_method_48_code 90 = .ok (.lload 9, 2) ∧ 90 + 2 = 92 := by decide +kernel
theorem D_M_offBy_92 : decode prog_9_method_48_code 92 = .ok (.lconst 0, 1) ∧ 92 + 1 = 93 := by decide +kernel
theorem D_M_offBy_93 : decode prog_9_method_48_code 93 = .ok (.lcmp, 1) ∧ 93 + 1 = 94 := by decide +kernel
theorem D_M_offBy_94 : decode prog_9_method_48_code 94 = .ok (.ifCond .ge 9, 3) ∧ ((94 : Nat) : Int) + 9 = ((103 : Nat) : Int) ∧ 94 + 3 = 97 := by decide +kernel
theorem D_M_offBy_103 : decode prog_9_method_48_code 103 = .ok (.lload 9, 2) ∧ 103 + 2 = 105 := by decide +kernel
theorem D_M_offBy_105 : decode prog_9_method_48_code 105 = .ok (.ladd, 1) ∧ 105 + 1 = 106 := by decide +kernel
theorem D_M_offBy_106 : decode prog_9_method_48_code 106 = .ok (.lstore 5, 2) ∧ 106 + 2 = 108 := by decide +kernel
theorem D_M_offBy_108 : decode prog_9_method_48_code 108 = .ok (.iinc 7 1, 3) ∧ 108 + 3 = 111 := by decide +kernel
theorem D_M_offBy_111 : decode prog_9_method_48_code 111 = .ok (.goto (-85), 3) ∧ ((111 : Nat) : Int) + (-85) = ((26 : Nat) : Int) := by decide +kernel
theorem D_M_offBy_97 : decode prog_9_method_48_code 97 = .ok (.lload 9, 2) ∧ 97 + 2 = 99 := by decide +kernel
theorem D_M_offBy_99 : decode prog_9_method_48_code 99 = .ok (.lneg, 1) ∧ 99 + 1 = 100 := by decide +kernel
theorem D_M_offBy_100 : decode prog_9_method_48_code 100 = .ok (.goto 5, 3) ∧ ((100 : Nat) : Int) + 5 = ((105 : Nat) : Int) := by decide +kernel
theorem D_M_offBy_86 : decode prog_9_method_48_code 86 = .ok (.lconst 0, 1) ∧ 86 + 1 = 87 := by decide +kernel
theorem D_M_offBy_87 : decode prog_9_method_48_code 87 = .ok (.goto 18, 3) ∧ ((87 : Nat) : Int) + 18 = ((105 : Nat) : Int) := by decide +kernel
theorem D_M_offBy_62 : decode prog_9_method_48_code 62 = .ok (.aload_n 0, 1) ∧ 62 + 1 = 63 := by decide +kernel
theorem D_M_offBy_63 : decode prog_9_method_48_code 63 = .ok (.iload 7, 2) ∧ 63 + 2 = 65 := by decide +kernel
theorem D_M_offBy_65 : decode prog_9_method_48_code 65 = .ok (.iconst 1, 1) ∧ 65 + 1 = 66 := by decide +kernel
theorem D_M_offBy_66 : decode prog_9_method_48_code 66 = .ok (.invokevirtual 107, 3) ∧ 66 + 3 = 69 := by decide +kernel
theorem D_M_offBy_69 : decode prog_9_method_48_code 69 = .ok (.goto 4, 3) ∧ ((69 : Nat) : Int) + 4 = ((73 : Nat) : Int) := by decide +kernel
theorem D_M_offBy_114 : decode prog_9_method_48_code 114 = .ok (.aload_n 0, 1) ∧ 114 + 1 = 115 := by decide +kernel
theorem D_M_offBy_115 : decode prog_9_method_48_code 115 = .ok (.invokevirtual 165, 3) ∧ 115 + 3 = 118 := by decide +kernel
theorem D_M_offBy_118 : decode prog_9_method_48_code 118 = .ok (.lload 5, 2) ∧ 118 + 2 = 120 := by decide +kernel
theorem D_M_offBy_120 : decode prog_9_method_48_code 120 = .ok (.lreturn, 1) := by decide +kernel
def f_M_offBy_L26  : Nat → Int32 → Int32 → Int32 → Int32 → Int64 → Int32 → Mm → Option (Int64 × Int32)
  | 0, _, _, _, _, _, _, _ => none
  | n + 1, b1, b2, b3, b4, b5, b7, mem => if inb b1 4 = true then if mem 105 (ix b1) ≤ b7 then some (b5, b7) else if inb ((24 * b1) + b7) 96 = true then lt (mem 106 (ix ((24 * b1) + b7))) fun x_49 => bp (f_M_isTable b7) fun r_56 => if r_56 = 0 then lt (x_49.toInt64 - ((0 : Int32).toInt64)) fun x_75 => if x_49 = (-1000000005) then lt (b5 + 0) fun x_106 => f_M_offBy_L26 n b1 b2 b3 b4 x_106 (b7 + 1) mem else if 0 ≤ lg_cmp x_75 0 then lt (b5 + x_75) fun x_106 => f_M_offBy_L26 n b1 b2 b3 b4 x_106 (b7 + 1) mem else lt (b5 + (-x_75)) fun x_106 => f_M_offBy_L26 n b1 b2 b3 b4 x_106 (b7 + 1) mem else bp (f_M_at0 b7 1 mem) fun r_66 => lt (x_49.toInt64 - r_66.toInt64) fun x_75 => if x_49 = (-1000000005) then lt (b5 + 0) fun x_106 => f_M_offBy_L26 n b1 b2 b3 b4 x_106 (b7 + 1) mem else if 0 ≤ lg_cmp x_75 0 then lt (b5 + x_75) fun x_106 => f_M_offBy_L26 n b1 b2 b3 b4 x_106 (b7 + 1) mem else lt (b5 + (-x_75)) fun x_106 => f_M_offBy_L26 n b1 b2 b3 b4 x_106 (b7 + 1) mem else none else none
def f_M_offBy (N : Nat) (a1 : Int32) (a2 : Int32) (a3 : Int32) (mem : Mm) : Option (Int64 × Mm) := if inb ((34 + (3 * a2)) + 1) 1436 = true then lt (mst mem 92 (ix ((34 + (3 * a2)) + 1)) a3) fun m_13 => bd (f_M_hour N m_13) fun r_15 m_15 => bp (f_M_offBy_L26 N a1 a2 a3 r_15 0 0 m_15) fun y_26 => bp (f_M_putsBack N m_15) fun m_115 => some (y_26.1, m_115) else none
theorem L_M_offBy_26 {X : Cx} {E : En} (S : Std X E prog_9_method_48_code R6 11 5)  {mem : Mm} : ∀ (n : Nat) (b1 : Int32) (b2 : Int32) (b3 : Int32) (b4 : Int32) (b5 : Int64) (b7 : Int32) (z : Int64 × Int32), f_M_offBy_L26 n b1 b2 b3 b4 b5 b7 mem = some z → J X E 11 114 [(0, .ref (eb E + 91)), (1, .int b1), (2, .int b2), (3, .int b3), (4, .int b4), (5, .long z.1), (7, .int z.2)] [] SH mem → J X E 11 26 [(0, .ref (eb E + 91)), (1, .int b1), (2, .int b2), (3, .int b3), (4, .int b4), (5, .long b5), (7, .int b7)] [] SH mem := by
  intro n
  induction n with
  | zero =>
    intro b1 b2 b3 b4 b5 b7 z h hk; cases h
  | succ n ih =>
    intro b1 b2 b3 b4 b5 b7 z h hk
    rw [f_M_offBy_L26] at h
    refine j_iload S D_M_offBy_26 6 rfl ?_
    refine j_aload_n S D_M_offBy_28 0 rfl rfl ?_
    refine j_getR S D_M_offBy_29 fl_R6_55 sh_Mod rfl ?_
    refine j_iload_n S D_M_offBy_32 1 rfl rfl ?_
    obtain ⟨g_33, h⟩ := gdE h
    refine j_iald S D_M_offBy_33 sh_105 g_33 ?_
    refine j_icmp_ge S D_M_offBy_34 (fun c_34 => ?_) (fun c_34 => ?_)
    · have h := ifT c_34 h
      cases h
      exact j_locals [0, 1, 2, 3, 4, 5, 6] rfl hk
    · have h := ifF c_34 h
      refine j_aload_n S D_M_offBy_37 0 rfl rfl ?_
      refine j_getR S D_M_offBy_38 fl_R6_58 sh_Mod rfl ?_
      refine j_bipush S D_M_offBy_41 cb_24 ?_
      refine j_iload_n S D_M_offBy_43 1 rfl rfl ?_
      refine j_imul S D_M_offBy_44 ?_
      refine j_iload S D_M_offBy_45 6 rfl ?_
      refine j_iadd S D_M_offBy_47 ?_
      obtain ⟨g_48, h⟩ := gdE h
      refine j_iald S D_M_offBy_48 sh_106 g_48 ?_
      obtain ⟨x_49, hx_49, h⟩ := ltE h
      refine j_nm hx_49 ?_
      refine j_istore S D_M_offBy_49 (lv := [(8, .int x_49), (0, .ref (eb E + 91)), (1, .int b1), (2, .int b2), (3, .int b3), (4, .int b4), (5, .long b5), (7, .int b7)]) rfl (Nat.le_of_ble_eq_true rfl) ?_
      refine j_iload S D_M_offBy_51 0 rfl ?_
      refine j_i2l S D_M_offBy_53 ?_
      refine j_iload S D_M_offBy_54 7 rfl ?_
      obtain ⟨r_56, e_56, h⟩ := bpE h
      refine j_callSI (As := [.int b7]) S D_M_offBy_56 ms_R6_83 (c_M_isTable (cxL X) E b7 (mem := mem) e_56) (by decide) rfl rfl (Nat.le_of_ble_eq_true rfl) ?_
      refine j_if_eq S D_M_offBy_59 (fun c_59 => ?_) (fun c_59 => ?_)
      · have h := ifT c_59 h
        refine j_iconst S D_M_offBy_72 ci_0 ?_
        refine j_i2l S D_M_offBy_73 ?_
        refine j_lsub S D_M_offBy_74 ?_
        obtain ⟨x_75, hx_75, h⟩ := ltE h
        refine j_nmL hx_75 ?_
        refine j_lstore S D_M_offBy_75 (lv := [(9, .long x_75), (8, .int x_49), (0, .ref (eb E + 91)), (1, .int b1), (2, .int b2), (3, .int b3), (4, .int b4), (5, .long b5), (7, .int b7)]) rfl (Nat.le_of_ble_eq_true rfl) ?_
        refine j_lload S D_M_offBy_77 7 rfl ?_
        refine j_iload S D_M_offBy_79 1 rfl ?_
        refine j_ldc S D_M_offBy_81 co_R6_168 ?_
        refine j_icmp_ne S D_M_offBy_83 (fun c_83 => ?_) (fun c_83 => ?_)
        · have h := ifF c_83 h
          refine j_lload S D_M_offBy_90 0 rfl ?_
          refine j_lconst S D_M_offBy_92 cl_0 ?_
          refine j_lcmp S D_M_offBy_93 ?_
          refine j_if_ge S D_M_offBy_94 (fun c_94 => ?_) (fun c_94 => ?_)
          · have h := ifT c_94 h
            refine j_lload S D_M_offBy_103 0 rfl ?_
            refine j_ladd S D_M_offBy_105 ?_
            obtain ⟨x_106, hx_106, h⟩ := ltE h
            refine j_nmL hx_106 ?_
            refine j_lstore S D_M_offBy_106 (lv := [(5, .long x_106), (9, .long x_75), (8, .int x_49), (0, .ref (eb E + 91)), (1, .int b1), (2, .int b2), (3, .int b3), (4, .int b4), (7, .int b7)]) rfl (Nat.le_of_ble_eq_true rfl) ?_
            refine j_iinc S D_M_offBy_108 8 rfl (congrArg (fun z => b7 + z) ci_1) (lv := [(7, .int (b7 + 1)), (5, .long x_106), (9, .long x_75), (8, .int x_49), (0, .ref (eb E + 91)), (1, .int b1), (2, .int b2), (3, .int b3), (4, .int b4)]) rfl (Nat.le_of_ble_eq_true rfl) ?_
            refine j_goto S D_M_offBy_111 ?_
            refine j_locals [4, 5, 6, 7, 8, 1, 0] rfl (ih b1 b2 b3 b4 x_106 (b7 + 1) _ h hk)
          · have h := ifF c_94 h
            refine j_lload S D_M_offBy_97 0 rfl ?_
            refine j_lneg S D_M_offBy_99 ?_
            refine j_goto S D_M_offBy_100 ?_
            refine j_ladd S D_M_offBy_105 ?_
            obtain ⟨x_106, hx_106, h⟩ := ltE h
            refine j_nmL hx_106 ?_
            refine j_lstore S D_M_offBy_106 (lv := [(5, .long x_106), (9, .long x_75), (8, .int x_49), (0, .ref (eb E + 91)), (1, .int b1), (2, .int b2), (3, .int b3), (4, .int b4), (7, .int b7)]) rfl (Nat.le_of_ble_eq_true rfl) ?_
            refine j_iinc S D_M_offBy_108 8 rfl (congrArg (fun z => b7 + z) ci_1) (lv := [(7, .int (b7 + 1)), (5, .long x_106), (9, .long x_75), (8, .int x_49), (0, .ref (eb E + 91)), (1, .int b1), (2, .int b2), (3, .int b3), (4, .int b4)]) rfl (Nat.le_of_ble_eq_true rfl) ?_
            refine j_goto S D_M_offBy_111 ?_
            refine j_locals [4, 5, 6, 7, 8, 1, 0] rfl (ih b1 b2 b3 b4 x_106 (b7 + 1) _ h hk)
        · have h := ifT c_83 h
          refine j_lconst S D_M_offBy_86 cl_0 ?_
          refine j_goto S D_M_offBy_87 ?_
          refine j_ladd S D_M_offBy_105 ?_
          obtain ⟨x_106, hx_106, h⟩ := ltE h
          refine j_nmL hx_106 ?_
          refine j_lstore S D_M_offBy_106 (lv := [(5, .long x_106), (9, .long x_75), (8, .int x_49), (0, .ref (eb E + 91)), (1, .int b1), (2, .int b2), (3, .int b3), (4, .int b4), (7, .int b7)]) rfl (Nat.le_of_ble_eq_true rfl) ?_
          refine j_iinc S D_M_offBy_108 8 rfl (congrArg (fun z => b7 + z) ci_1) (lv := [(7, .int (b7 + 1)), (5, .long x_106), (9, .long x_75), (8, .int x_49), (0, .ref (eb E + 91)), (1, .int b1), (2, .int b2), (3, .int b3), (4, .int b4)]) rfl (Nat.le_of_ble_eq_true rfl) ?_
          refine j_goto S D_M_offBy_111 ?_
          refine j_locals [4, 5, 6, 7, 8, 1, 0] rfl (ih b1 b2 b3 b4 x_106 (b7 + 1) _ h hk)
      · have h := ifF c_59 h
        refine j_aload_n S D_M_offBy_62 1 rfl rfl ?_
        refine j_iload S D_M_offBy_63 7 rfl ?_
        refine j_iconst S D_M_offBy_65 ci_1 ?_
        obtain ⟨r_66, e_66, h⟩ := bpE h
        refine j_callVI (As := [.int b7, .int 1]) S D_M_offBy_66 mv_R6_107 (c_M_at0 (cxL X) E b7 1 e_66) (by decide) sh_Mod rfl rfl rfl rfl (Nat.le_of_ble_eq_true rfl) ?_
        refine j_goto S D_M_offBy_69 ?_
        refine j_i2l S D_M_offBy_73 ?_
        refine j_lsub S D_M_offBy_74 ?_
        obtain ⟨x_75, hx_75, h⟩ := ltE h
        refine j_nmL hx_75 ?_
        refine j_lstore S D_M_offBy_75 (lv := [(9, .long x_75), (8, .int x_49), (0, .ref (eb E + 91)), (1, .int b1), (2, .int b2), (3, .int b3), (4, .int b4), (5, .long b5), (7, .int b7)]) rfl (Nat.le_of_ble_eq_true rfl) ?_
        refine j_lload S D_M_offBy_77 7 rfl ?_
        refine j_iload S D_M_offBy_79 1 rfl ?_
        refine j_ldc S D_M_offBy_81 co_R6_168 ?_
        refine j_icmp_ne S D_M_offBy_83 (fun c_83 => ?_) (fun c_83 => ?_)
        · have h := ifF c_83 h
          refine j_lload S D_M_offBy_90 0 rfl ?_
          refine j_lconst S D_M_offBy_92 cl_0 ?_
          refine j_lcmp S D_M_offBy_93 ?_
          refine j_if_ge S D_M_offBy_94 (fun c_94 => ?_) (fun c_94 => ?_)
          · have h := ifT c_94 h
            refine j_lload S D_M_offBy_103 0 rfl ?_
            refine j_ladd S D_M_offBy_105 ?_
            obtain ⟨x_106, hx_106, h⟩ := ltE h
            refine j_nmL hx_106 ?_
            refine j_lstore S D_M_offBy_106 (lv := [(5, .long x_106), (9, .long x_75), (8, .int x_49), (0, .ref (eb E + 91)), (1, .int b1), (2, .int b2), (3, .int b3), (4, .int b4), (7, .int b7)]) rfl (Nat.le_of_ble_eq_true rfl) ?_
            refine j_iinc S D_M_offBy_108 8 rfl (congrArg (fun z => b7 + z) ci_1) (lv := [(7, .int (b7 + 1)), (5, .long x_106), (9, .long x_75), (8, .int x_49), (0, .ref (eb E + 91)), (1, .int b1), (2, .int b2), (3, .int b3), (4, .int b4)]) rfl (Nat.le_of_ble_eq_true rfl) ?_
            refine j_goto S D_M_offBy_111 ?_
            refine j_locals [4, 5, 6, 7, 8, 1, 0] rfl (ih b1 b2 b3 b4 x_106 (b7 + 1) _ h hk)
          · have h := ifF c_94 h
            refine j_lload S D_M_offBy_97 0 rfl ?_
            refine j_lneg S D_M_offBy_99 ?_
            refine j_goto S D_M_offBy_100 ?_
            refine j_ladd S D_M_offBy_105 ?_
            obtain ⟨x_106, hx_106, h⟩ := ltE h
            refine j_nmL hx_106 ?_
            refine j_lstore S D_M_offBy_106 (lv := [(5, .long x_106), (9, .long x_75), (8, .int x_49), (0, .ref (eb E + 91)), (1, .int b1), (2, .int b2), (3, .int b3), (4, .int b4), (7, .int b7)]) rfl (Nat.le_of_ble_eq_true rfl) ?_
            refine j_iinc S D_M_offBy_108 8 rfl (congrArg (fun z => b7 + z) ci_1) (lv := [(7, .int (b7 + 1)), (5, .long x_106), (9, .long x_75), (8, .int x_49), (0, .ref (eb E + 91)), (1, .int b1), (2, .int b2), (3, .int b3), (4, .int b4)]) rfl (Nat.le_of_ble_eq_true rfl) ?_
            refine j_goto S D_M_offBy_111 ?_
            refine j_locals [4, 5, 6, 7, 8, 1, 0] rfl (ih b1 b2 b3 b4 x_106 (b7 + 1) _ h hk)
        · have h := ifT c_83 h
          refine j_lconst S D_M_offBy_86 cl_0 ?_
          refine j_goto S D_M_offBy_87 ?_
          refine j_ladd S D_M_offBy_105 ?_
          obtain ⟨x_106, hx_106, h⟩ := ltE h
          refine j_nmL hx_106 ?_
          refine j_lstore S D_M_offBy_106 (lv := [(5, .long x_106), (9, .long x_75), (8, .int x_49), (0, .ref (eb E + 91)), (1, .int b1), (2, .int b2), (3, .int b3), (4, .int b4), (7, .int b7)]) rfl (Nat.le_of_ble_eq_true rfl) ?_
          refine j_iinc S D_M_offBy_108 8 rfl (congrArg (fun z => b7 + z) ci_1) (lv := [(7, .int (b7 + 1)), (5, .long x_106), (9, .long x_75), (8, .int x_49), (0, .ref (eb E + 91)), (1, .int b1), (2, .int b2), (3, .int b3), (4, .int b4)]) rfl (Nat.le_of_ble_eq_true rfl) ?_
          refine j_goto S D_M_offBy_111 ?_
          refine j_locals [4, 5, 6, 7, 8, 1, 0] rfl (ih b1 b2 b3 b4 x_106 (b7 + 1) _ h hk)
theorem c_M_offBy (l : Launch) (E : En) (N : Nat) (a1 : Int32) (a2 : Int32) (a3 : Int32) {mem : Mm} {r : Int64} {m2 : Mm} (h : f_M_offBy N a1 a2 a3 mem = some (r, m2)) : CtL l E 5 y_M_offBy prog_9_method_48_code 11 [.ref (eb E + 91), .int a1, .int a2, .int a3] SH mem r m2 := by
  refine mk_CtL ⟨by decide, (Nat.le_of_ble_eq_true rfl)⟩ (fun X S hl hR => ?_)
  have S : Std X E prog_9_method_48_code R6 11 5 := S
  show J X E 11 0 [(0, .ref (eb E + 91)), (1, .int a1), (2, .int a2), (3, .int a3)] [] SH mem
  unfold f_M_offBy at h
  refine j_aload_n S D_M_offBy_0 0 rfl rfl ?_
  refine j_getR S D_M_offBy_1 fl_R6_9 sh_Mod rfl ?_
  refine j_bipush S D_M_offBy_4 cb_34 ?_
  refine j_iconst S D_M_offBy_6 ci_3 ?_
  refine j_iload_n S D_M_offBy_7 2 rfl rfl ?_
  refine j_imul S D_M_offBy_8 ?_
  refine j_iadd S D_M_offBy_9 ?_
  refine j_iconst S D_M_offBy_10 ci_1 ?_
  refine j_iadd S D_M_offBy_11 ?_
  refine j_iload_n S D_M_offBy_12 3 rfl rfl ?_
  obtain ⟨g_13, h⟩ := gdE h
  obtain ⟨m_13, hm_13, h⟩ := ltE h
  refine j_iast S D_M_offBy_13 sh_92 g_13 ?_
  refine j_mem hm_13 ?_
  refine j_aload_n S D_M_offBy_14 0 rfl rfl ?_
  obtain ⟨r_15, m_15, e_15, h⟩ := bdE h
  refine j_callVI (As := []) S D_M_offBy_15 mv_R6_153 (c_M_hour (cxL X) E N e_15) (by decide) sh_Mod rfl rfl rfl rfl (Nat.le_of_ble_eq_true rfl) ?_
  refine j_istore S D_M_offBy_18 (lv := [(4, .int r_15), (0, .ref (eb E + 91)), (1, .int a1), (2, .int a2), (3, .int a3)]) rfl (Nat.le_of_ble_eq_true rfl) ?_
  refine j_lconst S D_M_offBy_20 cl_0 ?_
  refine j_lstore S D_M_offBy_21 (lv := [(5, .long 0), (4, .int r_15), (0, .ref (eb E + 91)), (1, .int a1), (2, .int a2), (3, .int a3)]) rfl (Nat.le_of_ble_eq_true rfl) ?_
  refine j_iconst S D_M_offBy_23 ci_0 ?_
  refine j_istore S D_M_offBy_24 (lv := [(7, .int 0), (5, .long 0), (4, .int r_15), (0, .ref (eb E + 91)), (1, .int a1), (2, .int a2), (3, .int a3)]) rfl (Nat.le_of_ble_eq_true rfl) ?_
  refine j_locals [3, 4, 5, 6, 2, 1, 0] rfl ?_
  obtain ⟨y_26, e_26, h⟩ := bpE h
  refine L_M_offBy_26 S  N a1 a2 a3 r_15 0 0 _ e_26 ?_
  refine j_aload_n S D_M_offBy_114 0 rfl rfl ?_
  obtain ⟨m_115, e_115, h⟩ := bpE h
  refine j_callVV (As := []) S D_M_offBy_115 mv_R6_165 (c_M_putsBack (cxL X) E N e_115) (by decide) sh_Mod rfl rfl rfl rfl (Nat.le_of_ble_eq_true rfl) ?_
  refine j_lload S D_M_offBy_118 5 rfl ?_
  exact rtL hR h _ _ D_M_offBy_120

def y_M_isSheet : MethodName := ⟨"SandPictureModel", "isSheet", "(I)Z"⟩
theorem D_M_isSheet_0 : decode prog_9_method_70_code 0 = .ok (.iload_n 0, 1) ∧ 0 + 1 = 1 := by decide +kernel
theorem D_M_isSheet_1 : decode prog_9_method_70_code 1 = .ok (.iconst 0, 1) ∧ 1 + 1 = 2 := by decide +kernel
theorem D_M_isSheet_2 : decode prog_9_method_70_code 2 = .ok (.iconst 3, 1) ∧ 2 + 1 = 3 := by decide +kernel
theorem D_M_isSheet_3 : decode prog_9_method_70_code 3 = .ok (.invokestatic 79, 3) ∧ 3 + 3 = 6 := by decide +kernel
theorem D_M_isSheet_6 : decode prog_9_method_70_code 6 = .ok (.ireturn, 1) := by decide +kernel
def f_M_isSheet (a1 : Int32) : Option (Int32) := bp (f_M_in a1 0 3) fun r_3 => if isb r_3 = true then some r_3 else none
theorem c_M_isSheet (l : Launch) (E : En) (a1 : Int32) {mem : Mm} {r : Int32} (h : f_M_isSheet a1 = some r) : CtI l E 1 y_M_isSheet prog_9_method_70_code 1 (some .boolean) [.int a1] SH mem r mem := by
  refine mk_CtZ ⟨by decide, (Nat.le_of_ble_eq_true rfl)⟩ (fun X S hl hR => ?_)
  have S : Std X E prog_9_method_70_code R6 1 1 := S
  show J X E 1 0 [(0, .int a1)] [] SH mem
  unfold f_M_isSheet at h
  refine j_iload_n S D_M_isSheet_0 0 rfl rfl ?_
  refine j_iconst S D_M_isSheet_1 ci_0 ?_
  refine j_iconst S D_M_isSheet_2 ci_3 ?_
  obtain ⟨r_3, e_3, h⟩ := bpE h
  refine j_callSI (As := [.int a1, .int 0, .int 3]) S D_M_isSheet_3 ms_R6_79 (c_M_in (cxL X) E a1 0 3 (mem := mem) e_3) (by decide) rfl rfl (Nat.le_of_ble_eq_true rfl) ?_
  obtain ⟨z_6, h⟩ := gdE h
  exact rtIZ hR h z_6 _ _ D_M_isSheet_6

def y_M_paced : MethodName := ⟨"SandPictureModel", "paced", "(III)I"⟩
theorem D_M_paced_0 : decode prog_9_method_49_code 0 = .ok (.iload_n 1, 1) ∧ 0 + 1 = 1 := by decide +kernel
theorem D_M_paced_1 : decode prog_9_method_49_code 1 = .ok (.invokestatic 169, 3) ∧ 1 + 3 = 4 := by decide +kernel
theorem D_M_paced_4 : decode prog_9_method_49_code 4 = .ok (.ifCond .eq 20, 3) ∧ ((4 : Nat) : Int) + 20 = ((24 : Nat) : Int) ∧ 4 + 3 = 7 := by decide +kernel
theorem D_M_paced_24 : decode prog_9_method_49_code 24 = .ok (.ldc 87, 2) ∧ 24 + 2 = 26 := by decide +kernel
theorem D_M_paced_26 : decode prog_9_method_49_code 26 = .ok (.ireturn, 1) := by decide +kernel
theorem D_M_paced_7 : decode prog_9_method_49_code 7 = .ok (.aload_n 0, 1) ∧ 7 + 1 = 8 := by decide +kernel
theorem D_M_paced_8 : decode prog_9_method_49_code 8 = .ok (.iload_n 2, 1) ∧ 8 + 1 = 9 := by decide +kernel
theorem D_M_paced_9 : decode prog_9_method_49_code 9 = .ok (.invokevirtual 97, 3) ∧ 9 + 3 = 12 := by decide +kernel
theorem D_M_paced_12 : decode prog_9_method_49_code 12 = .ok (.ifCond .eq 12, 3) ∧ ((12 : Nat) : Int) + 12 = ((24 : Nat) : Int) ∧ 12 + 3 = 15 := by decide +kernel
theorem D_M_paced_15 : decode prog_9_method_49_code 15 = .ok (.iload_n 3, 1) ∧ 15 + 1 = 16 := by decide +kernel
theorem D_M_paced_16 : decode prog_9_method_49_code 16 = .ok (.iconst 0, 1) ∧ 16 + 1 = 17 := by decide +kernel
theorem D_M_paced_17 : decode prog_9_method_49_code 17 = .ok (.iconst 1, 1) ∧ 17 + 1 = 18 := by decide +kernel
theorem D_M_paced_18 : decode prog_9_method_49_code 18 = .ok (.invokestatic 79, 3) ∧ 18 + 3 = 21 := by decide +kernel
theorem D_M_paced_21 : decode prog_9_method_49_code 21 = .ok (.ifCond .ne 6, 3) ∧ ((21 : Nat) : Int) + 6 = ((27 : Nat) : Int) ∧ 21 + 3 = 24 := by decide +kernel
theorem D_M_paced_27 : decode prog_9_method_49_code 27 = .ok (.aload_n 0, 1) ∧ 27 + 1 = 28 := by decide +kernel
theorem D_M_paced_28 : decode prog_9_method_49_code 28 = .ok (.getfield 52, 3) ∧ 28 + 3 = 31 := by decide +kernel
theorem D_M_paced_31 : decode prog_9_method_49_code 31 = .ok (.iload_n 1, 1) ∧ 31 + 1 = 32 := by decide +kernel
theorem D_M_paced_32 : decode prog_9_method_49_code 32 = .ok (.iaload, 1) ∧ 32 + 1 = 33 := by decide +kernel
theorem D_M_paced_33 : decode prog_9_method_49_code 33 = .ok (.ifCond .ge 6, 3) ∧ ((33 : Nat) : Int) + 6 = ((39 : Nat) : Int) ∧ 33 + 3 = 36 := by decide +kernel
theorem D_M_paced_39 : decode prog_9_method_49_code 39 = .ok (.aload_n 0, 1) ∧ 39 + 1 = 40 := by decide +kernel
theorem D_M_paced_40 : decode prog_9_method_49_code 40 = .ok (.invokevirtual 162, 3) ∧ 40 + 3 = 43 := by decide +kernel
theorem D_M_paced_43 : decode prog_9_method_49_code 43 = .ok (.iconst 1, 1) ∧ 43 + 1 = 44 := by decide +kernel
theorem D_M_paced_44 : decode prog_9_method_49_code 44 = .ok (.istore 4, 2) ∧ 44 + 2 = 46 := by decide +kernel
theorem D_M_paced_46 : decode prog_9_method_49_code 46 = .ok (.aload_n 0, 1) ∧ 46 + 1 = 47 := by decide +kernel
theorem D_M_paced_47 : decode prog_9_method_49_code 47 = .ok (.iload_n 1, 1) ∧ 47 + 1 = 48 := by decide +kernel
theorem D_M_paced_48 : decode prog_9_method_49_code 48 = .ok (.iload_n 2, 1) ∧ 48 + 1 = 49 := by decide +kernel
theorem D_M_paced_49 : decode prog_9_method_49_code 49 = .ok (.iconst 1, 1) ∧ 49 + 1 = 50 := by decide +kernel
theorem D_M_paced_50 : decode prog_9_method_49_code 50 = .ok (.invokevirtual 173, 3) ∧ 50 + 3 = 53 := by decide +kernel
theorem D_M_paced_53 : decode prog_9_method_49_code 53 = .ok (.lstore 5, 2) ∧ 53 + 2 = 55 := by decide +kernel
theorem D_M_paced_55 : decode prog_9_method_49_code 55 = .ok (.iconst 2, 1) ∧ 55 + 1 = 56 := by decide +kernel
theorem D_M_paced_56 : decode prog_9_method_49_code 56 = .ok (.istore 7, 2) ∧ 56 + 2 = 58 := by decide +kernel
theorem D_M_paced_58 : decode prog_9_method_49_code 58 = .ok (.iload 7, 2) ∧ 58 + 2 = 60 := by decide +kernel
theorem D_M_paced_60 : decode prog_9_method_49_code 60 = .ok (.bipush 40, 2) ∧ 60 + 2 = 62 := by decide +kernel
theorem D_M_paced_62 : decode prog_9_method_49_code 62 = .ok (.if_icmp .gt 53, 3) ∧ ((62 : Nat) : Int) + 53 = ((115 : Nat) : Int) ∧ 62 + 3 = 65 := by decide +kernel
theorem D_M_paced_65 : decode prog_9_method_49_code 65 = .ok (.aload_n 0, 1) ∧ 65 + 1 = 66 := by decide +kernel
theorem D_M_paced_66 : decode prog_9_method_49_code 66 = .ok (.iload_n 1, 1) ∧ 66 + 1 = 67 := by decide +kernel
theorem D_M_paced_67 : decode prog_9_method_49_code 67 = .ok (.iload_n 2, 1) ∧ 67 + 1 = 68 := by decide +kernel
theorem D_M_paced_68 : decode prog_9_method_49_code 68 = .ok (.iload 7, 2) ∧ 68 + 2 = 70 := by decide +kernel
theorem D_M_paced_70 : decode prog_9_method_49_code 70 = .ok (.invokevirtual 173, 3) ∧ 70 + 3 = 73 := by decide +kernel
theorem D_M_paced_73 : decode prog_9_method_49_code 73 = .ok (.lstore 8, 2) ∧ 73 + 2 = 75 := by decide +kernel
theorem D_M_paced_75 : decode prog_9_method_49_code 75 = .ok (.lload 8, 2) ∧ 75 + 2 = 77 := by decide +kernel
theorem D_M_paced_77 : decode prog_9_method_49_code 77 = .ok (.lload 5, 2) ∧ 77 + 2 = 79 := by decide +kernel
theorem D_M_paced_79 : decode prog_9_method_49_code 79 = .ok (.lcmp, 1) ∧ 79 + 1 = 80 := by decide +kernel
theorem D_M_paced_88 : decode prog_9_method_49_code 88 = .ok (.iload 4, 2) ∧ 88 + 2 = 90 := by decide +kernel
theorem D_M_paced_83 : decode prog_9_method_49_code 83 = .ok (.iload 7, 2) ∧ 83 + 2 = 85 := by decide +kernel
theorem D_M_paced_85 : decode prog_9_method_49_code 85 = .ok (.goto 5, 3) ∧ ((85 : Nat) : Int) + 5 = ((90 : Nat) : Int) := by decide +kernel
theorem D_M_paced_80 : decode prog_9_method_49_code 80 = .ok (.ifCond .ge 8, 3) ∧ ((80 : Nat) : Int) + 8 = ((88 : Nat) : Int) ∧ 80 + 3 = 83 := by decide +kernel
theorem D_M_paced_90 : decode prog_9_method_49_code 90 = .ok (.istore 4, 2) ∧ 90 + 2 = 92 := by decide +kernel
theorem D_M_paced_92 : decode prog_9_method_49_code 92 = .ok (.lload 8, 2) ∧ 92 + 2 = 94 := by decide +kernel
theorem D_M_paced_94 : decode prog_9_method_49_code 94 = .ok (.lload 5, 2) ∧ 94 + 2 = 96 := by decide +kernel
theorem D_M_paced_96 : decode prog_9_method_49_code 96 = .ok (.lcmp, 1) ∧ 96 + 1 = 97 := by decide +kernel
theorem D_M_paced_97 : decode prog_9_method_49_code 97 = .ok (.ifCond .ge 8, 3) ∧ ((97 : Nat) : Int) + 8 = ((105 : Nat) : Int) ∧ 97 + 3 = 100 := by decide +kernel
theorem D_M_paced_105 : decode prog_9_method_49_code 105 = .ok (.lload 5, 2) ∧ 105 + 2 = 107 := by decide +kernel
theorem D_M_paced_107 : decode prog_9_method_49_code 107 = .ok (.lstore 5, 2) ∧ 107 + 2 = 109 := by decide +kernel
theorem D_M_paced_109 : decode prog_9_method_49_code 109 = .ok (.iinc 7 1, 3) ∧ 109 + 3 = 112 := by decide +kernel
theorem D_M_paced_112 : decode prog_9_method_49_code 112 = .ok (.goto (-54), 3) ∧ ((112 : Nat) : Int) + (-54) = ((58 : Nat) : Int) := by decide +kernel
theorem D_M_paced_100 : decode prog_9_method_49_code 100 = .ok (.lload 8, 2) ∧ 100 + 2 = 102 := by decide +kernel
theorem D_M_paced_102 : decode prog_9_method_49_code 102 = .ok (.goto 5, 3) ∧ ((102 : Nat) : Int) + 5 = ((107 : Nat) : Int) := by decide +kernel
theorem D_M_paced_115 : decode prog_9_method_49_code 115 = .ok (.iload_n 3, 1) ∧ 115 + 1 = 116 := by decide +kernel
theorem D_M_paced_124 : decode prog_9_method_49_code 124 = .ok (.lload 5, 2) ∧ 124 + 2 = 126 := by decide +kernel
theorem D_M_paced_126 : decode prog_9_method_49_code 126 = .ok (.l2i, 1) ∧ 126 + 1 = 127 := by decide +kernel
theorem D_M_paced_119 : decode prog_9_method_49_code 119 = .ok (.iload 4, 2) ∧ 119 + 2 = 121 := by decide +kernel
theorem D_M_paced_121 : decode prog_9_method_49_code 121 = .ok (.goto 6, 3) ∧ ((121 : Nat) : Int) + 6 = ((127 : Nat) : Int) := by decide +kernel
theorem D_M_paced_116 : decode prog_9_method_49_code 116 = .ok (.ifCond .ne 8, 3) ∧ ((116 : Nat) : Int) + 8 = ((124 : Nat) : Int) ∧ 116 + 3 = 119 := by decide +kernel
theorem D_M_paced_127 : decode prog_9_method_49_code 127 = .ok (.ireturn, 1) := by decide +kernel
theorem D_M_paced_36 : decode prog_9_method_49_code 36 = .ok (.ldc 172, 2) ∧ 36 + 2 = 38 := by decide +kernel
theorem D_M_paced_38 : decode prog_9_method_49_code 38 = .ok (.ireturn, 1) := by decide +kernel
def f_M_paced_L58 (N : Nat)  : Nat → Int32 → Int32 → Int32 → Int32 → Int64 → Int32 → Mm → Option ((Int32 × Int64 × Int32) × Mm)
  | 0, _, _, _, _, _, _, _ => none
  | n + 1, b1, b2, b3, b4, b5, b7, mem => if 40 < b7 then some ((b4, b5, b7), mem) else bd (f_M_offBy N b1 b2 b7 mem) fun r_70 m_70 => lt (if 0 ≤ lg_cmp r_70 b5 then b4 else b7) fun x_90 => if 0 ≤ lg_cmp r_70 b5 then f_M_paced_L58 N n b1 b2 b3 x_90 b5 (b7 + 1) m_70 else f_M_paced_L58 N n b1 b2 b3 x_90 r_70 (b7 + 1) m_70
def f_M_paced (N : Nat) (a1 : Int32) (a2 : Int32) (a3 : Int32) (mem : Mm) : Option (Int32 × Mm) := bp (f_M_isSheet a1) fun r_1 => if r_1 = 0 then some ((-1000000001), mem) else bp (f_M_isMonk a2 mem) fun r_9 => if r_9 = 0 then some ((-1000000001), mem) else bp (f_M_in a3 0 1) fun r_18 => if r_18 = 0 then some ((-1000000001), mem) else if inb a1 4 = true then if 0 ≤ mem 104 (ix a1) then bp (f_M_thinks N mem) fun m_40 => bd (f_M_offBy N a1 a2 1 m_40) fun r_50 m_50 => bd (f_M_paced_L58 N N a1 a2 a3 1 r_50 2 m_50) fun y_58 m_58 => some (if a3 = 0 then y_58.1 else y_58.2.1.toInt32, m_58) else some ((-1000000011), mem) else none
theorem L_M_paced_58 {X : Cx} {E : En} (S : Std X E prog_9_method_49_code R6 10 6) (N : Nat)  : ∀ (n : Nat) (b1 : Int32) (b2 : Int32) (b3 : Int32) (b4 : Int32) (b5 : Int64) (b7 : Int32) (mem : Mm) (z : Int32 × Int64 × Int32) (m2 : Mm), f_M_paced_L58 N n b1 b2 b3 b4 b5 b7 mem = some (z, m2) → J X E 10 115 [(0, .ref (eb E + 91)), (1, .int b1), (2, .int b2), (3, .int b3), (4, .int z.1), (5, .long z.2.1), (7, .int z.2.2)] [] SH m2 → J X E 10 58 [(0, .ref (eb E + 91)), (1, .int b1), (2, .int b2), (3, .int b3), (4, .int b4), (5, .long b5), (7, .int b7)] [] SH mem := by
  intro n
  induction n with
  | zero =>
    intro b1 b2 b3 b4 b5 b7 mem z m2 h hk; cases h
  | succ n ih =>
    intro b1 b2 b3 b4 b5 b7 mem z m2 h hk
    rw [f_M_paced_L58] at h
    refine j_iload S D_M_paced_58 6 rfl ?_
    refine j_bipush S D_M_paced_60 cb_40 ?_
    refine j_icmp_gt S D_M_paced_62 (fun c_62 => ?_) (fun c_62 => ?_)
    · have h := ifT c_62 h
      cases h
      exact j_locals [0, 1, 2, 3, 4, 5, 6] rfl hk
    · have h := ifF c_62 h
      refine j_aload_n S D_M_paced_65 0 rfl rfl ?_
      refine j_iload_n S D_M_paced_66 1 rfl rfl ?_
      refine j_iload_n S D_M_paced_67 2 rfl rfl ?_
      refine j_iload S D_M_paced_68 6 rfl ?_
      obtain ⟨r_70, m_70, e_70, h⟩ := bdE h
      refine j_callVL (As := [.int b1, .int b2, .int b7]) S D_M_paced_70 mv_R6_173 (c_M_offBy (cxL X) E N b1 b2 b7 e_70) (by decide) sh_Mod rfl rfl rfl rfl (Nat.le_of_ble_eq_true rfl) ?_
      refine j_lstore S D_M_paced_73 (lv := [(8, .long r_70), (0, .ref (eb E + 91)), (1, .int b1), (2, .int b2), (3, .int b3), (4, .int b4), (5, .long b5), (7, .int b7)]) rfl (Nat.le_of_ble_eq_true rfl) ?_
      refine j_lload S D_M_paced_75 0 rfl ?_
      refine j_lload S D_M_paced_77 6 rfl ?_
      refine j_lcmp S D_M_paced_79 ?_
      refine j_dia (P := J X E 10 90 [(8, .long r_70), (0, .ref (eb E + 91)), (1, .int b1), (2, .int b2), (3, .int b3), (4, .int b4), (5, .long b5), (7, .int b7)] [.int (if 0 ≤ lg_cmp r_70 b5 then b4 else b7)] SH m_70) (fun hj => ?_) ?_
      · refine j_if_ge S D_M_paced_80 (fun c_80 => ?_) (fun c_80 => ?_)
        · refine j_iload S D_M_paced_88 5 rfl ?_
          exact j_jnT hj c_80
        · refine j_iload S D_M_paced_83 7 rfl ?_
          refine j_goto S D_M_paced_85 ?_
          exact j_jnF hj c_80
      obtain ⟨x_90, hx_90, h⟩ := ltE h
      refine j_nm hx_90 ?_
      refine j_istore S D_M_paced_90 (lv := [(4, .int x_90), (8, .long r_70), (0, .ref (eb E + 91)), (1, .int b1), (2, .int b2), (3, .int b3), (5, .long b5), (7, .int b7)]) rfl (Nat.le_of_ble_eq_true rfl) ?_
      refine j_lload S D_M_paced_92 1 rfl ?_
      refine j_lload S D_M_paced_94 6 rfl ?_
      refine j_lcmp S D_M_paced_96 ?_
      refine j_if_ge S D_M_paced_97 (fun c_97 => ?_) (fun c_97 => ?_)
      · have h := ifT c_97 h
        refine j_lload S D_M_paced_105 6 rfl ?_
        refine j_lstore S D_M_paced_107 (lv := [(5, .long b5), (4, .int x_90), (8, .long r_70), (0, .ref (eb E + 91)), (1, .int b1), (2, .int b2), (3, .int b3), (7, .int b7)]) rfl (Nat.le_of_ble_eq_true rfl) ?_
        refine j_iinc S D_M_paced_109 7 rfl (congrArg (fun z => b7 + z) ci_1) (lv := [(7, .int (b7 + 1)), (5, .long b5), (4, .int x_90), (8, .long r_70), (0, .ref (eb E + 91)), (1, .int b1), (2, .int b2), (3, .int b3)]) rfl (Nat.le_of_ble_eq_true rfl) ?_
        refine j_goto S D_M_paced_112 ?_
        refine j_locals [4, 5, 6, 7, 2, 1, 0] rfl (ih b1 b2 b3 x_90 b5 (b7 + 1) m_70 _ _ h hk)
      · have h := ifF c_97 h
        refine j_lload S D_M_paced_100 1 rfl ?_
        refine j_goto S D_M_paced_102 ?_
        refine j_lstore S D_M_paced_107 (lv := [(5, .long r_70), (4, .int x_90), (8, .long r_70), (0, .ref (eb E + 91)), (1, .int b1), (2, .int b2), (3, .int b3), (7, .int b7)]) rfl (Nat.le_of_ble_eq_true rfl) ?_
        refine j_iinc S D_M_paced_109 7 rfl (congrArg (fun z => b7 + z) ci_1) (lv := [(7, .int (b7 + 1)), (5, .long r_70), (4, .int x_90), (8, .long r_70), (0, .ref (eb E + 91)), (1, .int b1), (2, .int b2), (3, .int b3)]) rfl (Nat.le_of_ble_eq_true rfl) ?_
        refine j_goto S D_M_paced_112 ?_
        refine j_locals [4, 5, 6, 7, 2, 1, 0] rfl (ih b1 b2 b3 x_90 r_70 (b7 + 1) m_70 _ _ h hk)
theorem c_M_paced (l : Launch) (E : En) (N : Nat) (a1 : Int32) (a2 : Int32) (a3 : Int32) {mem : Mm} {r : Int32} {m2 : Mm} (h : f_M_paced N a1 a2 a3 mem = some (r, m2)) : CtI l E 6 y_M_paced prog_9_method_49_code 10 (some .int) [.ref (eb E + 91), .int a1, .int a2, .int a3] SH mem r m2 := by
  refine mk_CtI ⟨by decide, (Nat.le_of_ble_eq_true rfl)⟩ (fun X S hl hR => ?_)
  have S : Std X E prog_9_method_49_code R6 10 6 := S
  show J X E 10 0 [(0, .ref (eb E + 91)), (1, .int a1), (2, .int a2), (3, .int a3)] [] SH mem
  unfold f_M_paced at h
  refine j_iload_n S D_M_paced_0 1 rfl rfl ?_
  obtain ⟨r_1, e_1, h⟩ := bpE h
  refine j_callSI (As := [.int a1]) S D_M_paced_1 ms_R6_169 (c_M_isSheet (cxL X) E a1 (mem := mem) e_1) (by decide) rfl rfl (Nat.le_of_ble_eq_true rfl) ?_
  refine j_if_eq S D_M_paced_4 (fun c_4 => ?_) (fun c_4 => ?_)
  · have h := ifT c_4 h
    refine j_ldc S D_M_paced_24 co_R6_87 ?_
    exact rtM hR h _ _ D_M_paced_26
  · have h := ifF c_4 h
    refine j_aload_n S D_M_paced_7 0 rfl rfl ?_
    refine j_iload_n S D_M_paced_8 2 rfl rfl ?_
    obtain ⟨r_9, e_9, h⟩ := bpE h
    refine j_callVI (As := [.int a2]) S D_M_paced_9 mv_R6_97 (c_M_isMonk (cxL X) E a2 e_9) (by decide) sh_Mod rfl rfl rfl rfl (Nat.le_of_ble_eq_true rfl) ?_
    refine j_if_eq S D_M_paced_12 (fun c_12 => ?_) (fun c_12 => ?_)
    · have h := ifT c_12 h
      refine j_ldc S D_M_paced_24 co_R6_87 ?_
      exact rtM hR h _ _ D_M_paced_26
    · have h := ifF c_12 h
      refine j_iload_n S D_M_paced_15 3 rfl rfl ?_
      refine j_iconst S D_M_paced_16 ci_0 ?_
      refine j_iconst S D_M_paced_17 ci_1 ?_
      obtain ⟨r_18, e_18, h⟩ := bpE h
      refine j_callSI (As := [.int a3, .int 0, .int 1]) S D_M_paced_18 ms_R6_79 (c_M_in (cxL X) E a3 0 1 (mem := mem) e_18) (by decide) rfl rfl (Nat.le_of_ble_eq_true rfl) ?_
      refine j_if_ne S D_M_paced_21 (fun c_21 => ?_) (fun c_21 => ?_)
      · have h := ifF c_21 h
        refine j_aload_n S D_M_paced_27 0 rfl rfl ?_
        refine j_getR S D_M_paced_28 fl_R6_52 sh_Mod rfl ?_
        refine j_iload_n S D_M_paced_31 1 rfl rfl ?_
        obtain ⟨g_32, h⟩ := gdE h
        refine j_iald S D_M_paced_32 sh_104 g_32 ?_
        refine j_if_ge S D_M_paced_33 (fun c_33 => ?_) (fun c_33 => ?_)
        · have h := ifT c_33 h
          refine j_aload_n S D_M_paced_39 0 rfl rfl ?_
          obtain ⟨m_40, e_40, h⟩ := bpE h
          refine j_callVV (As := []) S D_M_paced_40 mv_R6_162 (c_M_thinks (cxL X) E N e_40) (by decide) sh_Mod rfl rfl rfl rfl (Nat.le_of_ble_eq_true rfl) ?_
          refine j_iconst S D_M_paced_43 ci_1 ?_
          refine j_istore S D_M_paced_44 (lv := [(4, .int 1), (0, .ref (eb E + 91)), (1, .int a1), (2, .int a2), (3, .int a3)]) rfl (Nat.le_of_ble_eq_true rfl) ?_
          refine j_aload_n S D_M_paced_46 1 rfl rfl ?_
          refine j_iload_n S D_M_paced_47 2 rfl rfl ?_
          refine j_iload_n S D_M_paced_48 3 rfl rfl ?_
          refine j_iconst S D_M_paced_49 ci_1 ?_
          obtain ⟨r_50, m_50, e_50, h⟩ := bdE h
          refine j_callVL (As := [.int a1, .int a2, .int 1]) S D_M_paced_50 mv_R6_173 (c_M_offBy (cxL X) E N a1 a2 1 e_50) (by decide) sh_Mod rfl rfl rfl rfl (Nat.le_of_ble_eq_true rfl) ?_
          refine j_lstore S D_M_paced_53 (lv := [(5, .long r_50), (4, .int 1), (0, .ref (eb E + 91)), (1, .int a1), (2, .int a2), (3, .int a3)]) rfl (Nat.le_of_ble_eq_true rfl) ?_
          refine j_iconst S D_M_paced_55 ci_2 ?_
          refine j_istore S D_M_paced_56 (lv := [(7, .int 2), (5, .long r_50), (4, .int 1), (0, .ref (eb E + 91)), (1, .int a1), (2, .int a2), (3, .int a3)]) rfl (Nat.le_of_ble_eq_true rfl) ?_
          refine j_locals [3, 4, 5, 6, 2, 1, 0] rfl ?_
          obtain ⟨y_58, m_58, e_58, h⟩ := bdE h
          refine L_M_paced_58 S N N a1 a2 a3 1 r_50 2 m_50 _ _ e_58 ?_
          refine j_iload_n S D_M_paced_115 3 rfl rfl ?_
          refine j_dia (P := J X E 10 127 [(0, .ref (eb E + 91)), (1, .int a1), (2, .int a2), (3, .int a3), (4, .int y_58.1), (5, .long y_58.2.1), (7, .int y_58.2.2)] [.int (if a3 = 0 then y_58.1 else y_58.2.1.toInt32)] SH m_58) (fun hj => ?_) ?_
          · refine j_if_ne S D_M_paced_116 (fun c_116 => ?_) (fun c_116 => ?_)
            · refine j_lload S D_M_paced_124 5 rfl ?_
              refine j_l2i S D_M_paced_126 ?_
              exact j_jnF hj c_116
            · refine j_iload S D_M_paced_119 4 rfl ?_
              refine j_goto S D_M_paced_121 ?_
              exact j_jnT hj c_116
          exact rtM hR h _ _ D_M_paced_127
        · have h := ifF c_33 h
          refine j_ldc S D_M_paced_36 co_R6_172 ?_
          exact rtM hR h _ _ D_M_paced_38
      · have h := ifT c_21 h
        refine j_ldc S D_M_paced_24 co_R6_87 ?_
        exact rtM hR h _ _ D_M_paced_26

def y_M_fine : MethodName := ⟨"SandPictureModel", "fine", "()I"⟩
theorem D_M_fine_0 : decode prog_9_method_50_code 0 = .ok (.aload_n 0, 1) ∧ 0 + 1 = 1 := by decide +kernel
theorem D_M_fine_1 : decode prog_9_method_50_code 1 = .ok (.iconst 2, 1) ∧ 1 + 1 = 2 := by decide +kernel
theorem D_M_fine_2 : decode prog_9_method_50_code 2 = .ok (.invokevirtual 104, 3) ∧ 2 + 3 = 5 := by decide +kernel
theorem D_M_fine_5 : decode prog_9_method_50_code 5 = .ok (.istore_n 1, 1) ∧ 5 + 1 = 6 := by decide +kernel
theorem D_M_fine_6 : decode prog_9_method_50_code 6 = .ok (.aload_n 0, 1) ∧ 6 + 1 = 7 := by decide +kernel
theorem D_M_fine_7 : decode prog_9_method_50_code 7 = .ok (.getfield 49, 3) ∧ 7 + 3 = 10 := by decide +kernel
theorem D_M_fine_10 : decode prog_9_method_50_code 10 = .ok (.iconst 0, 1) ∧ 10 + 1 = 11 := by decide +kernel
theorem D_M_fine_11 : decode prog_9_method_50_code 11 = .ok (.aload_n 0, 1) ∧ 11 + 1 = 12 := by decide +kernel
theorem D_M_fine_12 : decode prog_9_method_50_code 12 = .ok (.getfield 9, 3) ∧ 12 + 3 = 15 := by decide +kernel
theorem D_M_fine_15 : decode prog_9_method_50_code 15 = .ok (.iconst 2, 1) ∧ 15 + 1 = 16 := by decide +kernel
theorem D_M_fine_16 : decode prog_9_method_50_code 16 = .ok (.iaload, 1) ∧ 16 + 1 = 17 := by decide +kernel
theorem D_M_fine_17 : decode prog_9_method_50_code 17 = .ok (.iastore, 1) ∧ 17 + 1 = 18 := by decide +kernel
theorem D_M_fine_18 : decode prog_9_method_50_code 18 = .ok (.aload_n 0, 1) ∧ 18 + 1 = 19 := by decide +kernel
theorem D_M_fine_19 : decode prog_9_method_50_code 19 = .ok (.getfield 49, 3) ∧ 19 + 3 = 22 := by decide +kernel
theorem D_M_fine_22 : decode prog_9_method_50_code 22 = .ok (.iconst 1, 1) ∧ 22 + 1 = 23 := by decide +kernel
theorem D_M_fine_23 : decode prog_9_method_50_code 23 = .ok (.aload_n 0, 1) ∧ 23 + 1 = 24 := by decide +kernel
theorem D_M_fine_24 : decode prog_9_method_50_code 24 = .ok (.getfield 9, 3) ∧ 24 + 3 = 27 := by decide +kernel
theorem D_M_fine_27 : decode prog_9_method_50_code 27 = .ok (.iconst 4, 1) ∧ 27 + 1 = 28 := by decide +kernel
theorem D_M_fine_28 : decode prog_9_method_50_code 28 = .ok (.iaload, 1) ∧ 28 + 1 = 29 := by decide +kernel
theorem D_M_fine_29 : decode prog_9_method_50_code 29 = .ok (.iastore, 1) ∧ 29 + 1 = 30 := by decide +kernel
theorem D_M_fine_30 : decode prog_9_method_50_code 30 = .ok (.iload_n 1, 1) ∧ 30 + 1 = 31 := by decide +kernel
theorem D_M_fine_31 : decode prog_9_method_50_code 31 = .ok (.ifCond .ge 12, 3) ∧ ((31 : Nat) : Int) + 12 = ((43 : Nat) : Int) ∧ 31 + 3 = 34 := by decide +kernel
theorem D_M_fine_43 : decode prog_9_method_50_code 43 = .ok (.aload_n 0, 1) ∧ 43 + 1 = 44 := by decide +kernel
theorem D_M_fine_44 : decode prog_9_method_50_code 44 = .ok (.iload_n 1, 1) ∧ 44 + 1 = 45 := by decide +kernel
theorem D_M_fine_45 : decode prog_9_method_50_code 45 = .ok (.invokevirtual 110, 3) ∧ 45 + 3 = 48 := by decide +kernel
theorem D_M_fine_48 : decode prog_9_method_50_code 48 = .ok (.ireturn, 1) := by decide +kernel
theorem D_M_fine_34 : decode prog_9_method_50_code 34 = .ok (.aload_n 0, 1) ∧ 34 + 1 = 35 := by decide +kernel
theorem D_M_fine_35 : decode prog_9_method_50_code 35 = .ok (.getfield 9, 3) ∧ 35 + 3 = 38 := by decide +kernel
theorem D_M_fine_38 : decode prog_9_method_50_code 38 = .ok (.iconst 4, 1) ∧ 38 + 1 = 39 := by decide +kernel
theorem D_M_fine_39 : decode prog_9_method_50_code 39 = .ok (.iaload, 1) ∧ 39 + 1 = 40 := by decide +kernel
theorem D_M_fine_40 : decode prog_9_method_50_code 40 = .ok (.goto 8, 3) ∧ ((40 : Nat) : Int) + 8 = ((48 : Nat) : Int) := by decide +kernel
def f_M_fine (N : Nat)  (mem : Mm) : Option (Int32 × Mm) := bp (f_M_counts N 2 mem) fun r_2 => lt (mst mem 103 (ix 0) (mem 92 (ix 2))) fun m_17 => lt (mst m_17 103 (ix 1) (m_17 92 (ix 4))) fun m_29 => if 0 ≤ r_2 then bd (f_M_worksOut N r_2 m_29) fun r_45 m_45 => some (r_45, m_45) else some (m_29 92 (ix 4), m_29)
theorem c_M_fine (l : Launch) (E : En) (N : Nat)  {mem : Mm} {r : Int32} {m2 : Mm} (h : f_M_fine N mem = some (r, m2)) : CtI l E 2 y_M_fine prog_9_method_50_code 2 (some .int) [.ref (eb E + 91)] SH mem r m2 := by
  refine mk_CtI ⟨by decide, (Nat.le_of_ble_eq_true rfl)⟩ (fun X S hl hR => ?_)
  have S : Std X E prog_9_method_50_code R6 2 2 := S
  show J X E 2 0 [(0, .ref (eb E + 91))] [] SH mem
  unfold f_M_fine at h
  refine j_aload_n S D_M_fine_0 0 rfl rfl ?_
  refine j_iconst S D_M_fine_1 ci_2 ?_
  obtain ⟨r_2, e_2, h⟩ := bpE h
  refine j_callVI (As := [.int 2]) S D_M_fine_2 mv_R6_104 (c_M_counts (cxL X) E N 2 e_2) (by decide) sh_Mod rfl rfl rfl rfl (Nat.le_of_ble_eq_true rfl) ?_
  refine j_istore_n S D_M_fine_5 (lv := [(1, .int r_2), (0, .ref (eb E + 91))]) rfl ⟨rfl, (Nat.le_of_ble_eq_true rfl)⟩ ?_
  refine j_aload_n S D_M_fine_6 1 rfl rfl ?_
  refine j_getR S D_M_fine_7 fl_R6_49 sh_Mod rfl ?_
  refine j_iconst S D_M_fine_10 ci_0 ?_
  refine j_aload_n S D_M_fine_11 1 rfl rfl ?_
  refine j_getR S D_M_fine_12 fl_R6_9 sh_Mod rfl ?_
  refine j_iconst S D_M_fine_15 ci_2 ?_
  refine j_iald S D_M_fine_16 sh_92 inbc_2_1436 ?_
  obtain ⟨m_17, hm_17, h⟩ := ltE h
  refine j_iast S D_M_fine_17 sh_103 inbc_0_4 ?_
  refine j_mem hm_17 ?_
  refine j_aload_n S D_M_fine_18 1 rfl rfl ?_
  refine j_getR S D_M_fine_19 fl_R6_49 sh_Mod rfl ?_
  refine j_iconst S D_M_fine_22 ci_1 ?_
  refine j_aload_n S D_M_fine_23 1 rfl rfl ?_
  refine j_getR S D_M_fine_24 fl_R6_9 sh_Mod rfl ?_
  refine j_iconst S D_M_fine_27 ci_4 ?_
  refine j_iald S D_M_fine_28 sh_92 inbc_4_1436 ?_
  obtain ⟨m_29, hm_29, h⟩ := ltE h
  refine j_iast S D_M_fine_29 sh_103 inbc_1_4 ?_
  refine j_mem hm_29 ?_
  refine j_iload_n S D_M_fine_30 0 rfl rfl ?_
  refine j_if_ge S D_M_fine_31 (fun c_31 => ?_) (fun c_31 => ?_)
  · have h := ifT c_31 h
    refine j_aload_n S D_M_fine_43 1 rfl rfl ?_
    refine j_iload_n S D_M_fine_44 0 rfl rfl ?_
    obtain ⟨r_45, m_45, e_45, h⟩ := bdE h
    refine j_callVI (As := [.int r_2]) S D_M_fine_45 mv_R6_110 (c_M_worksOut (cxL X) E N r_2 e_45) (by decide) sh_Mod rfl rfl rfl rfl (Nat.le_of_ble_eq_true rfl) ?_
    exact rtM hR h _ _ D_M_fine_48
  · have h := ifF c_31 h
    refine j_aload_n S D_M_fine_34 1 rfl rfl ?_
    refine j_getR S D_M_fine_35 fl_R6_9 sh_Mod rfl ?_
    refine j_iconst S D_M_fine_38 ci_4 ?_
    refine j_iald S D_M_fine_39 sh_92 inbc_4_1436 ?_
    refine j_goto S D_M_fine_40 ?_
    exact rtM hR h _ _ D_M_fine_48

def y_M_feed : MethodName := ⟨"SandPictureModel", "feed", "(III)I"⟩
theorem D_M_feed_0 : decode prog_9_method_51_code 0 = .ok (.aload_n 0, 1) ∧ 0 + 1 = 1 := by decide +kernel
theorem D_M_feed_1 : decode prog_9_method_51_code 1 = .ok (.getfield 177, 3) ∧ 1 + 3 = 4 := by decide +kernel
theorem D_M_feed_4 : decode prog_9_method_51_code 4 = .ok (.bipush 12, 2) ∧ 4 + 2 = 6 := by decide +kernel
theorem D_M_feed_6 : decode prog_9_method_51_code 6 = .ok (.iadd, 1) ∧ 6 + 1 = 7 := by decide +kernel
theorem D_M_feed_7 : decode prog_9_method_51_code 7 = .ok (.bipush 96, 2) ∧ 7 + 2 = 9 := by decide +kernel
theorem D_M_feed_9 : decode prog_9_method_51_code 9 = .ok (.if_icmp .le 6, 3) ∧ ((9 : Nat) : Int) + 6 = ((15 : Nat) : Int) ∧ 9 + 3 = 12 := by decide +kernel
theorem D_M_feed_15 : decode prog_9_method_51_code 15 = .ok (.iconst 0, 1) ∧ 15 + 1 = 16 := by decide +kernel
theorem D_M_feed_16 : decode prog_9_method_51_code 16 = .ok (.istore 4, 2) ∧ 16 + 2 = 18 := by decide +kernel
theorem D_M_feed_18 : decode prog_9_method_51_code 18 = .ok (.iload 4, 2) ∧ 18 + 2 = 20 := by decide +kernel
theorem D_M_feed_20 : decode prog_9_method_51_code 20 = .ok (.bipush 12, 2) ∧ 20 + 2 = 22 := by decide +kernel
theorem D_M_feed_22 : decode prog_9_method_51_code 22 = .ok (.if_icmp .ge 62, 3) ∧ ((22 : Nat) : Int) + 62 = ((84 : Nat) : Int) ∧ 22 + 3 = 25 := by decide +kernel
theorem D_M_feed_25 : decode prog_9_method_51_code 25 = .ok (.iload 4, 2) ∧ 25 + 2 = 27 := by decide +kernel
theorem D_M_feed_27 : decode prog_9_method_51_code 27 = .ok (.iconst 4, 1) ∧ 27 + 1 = 28 := by decide +kernel
theorem D_M_feed_35 : decode prog_9_method_51_code 35 = .ok (.iload 4, 2) ∧ 35 + 2 = 37 := by decide +kernel
theorem D_M_feed_37 : decode prog_9_method_51_code 37 = .ok (.bipush 8, 2) ∧ 37 + 2 = 39 := by decide +kernel
theorem D_M_feed_46 : decode prog_9_method_51_code 46 = .ok (.iload_n 3, 1) ∧ 46 + 1 = 47 := by decide +kernel
theorem D_M_feed_42 : decode prog_9_method_51_code 42 = .ok (.iload_n 2, 1) ∧ 42 + 1 = 43 := by decide +kernel
theorem D_M_feed_43 : decode prog_9_method_51_code 43 = .ok (.goto 4, 3) ∧ ((43 : Nat) : Int) + 4 = ((47 : Nat) : Int) := by decide +kernel
theorem D_M_feed_39 : decode prog_9_method_51_code 39 = .ok (.if_icmp .ge 7, 3) ∧ ((39 : Nat) : Int) + 7 = ((46 : Nat) : Int) ∧ 39 + 3 = 42 := by decide +kernel
theorem D_M_feed_31 : decode prog_9_method_51_code 31 = .ok (.iload_n 1, 1) ∧ 31 + 1 = 32 := by decide +kernel
theorem D_M_feed_32 : decode prog_9_method_51_code 32 = .ok (.goto 15, 3) ∧ ((32 : Nat) : Int) + 15 = ((47 : Nat) : Int) := by decide +kernel
theorem D_M_feed_28 : decode prog_9_method_51_code 28 = .ok (.if_icmp .ge 7, 3) ∧ ((28 : Nat) : Int) + 7 = ((35 : Nat) : Int) ∧ 28 + 3 = 31 := by decide +kernel
theorem D_M_feed_47 : decode prog_9_method_51_code 47 = .ok (.istore 5, 2) ∧ 47 + 2 = 49 := by decide +kernel
theorem D_M_feed_49 : decode prog_9_method_51_code 49 = .ok (.aload_n 0, 1) ∧ 49 + 1 = 50 := by decide +kernel
theorem D_M_feed_50 : decode prog_9_method_51_code 50 = .ok (.getfield 26, 3) ∧ 50 + 3 = 53 := by decide +kernel
theorem D_M_feed_53 : decode prog_9_method_51_code 53 = .ok (.aload_n 0, 1) ∧ 53 + 1 = 54 := by decide +kernel
theorem D_M_feed_54 : decode prog_9_method_51_code 54 = .ok (.getfield 177, 3) ∧ 54 + 3 = 57 := by decide +kernel
theorem D_M_feed_57 : decode prog_9_method_51_code 57 = .ok (.iload 4, 2) ∧ 57 + 2 = 59 := by decide +kernel
theorem D_M_feed_59 : decode prog_9_method_51_code 59 = .ok (.iadd, 1) ∧ 59 + 1 = 60 := by decide +kernel
theorem D_M_feed_60 : decode prog_9_method_51_code 60 = .ok (.iload 5, 2) ∧ 60 + 2 = 62 := by decide +kernel
theorem D_M_feed_62 : decode prog_9_method_51_code 62 = .ok (.bipush 24, 2) ∧ 62 + 2 = 64 := by decide +kernel
theorem D_M_feed_64 : decode prog_9_method_51_code 64 = .ok (.bipush 8, 2) ∧ 64 + 2 = 66 := by decide +kernel
theorem D_M_feed_66 : decode prog_9_method_51_code 66 = .ok (.iload 4, 2) ∧ 66 + 2 = 68 := by decide +kernel
theorem D_M_feed_68 : decode prog_9_method_51_code 68 = .ok (.iconst 4, 1) ∧ 68 + 1 = 69 := by decide +kernel
theorem D_M_feed_69 : decode prog_9_method_51_code 69 = .ok (.irem, 1) ∧ 69 + 1 = 70 := by decide +kernel
theorem D_M_feed_70 : decode prog_9_method_51_code 70 = .ok (.imul, 1) ∧ 70 + 1 = 71 := by decide +kernel
theorem D_M_feed_71 : decode prog_9_method_51_code 71 = .ok (.isub, 1) ∧ 71 + 1 = 72 := by decide +kernel
theorem D_M_feed_72 : decode prog_9_method_51_code 72 = .ok (.ishr, 1) ∧ 72 + 1 = 73 := by decide +kernel
theorem D_M_feed_73 : decode prog_9_method_51_code 73 = .ok (.sipush 255, 3) ∧ 73 + 3 = 76 := by decide +kernel
theorem D_M_feed_76 : decode prog_9_method_51_code 76 = .ok (.iand, 1) ∧ 76 + 1 = 77 := by decide +kernel
theorem D_M_feed_77 : decode prog_9_method_51_code 77 = .ok (.iastore, 1) ∧ 77 + 1 = 78 := by decide +kernel
theorem D_M_feed_78 : decode prog_9_method_51_code 78 = .ok (.iinc 4 1, 3) ∧ 78 + 3 = 81 := by decide +kernel
theorem D_M_feed_81 : decode prog_9_method_51_code 81 = .ok (.goto (-63), 3) ∧ ((81 : Nat) : Int) + (-63) = ((18 : Nat) : Int) := by decide +kernel
theorem D_M_feed_84 : decode prog_9_method_51_code 84 = .ok (.aload_n 0, 1) ∧ 84 + 1 = 85 := by decide +kernel
theorem D_M_feed_85 : decode prog_9_method_51_code 85 = .ok (.dup, 1) ∧ 85 + 1 = 86 := by decide +kernel
theorem D_M_feed_86 : decode prog_9_method_51_code 86 = .ok (.getfield 177, 3) ∧ 86 + 3 = 89 := by decide +kernel
theorem D_M_feed_89 : decode prog_9_method_51_code 89 = .ok (.bipush 12, 2) ∧ 89 + 2 = 91 := by decide +kernel
theorem D_M_feed_91 : decode prog_9_method_51_code 91 = .ok (.iadd, 1) ∧ 91 + 1 = 92 := by decide +kernel
theorem D_M_feed_92 : decode prog_9_method_51_code 92 = .ok (.putfield 177, 3) ∧ 92 + 3 = 95 := by decide +kernel
theorem D_M_feed_95 : decode prog_9_method_51_code 95 = .ok (.aload_n 0, 1) ∧ 95 + 1 = 96 := by decide +kernel
theorem D_M_feed_96 : decode prog_9_method_51_code 96 = .ok (.getfield 177, 3) ∧ 96 + 3 = 99 := by decide +kernel
theorem D_M_feed_99 : decode prog_9_method_51_code 99 = .ok (.ireturn, 1) := by decide +kernel
theorem D_M_feed_12 : decode prog_9_method_51_code 12 = .ok (.ldc 88, 2) ∧ 12 + 2 = 14 := by decide +kernel
theorem D_M_feed_14 : decode prog_9_method_51_code 14 = .ok (.ireturn, 1) := by decide +kernel
def f_M_feed_L18  : Nat → Int32 → Int32 → Int32 → Int32 → Mm → Option (Int32 × Mm)
  | 0, _, _, _, _, _ => none
  | n + 1, b1, b2, b3, b4, mem => if 12 ≤ b4 then some (b4, mem) else lt (if 4 ≤ b4 then if 8 ≤ b4 then b3 else b2 else b1) fun x_47 => if inb ((mem 91 7) + b4) 96 = true then lt (mst mem 96 (ix ((mem 91 7) + b4)) ((x_47 >>> ((24 - (8 * (b4 - b4 / 4 * 4))) &&& 31)) &&& 255)) fun m_77 => f_M_feed_L18 n b1 b2 b3 (b4 + 1) m_77 else none
def f_M_feed (N : Nat) (a1 : Int32) (a2 : Int32) (a3 : Int32) (mem : Mm) : Option (Int32 × Mm) := if (mem 91 7) + 12 ≤ 96 then bd (f_M_feed_L18 N a1 a2 a3 0 mem) fun y_18 m_18 => lt (mst m_18 91 7 ((m_18 91 7) + 12)) fun m_92 => some (m_92 91 7, m_92) else some ((-1000000003), mem)
theorem L_M_feed_18 {X : Cx} {E : En} (S : Std X E prog_9_method_51_code R6 6 0)  : ∀ (n : Nat) (b1 : Int32) (b2 : Int32) (b3 : Int32) (b4 : Int32) (mem : Mm) (z : Int32) (m2 : Mm), f_M_feed_L18 n b1 b2 b3 b4 mem = some (z, m2) → J X E 6 84 [(0, .ref (eb E + 91)), (1, .int b1), (2, .int b2), (3, .int b3), (4, .int z)] [] SH m2 → J X E 6 18 [(0, .ref (eb E + 91)), (1, .int b1), (2, .int b2), (3, .int b3), (4, .int b4)] [] SH mem := by
  intro n
  induction n with
  | zero =>
    intro b1 b2 b3 b4 mem z m2 h hk; cases h
  | succ n ih =>
    intro b1 b2 b3 b4 mem z m2 h hk
    rw [f_M_feed_L18] at h
    refine j_iload S D_M_feed_18 4 rfl ?_
    refine j_bipush S D_M_feed_20 cb_12 ?_
    refine j_icmp_ge S D_M_feed_22 (fun c_22 => ?_) (fun c_22 => ?_)
    · have h := ifT c_22 h
      cases h
      exact j_locals [0, 1, 2, 3, 4] rfl hk
    · have h := ifF c_22 h
      refine j_iload S D_M_feed_25 4 rfl ?_
      refine j_iconst S D_M_feed_27 ci_4 ?_
      refine j_dia (P := J X E 6 47 [(0, .ref (eb E + 91)), (1, .int b1), (2, .int b2), (3, .int b3), (4, .int b4)] [.int (if 4 ≤ b4 then if 8 ≤ b4 then b3 else b2 else b1)] SH mem) (fun hj => ?_) ?_
      · refine j_icmp_ge S D_M_feed_28 (fun c_28 => ?_) (fun c_28 => ?_)
        · refine j_iload S D_M_feed_35 4 rfl ?_
          refine j_bipush S D_M_feed_37 cb_8 ?_
          refine j_dia (P := J X E 6 47 [(0, .ref (eb E + 91)), (1, .int b1), (2, .int b2), (3, .int b3), (4, .int b4)] [.int (if 8 ≤ b4 then b3 else b2)] SH mem) (fun hj => ?_) ?_
          · refine j_icmp_ge S D_M_feed_39 (fun c_39 => ?_) (fun c_39 => ?_)
            · refine j_iload_n S D_M_feed_46 3 rfl rfl ?_
              exact j_jnT hj c_39
            · refine j_iload_n S D_M_feed_42 2 rfl rfl ?_
              refine j_goto S D_M_feed_43 ?_
              exact j_jnF hj c_39
          exact j_jnT hj c_28
        · refine j_iload_n S D_M_feed_31 1 rfl rfl ?_
          refine j_goto S D_M_feed_32 ?_
          exact j_jnF hj c_28
      obtain ⟨x_47, hx_47, h⟩ := ltE h
      refine j_nm hx_47 ?_
      refine j_istore S D_M_feed_47 (lv := [(5, .int x_47), (0, .ref (eb E + 91)), (1, .int b1), (2, .int b2), (3, .int b3), (4, .int b4)]) rfl (Nat.le_of_ble_eq_true rfl) ?_
      refine j_aload_n S D_M_feed_49 1 rfl rfl ?_
      refine j_getR S D_M_feed_50 fl_R6_26 sh_Mod rfl ?_
      refine j_aload_n S D_M_feed_53 1 rfl rfl ?_
      refine j_getI S D_M_feed_54 fl_R6_177 sh_Mod rfl ?_
      refine j_iload S D_M_feed_57 5 rfl ?_
      refine j_iadd S D_M_feed_59 ?_
      refine j_iload S D_M_feed_60 0 rfl ?_
      refine j_bipush S D_M_feed_62 cb_24 ?_
      refine j_bipush S D_M_feed_64 cb_8 ?_
      refine j_iload S D_M_feed_66 5 rfl ?_
      refine j_iconst S D_M_feed_68 ci_4 ?_
      refine j_irem S D_M_feed_69 nz_4 ?_
      refine j_imul S D_M_feed_70 ?_
      refine j_isub S D_M_feed_71 ?_
      refine j_ishr S D_M_feed_72 ?_
      refine j_sipush S D_M_feed_73 cs_255 ?_
      refine j_iand S D_M_feed_76 ?_
      obtain ⟨g_77, h⟩ := gdE h
      obtain ⟨m_77, hm_77, h⟩ := ltE h
      refine j_iast S D_M_feed_77 sh_96 g_77 ?_
      refine j_mem hm_77 ?_
      refine j_iinc S D_M_feed_78 5 rfl (congrArg (fun z => b4 + z) ci_1) (lv := [(4, .int (b4 + 1)), (5, .int x_47), (0, .ref (eb E + 91)), (1, .int b1), (2, .int b2), (3, .int b3)]) rfl (Nat.le_of_ble_eq_true rfl) ?_
      refine j_goto S D_M_feed_81 ?_
      refine j_locals [2, 3, 4, 5, 0] rfl (ih b1 b2 b3 (b4 + 1) m_77 _ _ h hk)
theorem c_M_feed (l : Launch) (E : En) (N : Nat) (a1 : Int32) (a2 : Int32) (a3 : Int32) {mem : Mm} {r : Int32} {m2 : Mm} (h : f_M_feed N a1 a2 a3 mem = some (r, m2)) : CtI l E 0 y_M_feed prog_9_method_51_code 6 (some .int) [.ref (eb E + 91), .int a1, .int a2, .int a3] SH mem r m2 := by
  refine mk_CtI ⟨by decide, (Nat.le_of_ble_eq_true rfl)⟩ (fun X S hl hR => ?_)
  have S : Std X E prog_9_method_51_code R6 6 0 := S
  show J X E 6 0 [(0, .ref (eb E + 91)), (1, .int a1), (2, .int a2), (3, .int a3)] [] SH mem
  unfold f_M_feed at h
  refine j_aload_n S D_M_feed_0 0 rfl rfl ?_
  refine j_getI S D_M_feed_1 fl_R6_177 sh_Mod rfl ?_
  refine j_bipush S D_M_feed_4 cb_12 ?_
  refine j_iadd S D_M_feed_6 ?_
  refine j_bipush S D_M_feed_7 cb_96 ?_
  refine j_icmp_le S D_M_feed_9 (fun c_9 => ?_) (fun c_9 => ?_)
  · have h := ifT c_9 h
    refine j_iconst S D_M_feed_15 ci_0 ?_
    refine j_istore S D_M_feed_16 (lv := [(4, .int 0), (0, .ref (eb E + 91)), (1, .int a1), (2, .int a2), (3, .int a3)]) rfl (Nat.le_of_ble_eq_true rfl) ?_
    refine j_locals [1, 2, 3, 4, 0] rfl ?_
    obtain ⟨y_18, m_18, e_18, h⟩ := bdE h
    refine L_M_feed_18 S  N a1 a2 a3 0 mem _ _ e_18 ?_
    refine j_aload_n S D_M_feed_84 0 rfl rfl ?_
    refine j_dup S D_M_feed_85 rfl ?_
    refine j_getI S D_M_feed_86 fl_R6_177 sh_Mod rfl ?_
    refine j_bipush S D_M_feed_89 cb_12 ?_
    refine j_iadd S D_M_feed_91 ?_
    obtain ⟨m_92, hm_92, h⟩ := ltE h
    refine j_putI S D_M_feed_92 fp_R6_177 sh_Mod rfl ?_
    refine j_mem hm_92 ?_
    refine j_aload_n S D_M_feed_95 0 rfl rfl ?_
    refine j_getI S D_M_feed_96 fl_R6_177 sh_Mod rfl ?_
    exact rtM hR h _ _ D_M_feed_99
  · have h := ifF c_9 h
    refine j_ldc S D_M_feed_12 co_R6_88 ?_
    exact rtM hR h _ _ D_M_feed_14

def y_M_trim : MethodName := ⟨"SandPictureModel", "trim", "(I)I"⟩
theorem D_M_trim_0 : decode prog_9_method_52_code 0 = .ok (.iload_n 1, 1) ∧ 0 + 1 = 1 := by decide +kernel
theorem D_M_trim_1 : decode prog_9_method_52_code 1 = .ok (.iconst 0, 1) ∧ 1 + 1 = 2 := by decide +kernel
theorem D_M_trim_2 : decode prog_9_method_52_code 2 = .ok (.aload_n 0, 1) ∧ 2 + 1 = 3 := by decide +kernel
theorem D_M_trim_3 : decode prog_9_method_52_code 3 = .ok (.getfield 177, 3) ∧ 3 + 3 = 6 := by decide +kernel
theorem D_M_trim_6 : decode prog_9_method_52_code 6 = .ok (.invokestatic 79, 3) ∧ 6 + 3 = 9 := by decide +kernel
theorem D_M_trim_9 : decode prog_9_method_52_code 9 = .ok (.ifCond .ne 6, 3) ∧ ((9 : Nat) : Int) + 6 = ((15 : Nat) : Int) ∧ 9 + 3 = 12 := by decide +kernel
theorem D_M_trim_15 : decode prog_9_method_52_code 15 = .ok (.aload_n 0, 1) ∧ 15 + 1 = 16 := by decide +kernel
theorem D_M_trim_16 : decode prog_9_method_52_code 16 = .ok (.iload_n 1, 1) ∧ 16 + 1 = 17 := by decide +kernel
theorem D_M_trim_17 : decode prog_9_method_52_code 17 = .ok (.putfield 177, 3) ∧ 17 + 3 = 20 := by decide +kernel
theorem D_M_trim_20 : decode prog_9_method_52_code 20 = .ok (.iload_n 1, 1) ∧ 20 + 1 = 21 := by decide +kernel
theorem D_M_trim_21 : decode prog_9_method_52_code 21 = .ok (.ireturn, 1) := by decide +kernel
theorem D_M_trim_12 : decode prog_9_method_52_code 12 = .ok (.ldc 87, 2) ∧ 12 + 2 = 14 := by decide +kernel
theorem D_M_trim_14 : decode prog_9_method_52_code 14 = .ok (.ireturn, 1) := by decide +kernel
def f_M_trim (a1 : Int32) (mem : Mm) : Option (Int32 × Mm) := bp (f_M_in a1 0 (mem 91 7)) fun r_6 => if r_6 = 0 then some ((-1000000001), mem) else lt (mst mem 91 7 a1) fun m_17 => some (a1, m_17)
theorem c_M_trim (l : Launch) (E : En) (a1 : Int32) {mem : Mm} {r : Int32} {m2 : Mm} (h : f_M_trim a1 mem = some (r, m2)) : CtI l E 1 y_M_trim prog_9_method_52_code 2 (some .int) [.ref (eb E + 91), .int a1] SH mem r m2 := by
  refine mk_CtI ⟨by decide, (Nat.le_of_ble_eq_true rfl)⟩ (fun X S hl hR => ?_)
  have S : Std X E prog_9_method_52_code R6 2 1 := S
  show J X E 2 0 [(0, .ref (eb E + 91)), (1, .int a1)] [] SH mem
  unfold f_M_trim at h
  refine j_iload_n S D_M_trim_0 1 rfl rfl ?_
  refine j_iconst S D_M_trim_1 ci_0 ?_
  refine j_aload_n S D_M_trim_2 0 rfl rfl ?_
  refine j_getI S D_M_trim_3 fl_R6_177 sh_Mod rfl ?_
  obtain ⟨r_6, e_6, h⟩ := bpE h
  refine j_callSI (As := [.int a1, .int 0, .int (mem 91 7)]) S D_M_trim_6 ms_R6_79 (c_M_in (cxL X) E a1 0 (mem 91 7) (mem := mem) e_6) (by decide) rfl rfl (Nat.le_of_ble_eq_true rfl) ?_
  refine j_if_ne S D_M_trim_9 (fun c_9 => ?_) (fun c_9 => ?_)
  · have h := ifF c_9 h
    refine j_aload_n S D_M_trim_15 0 rfl rfl ?_
    refine j_iload_n S D_M_trim_16 1 rfl rfl ?_
    obtain ⟨m_17, hm_17, h⟩ := ltE h
    refine j_putI S D_M_trim_17 fp_R6_177 sh_Mod rfl ?_
    refine j_mem hm_17 ?_
    refine j_iload_n S D_M_trim_20 1 rfl rfl ?_
    exact rtM hR h _ _ D_M_trim_21
  · have h := ifT c_9 h
    refine j_ldc S D_M_trim_12 co_R6_87 ?_
    exact rtM hR h _ _ D_M_trim_14

def y_M_isLetter : MethodName := ⟨"SandPictureModel", "isLetter", "(I)Z"⟩
theorem D_M_isLetter_0 : decode prog_9_method_53_code 0 = .ok (.iload_n 1, 1) ∧ 0 + 1 = 1 := by decide +kernel
theorem D_M_isLetter_1 : decode prog_9_method_53_code 1 = .ok (.aload_n 0, 1) ∧ 1 + 1 = 2 := by decide +kernel
theorem D_M_isLetter_2 : decode prog_9_method_53_code 2 = .ok (.getfield 177, 3) ∧ 2 + 3 = 5 := by decide +kernel
theorem D_M_isLetter_5 : decode prog_9_method_53_code 5 = .ok (.if_icmp .ge 29, 3) ∧ ((5 : Nat) : Int) + 29 = ((34 : Nat) : Int) ∧ 5 + 3 = 8 := by decide +kernel
theorem D_M_isLetter_34 : decode prog_9_method_53_code 34 = .ok (.iconst 0, 1) ∧ 34 + 1 = 35 := by decide +kernel
theorem D_M_isLetter_35 : decode prog_9_method_53_code 35 = .ok (.ireturn, 1) := by decide +kernel
theorem D_M_isLetter_8 : decode prog_9_method_53_code 8 = .ok (.aload_n 0, 1) ∧ 8 + 1 = 9 := by decide +kernel
theorem D_M_isLetter_9 : decode prog_9_method_53_code 9 = .ok (.getfield 26, 3) ∧ 9 + 3 = 12 := by decide +kernel
theorem D_M_isLetter_12 : decode prog_9_method_53_code 12 = .ok (.iload_n 1, 1) ∧ 12 + 1 = 13 := by decide +kernel
theorem D_M_isLetter_13 : decode prog_9_method_53_code 13 = .ok (.iaload, 1) ∧ 13 + 1 = 14 := by decide +kernel
theorem D_M_isLetter_14 : decode prog_9_method_53_code 14 = .ok (.bipush 97, 2) ∧ 14 + 2 = 16 := by decide +kernel
theorem D_M_isLetter_19 : decode prog_9_method_53_code 19 = .ok (.aload_n 0, 1) ∧ 19 + 1 = 20 := by decide +kernel
theorem D_M_isLetter_20 : decode prog_9_method_53_code 20 = .ok (.getfield 26, 3) ∧ 20 + 3 = 23 := by decide +kernel
theorem D_M_isLetter_23 : decode prog_9_method_53_code 23 = .ok (.iload_n 1, 1) ∧ 23 + 1 = 24 := by decide +kernel
theorem D_M_isLetter_24 : decode prog_9_method_53_code 24 = .ok (.iaload, 1) ∧ 24 + 1 = 25 := by decide +kernel
theorem D_M_isLetter_25 : decode prog_9_method_53_code 25 = .ok (.bipush 122, 2) ∧ 25 + 2 = 27 := by decide +kernel
theorem D_M_isLetter_30 : decode prog_9_method_53_code 30 = .ok (.iconst 1, 1) ∧ 30 + 1 = 31 := by decide +kernel
theorem D_M_isLetter_31 : decode prog_9_method_53_code 31 = .ok (.goto 4, 3) ∧ ((31 : Nat) : Int) + 4 = ((35 : Nat) : Int) := by decide +kernel
theorem D_M_isLetter_27 : decode prog_9_method_53_code 27 = .ok (.if_icmp .gt 7, 3) ∧ ((27 : Nat) : Int) + 7 = ((34 : Nat) : Int) ∧ 27 + 3 = 30 := by decide +kernel
theorem D_M_isLetter_16 : decode prog_9_method_53_code 16 = .ok (.if_icmp .lt 18, 3) ∧ ((16 : Nat) : Int) + 18 = ((34 : Nat) : Int) ∧ 16 + 3 = 19 := by decide +kernel
def f_M_isLetter (a1 : Int32) (mem : Mm) : Option (Int32) := if mem 91 7 ≤ a1 then some 0 else if inb a1 96 = true then some (if mem 96 (ix a1) < 97 then (0 : Int32) else if 122 < mem 96 (ix a1) then (0 : Int32) else 1) else none
theorem c_M_isLetter (l : Launch) (E : En) (a1 : Int32) {mem : Mm} {r : Int32} (h : f_M_isLetter a1 mem = some r) : CtI l E 0 y_M_isLetter prog_9_method_53_code 2 (some .boolean) [.ref (eb E + 91), .int a1] SH mem r mem := by
  refine mk_CtZ ⟨by decide, (Nat.le_of_ble_eq_true rfl)⟩ (fun X S hl hR => ?_)
  have S : Std X E prog_9_method_53_code R6 2 0 := S
  show J X E 2 0 [(0, .ref (eb E + 91)), (1, .int a1)] [] SH mem
  unfold f_M_isLetter at h
  refine j_iload_n S D_M_isLetter_0 1 rfl rfl ?_
  refine j_aload_n S D_M_isLetter_1 0 rfl rfl ?_
  refine j_getI S D_M_isLetter_2 fl_R6_177 sh_Mod rfl ?_
  refine j_icmp_ge S D_M_isLetter_5 (fun c_5 => ?_) (fun c_5 => ?_)
  · have h := ifT c_5 h
    refine j_iconst S D_M_isLetter_34 ci_0 ?_
    exact rtIZ hR h isb0 _ _ D_M_isLetter_35
  · have h := ifF c_5 h
    refine j_aload_n S D_M_isLetter_8 0 rfl rfl ?_
    refine j_getR S D_M_isLetter_9 fl_R6_26 sh_Mod rfl ?_
    refine j_iload_n S D_M_isLetter_12 1 rfl rfl ?_
    obtain ⟨g_13, h⟩ := gdE h
    refine j_iald S D_M_isLetter_13 sh_96 g_13 ?_
    refine j_bipush S D_M_isLetter_14 cb_97 ?_
    refine j_dia (P := J X E 2 35 [(0, .ref (eb E + 91)), (1, .int a1)] [.int (if mem 96 (ix a1) < 97 then (0 : Int32) else if 122 < mem 96 (ix a1) then (0 : Int32) else 1)] SH mem) (fun hj => ?_) ?_
    · refine j_icmp_lt S D_M_isLetter_16 (fun c_16 => ?_) (fun c_16 => ?_)
      · refine j_iconst S D_M_isLetter_34 ci_0 ?_
        exact j_jnT hj c_16
      · refine j_aload_n S D_M_isLetter_19 0 rfl rfl ?_
        refine j_getR S D_M_isLetter_20 fl_R6_26 sh_Mod rfl ?_
        refine j_iload_n S D_M_isLetter_23 1 rfl rfl ?_
        refine j_iald S D_M_isLetter_24 sh_96 g_13 ?_
        refine j_bipush S D_M_isLetter_25 cb_122 ?_
        refine j_dia (P := J X E 2 35 [(0, .ref (eb E + 91)), (1, .int a1)] [.int (if 122 < mem 96 (ix a1) then (0 : Int32) else 1)] SH mem) (fun hj => ?_) ?_
        · refine j_icmp_gt S D_M_isLetter_27 (fun c_27 => ?_) (fun c_27 => ?_)
          · refine j_iconst S D_M_isLetter_34 ci_0 ?_
            exact j_jnT hj c_27
          · refine j_iconst S D_M_isLetter_30 ci_1 ?_
            refine j_goto S D_M_isLetter_31 ?_
            exact j_jnF hj c_27
        exact j_jnF hj c_16
    exact rtIZ hR h (isb_ite isb0 (isb_ite isb0 isb1)) _ _ D_M_isLetter_35

def y_M_isFigure : MethodName := ⟨"SandPictureModel", "isFigure", "(I)Z"⟩
theorem D_M_isFigure_0 : decode prog_9_method_54_code 0 = .ok (.iload_n 1, 1) ∧ 0 + 1 = 1 := by decide +kernel
theorem D_M_isFigure_1 : decode prog_9_method_54_code 1 = .ok (.aload_n 0, 1) ∧ 1 + 1 = 2 := by decide +kernel
theorem D_M_isFigure_2 : decode prog_9_method_54_code 2 = .ok (.getfield 177, 3) ∧ 2 + 3 = 5 := by decide +kernel
theorem D_M_isFigure_5 : decode prog_9_method_54_code 5 = .ok (.if_icmp .ge 29, 3) ∧ ((5 : Nat) : Int) + 29 = ((34 : Nat) : Int) ∧ 5 + 3 = 8 := by decide +kernel
theorem D_M_isFigure_34 : decode prog_9_method_54_code 34 = .ok (.iconst 0, 1) ∧ 34 + 1 = 35 := by decide +kernel
theorem D_M_isFigure_35 : decode prog_9_method_54_code 35 = .ok (.ireturn, 1) := by decide +kernel
theorem D_M_isFigure_8 : decode prog_9_method_54_code 8 = .ok (.aload_n 0, 1) ∧ 8 + 1 = 9 := by decide +kernel
theorem D_M_isFigure_9 : decode prog_9_method_54_code 9 = .ok (.getfield 26, 3) ∧ 9 + 3 = 12 := by decide +kernel
theorem D_M_isFigure_12 : decode prog_9_method_54_code 12 = .ok (.iload_n 1, 1) ∧ 12 + 1 = 13 := by decide +kernel
theorem D_M_isFigure_13 : decode prog_9_method_54_code 13 = .ok (.iaload, 1) ∧ 13 + 1 = 14 := by decide +kernel
theorem D_M_isFigure_14 : decode prog_9_method_54_code 14 = .ok (.bipush 48, 2) ∧ 14 + 2 = 16 := by decide +kernel
theorem D_M_isFigure_19 : decode prog_9_method_54_code 19 = .ok (.aload_n 0, 1) ∧ 19 + 1 = 20 := by decide +kernel
theorem D_M_isFigure_20 : decode prog_9_method_54_code 20 = .ok (.getfield 26, 3) ∧ 20 + 3 = 23 := by decide +kernel
theorem D_M_isFigure_23 : decode prog_9_method_54_code 23 = .ok (.iload_n 1, 1) ∧ 23 + 1 = 24 := by decide +kernel
theorem D_M_isFigure_24 : decode prog_9_method_54_code 24 = .ok (.iaload, 1) ∧ 24 + 1 = 25 := by decide +kernel
theorem D_M_isFigure_25 : decode prog_9_method_54_code 25 = .ok (.bipush 57, 2) ∧ 25 + 2 = 27 := by decide +kernel
theorem D_M_isFigure_30 : decode prog_9_method_54_code 30 = .ok (.iconst 1, 1) ∧ 30 + 1 = 31 := by decide +kernel
theorem D_M_isFigure_31 : decode prog_9_method_54_code 31 = .ok (.goto 4, 3) ∧ ((31 : Nat) : Int) + 4 = ((35 : Nat) : Int) := by decide +kernel
theorem D_M_isFigure_27 : decode prog_9_method_54_code 27 = .ok (.if_icmp .gt 7, 3) ∧ ((27 : Nat) : Int) + 7 = ((34 : Nat) : Int) ∧ 27 + 3 = 30 := by decide +kernel
theorem D_M_isFigure_16 : decode prog_9_method_54_code 16 = .ok (.if_icmp .lt 18, 3) ∧ ((16 : Nat) : Int) + 18 = ((34 : Nat) : Int) ∧ 16 + 3 = 19 := by decide +kernel
def f_M_isFigure (a1 : Int32) (mem : Mm) : Option (Int32) := if mem 91 7 ≤ a1 then some 0 else if inb a1 96 = true then some (if mem 96 (ix a1) < 48 then (0 : Int32) else if 57 < mem 96 (ix a1) then (0 : Int32) else 1) else none
theorem c_M_isFigure (l : Launch) (E : En) (a1 : Int32) {mem : Mm} {r : Int32} (h : f_M_isFigure a1 mem = some r) : CtI l E 0 y_M_isFigure prog_9_method_54_code 2 (some .boolean) [.ref (eb E + 91), .int a1] SH mem r mem := by
  refine mk_CtZ ⟨by decide, (Nat.le_of_ble_eq_true rfl)⟩ (fun X S hl hR => ?_)
  have S : Std X E prog_9_method_54_code R6 2 0 := S
  show J X E 2 0 [(0, .ref (eb E + 91)), (1, .int a1)] [] SH mem
  unfold f_M_isFigure at h
  refine j_iload_n S D_M_isFigure_0 1 rfl rfl ?_
  refine j_aload_n S D_M_isFigure_1 0 rfl rfl ?_
  refine j_getI S D_M_isFigure_2 fl_R6_177 sh_Mod rfl ?_
  refine j_icmp_ge S D_M_isFigure_5 (fun c_5 => ?_) (fun c_5 => ?_)
  · have h := ifT c_5 h
    refine j_iconst S D_M_isFigure_34 ci_0 ?_
    exact rtIZ hR h isb0 _ _ D_M_isFigure_35
  · have h := ifF c_5 h
    refine j_aload_n S D_M_isFigure_8 0 rfl rfl ?_
    refine j_getR S D_M_isFigure_9 fl_R6_26 sh_Mod rfl ?_
    refine j_iload_n S D_M_isFigure_12 1 rfl rfl ?_
    obtain ⟨g_13, h⟩ := gdE h
    refine j_iald S D_M_isFigure_13 sh_96 g_13 ?_
    refine j_bipush S D_M_isFigure_14 cb_48 ?_
    refine j_dia (P := J X E 2 35 [(0, .ref (eb E + 91)), (1, .int a1)] [.int (if mem 96 (ix a1) < 48 then (0 : Int32) else if 57 < mem 96 (ix a1) then (0 : Int32) else 1)] SH mem) (fun hj => ?_) ?_
    · refine j_icmp_lt S D_M_isFigure_16 (fun c_16 => ?_) (fun c_16 => ?_)
      · refine j_iconst S D_M_isFigure_34 ci_0 ?_
        exact j_jnT hj c_16
      · refine j_aload_n S D_M_isFigure_19 0 rfl rfl ?_
        refine j_getR S D_M_isFigure_20 fl_R6_26 sh_Mod rfl ?_
        refine j_iload_n S D_M_isFigure_23 1 rfl rfl ?_
        refine j_iald S D_M_isFigure_24 sh_96 g_13 ?_
        refine j_bipush S D_M_isFigure_25 cb_57 ?_
        refine j_dia (P := J X E 2 35 [(0, .ref (eb E + 91)), (1, .int a1)] [.int (if 57 < mem 96 (ix a1) then (0 : Int32) else 1)] SH mem) (fun hj => ?_) ?_
        · refine j_icmp_gt S D_M_isFigure_27 (fun c_27 => ?_) (fun c_27 => ?_)
          · refine j_iconst S D_M_isFigure_34 ci_0 ?_
            exact j_jnT hj c_27
          · refine j_iconst S D_M_isFigure_30 ci_1 ?_
            refine j_goto S D_M_isFigure_31 ?_
            exact j_jnF hj c_27
        exact j_jnF hj c_16
    exact rtIZ hR h (isb_ite isb0 (isb_ite isb0 isb1)) _ _ D_M_isFigure_35

def y_M_go : MethodName := ⟨"SandPictureModel", "go", "()V"⟩
theorem D_M_go_0 : decode prog_9_method_55_code 0 = .ok (.aload_n 0, 1) ∧ 0 + 1 = 1 := by decide +kernel
theorem D_M_go_1 : decode prog_9_method_55_code 1 = .ok (.getfield 180, 3) ∧ 1 + 3 = 4 := by decide +kernel
theorem D_M_go_4 : decode prog_9_method_55_code 4 = .ok (.aload_n 0, 1) ∧ 4 + 1 = 5 := by decide +kernel
theorem D_M_go_5 : decode prog_9_method_55_code 5 = .ok (.getfield 177, 3) ∧ 5 + 3 = 8 := by decide +kernel
theorem D_M_go_8 : decode prog_9_method_55_code 8 = .ok (.if_icmp .ge 30, 3) ∧ ((8 : Nat) : Int) + 30 = ((38 : Nat) : Int) ∧ 8 + 3 = 11 := by decide +kernel
theorem D_M_go_11 : decode prog_9_method_55_code 11 = .ok (.aload_n 0, 1) ∧ 11 + 1 = 12 := by decide +kernel
theorem D_M_go_12 : decode prog_9_method_55_code 12 = .ok (.getfield 26, 3) ∧ 12 + 3 = 15 := by decide +kernel
theorem D_M_go_15 : decode prog_9_method_55_code 15 = .ok (.aload_n 0, 1) ∧ 15 + 1 = 16 := by decide +kernel
theorem D_M_go_16 : decode prog_9_method_55_code 16 = .ok (.getfield 180, 3) ∧ 16 + 3 = 19 := by decide +kernel
theorem D_M_go_19 : decode prog_9_method_55_code 19 = .ok (.iaload, 1) ∧ 19 + 1 = 20 := by decide +kernel
theorem D_M_go_20 : decode prog_9_method_55_code 20 = .ok (.bipush 32, 2) ∧ 20 + 2 = 22 := by decide +kernel
theorem D_M_go_22 : decode prog_9_method_55_code 22 = .ok (.if_icmp .ne 16, 3) ∧ ((22 : Nat) : Int) + 16 = ((38 : Nat) : Int) ∧ 22 + 3 = 25 := by decide +kernel
theorem D_M_go_25 : decode prog_9_method_55_code 25 = .ok (.aload_n 0, 1) ∧ 25 + 1 = 26 := by decide +kernel
theorem D_M_go_26 : decode prog_9_method_55_code 26 = .ok (.dup, 1) ∧ 26 + 1 = 27 := by decide +kernel
theorem D_M_go_27 : decode prog_9_method_55_code 27 = .ok (.getfield 180, 3) ∧ 27 + 3 = 30 := by decide +kernel
theorem D_M_go_30 : decode prog_9_method_55_code 30 = .ok (.iconst 1, 1) ∧ 30 + 1 = 31 := by decide +kernel
theorem D_M_go_31 : decode prog_9_method_55_code 31 = .ok (.iadd, 1) ∧ 31 + 1 = 32 := by decide +kernel
theorem D_M_go_32 : decode prog_9_method_55_code 32 = .ok (.putfield 180, 3) ∧ 32 + 3 = 35 := by decide +kernel
theorem D_M_go_35 : decode prog_9_method_55_code 35 = .ok (.goto (-35), 3) ∧ ((35 : Nat) : Int) + (-35) = ((0 : Nat) : Int) := by decide +kernel
theorem D_M_go_38 : decode prog_9_method_55_code 38 = .ok (.aload_n 0, 1) ∧ 38 + 1 = 39 := by decide +kernel
theorem D_M_go_39 : decode prog_9_method_55_code 39 = .ok (.aload_n 0, 1) ∧ 39 + 1 = 40 := by decide +kernel
theorem D_M_go_40 : decode prog_9_method_55_code 40 = .ok (.getfield 180, 3) ∧ 40 + 3 = 43 := by decide +kernel
theorem D_M_go_43 : decode prog_9_method_55_code 43 = .ok (.putfield 183, 3) ∧ 43 + 3 = 46 := by decide +kernel
theorem D_M_go_46 : decode prog_9_method_55_code 46 = .ok (.aload_n 0, 1) ∧ 46 + 1 = 47 := by decide +kernel
theorem D_M_go_47 : decode prog_9_method_55_code 47 = .ok (.getfield 183, 3) ∧ 47 + 3 = 50 := by decide +kernel
theorem D_M_go_50 : decode prog_9_method_55_code 50 = .ok (.aload_n 0, 1) ∧ 50 + 1 = 51 := by decide +kernel
theorem D_M_go_51 : decode prog_9_method_55_code 51 = .ok (.getfield 186, 3) ∧ 51 + 3 = 54 := by decide +kernel
theorem D_M_go_61 : decode prog_9_method_55_code 61 = .ok (.iconst 0, 1) ∧ 61 + 1 = 62 := by decide +kernel
theorem D_M_go_57 : decode prog_9_method_55_code 57 = .ok (.iconst 1, 1) ∧ 57 + 1 = 58 := by decide +kernel
theorem D_M_go_58 : decode prog_9_method_55_code 58 = .ok (.goto 4, 3) ∧ ((58 : Nat) : Int) + 4 = ((62 : Nat) : Int) := by decide +kernel
theorem D_M_go_54 : decode prog_9_method_55_code 54 = .ok (.if_icmp .ne 7, 3) ∧ ((54 : Nat) : Int) + 7 = ((61 : Nat) : Int) ∧ 54 + 3 = 57 := by decide +kernel
theorem D_M_go_62 : decode prog_9_method_55_code 62 = .ok (.istore_n 1, 1) ∧ 62 + 1 = 63 := by decide +kernel
theorem D_M_go_63 : decode prog_9_method_55_code 63 = .ok (.aload_n 0, 1) ∧ 63 + 1 = 64 := by decide +kernel
theorem D_M_go_64 : decode prog_9_method_55_code 64 = .ok (.getfield 183, 3) ∧ 64 + 3 = 67 := by decide +kernel
theorem D_M_go_67 : decode prog_9_method_55_code 67 = .ok (.aload_n 0, 1) ∧ 67 + 1 = 68 := by decide +kernel
theorem D_M_go_68 : decode prog_9_method_55_code 68 = .ok (.getfield 177, 3) ∧ 68 + 3 = 71 := by decide +kernel
theorem D_M_go_71 : decode prog_9_method_55_code 71 = .ok (.if_icmp .ne 11, 3) ∧ ((71 : Nat) : Int) + 11 = ((82 : Nat) : Int) ∧ 71 + 3 = 74 := by decide +kernel
theorem D_M_go_82 : decode prog_9_method_55_code 82 = .ok (.aload_n 0, 1) ∧ 82 + 1 = 83 := by decide +kernel
theorem D_M_go_83 : decode prog_9_method_55_code 83 = .ok (.aload_n 0, 1) ∧ 83 + 1 = 84 := by decide +kernel
theorem D_M_go_84 : decode prog_9_method_55_code 84 = .ok (.getfield 183, 3) ∧ 84 + 3 = 87 := by decide +kernel
theorem D_M_go_87 : decode prog_9_method_55_code 87 = .ok (.invokevirtual 192, 3) ∧ 87 + 3 = 90 := by decide +kernel
theorem D_M_go_90 : decode prog_9_method_55_code 90 = .ok (.ifCond .eq 64, 3) ∧ ((90 : Nat) : Int) + 64 = ((154 : Nat) : Int) ∧ 90 + 3 = 93 := by decide +kernel
theorem D_M_go_154 : decode prog_9_method_55_code 154 = .ok (.aload_n 0, 1) ∧ 154 + 1 = 155 := by decide +kernel
theorem D_M_go_155 : decode prog_9_method_55_code 155 = .ok (.aload_n 0, 1) ∧ 155 + 1 = 156 := by decide +kernel
theorem D_M_go_156 : decode prog_9_method_55_code 156 = .ok (.getfield 183, 3) ∧ 156 + 3 = 159 := by decide +kernel
theorem D_M_go_159 : decode prog_9_method_55_code 159 = .ok (.invokevirtual 198, 3) ∧ 159 + 3 = 162 := by decide +kernel
theorem D_M_go_162 : decode prog_9_method_55_code 162 = .ok (.ifCond .eq 113, 3) ∧ ((162 : Nat) : Int) + 113 = ((275 : Nat) : Int) ∧ 162 + 3 = 165 := by decide +kernel
theorem D_M_go_275 : decode prog_9_method_55_code 275 = .ok (.aload_n 0, 1) ∧ 275 + 1 = 276 := by decide +kernel
theorem D_M_go_276 : decode prog_9_method_55_code 276 = .ok (.iconst 3, 1) ∧ 276 + 1 = 277 := by decide +kernel
theorem D_M_go_277 : decode prog_9_method_55_code 277 = .ok (.putfield 189, 3) ∧ 277 + 3 = 280 := by decide +kernel
theorem D_M_go_280 : decode prog_9_method_55_code 280 = .ok (.aload_n 0, 1) ∧ 280 + 1 = 281 := by decide +kernel
theorem D_M_go_281 : decode prog_9_method_55_code 281 = .ok (.aload_n 0, 1) ∧ 281 + 1 = 282 := by decide +kernel
theorem D_M_go_282 : decode prog_9_method_55_code 282 = .ok (.getfield 26, 3) ∧ 282 + 3 = 285 := by decide +kernel
theorem D_M_go_285 : decode prog_9_method_55_code 285 = .ok (.aload_n 0, 1) ∧ 285 + 1 = 286 := by decide +kernel
theorem D_M_go_286 : decode prog_9_method_55_code 286 = .ok (.getfield 183, 3) ∧ 286 + 3 = 289 := by decide +kernel
theorem D_M_go_289 : decode prog_9_method_55_code 289 = .ok (.iaload, 1) ∧ 289 + 1 = 290 := by decide +kernel
theorem D_M_go_290 : decode prog_9_method_55_code 290 = .ok (.putfield 195, 3) ∧ 290 + 3 = 293 := by decide +kernel
theorem D_M_go_293 : decode prog_9_method_55_code 293 = .ok (.aload_n 0, 1) ∧ 293 + 1 = 294 := by decide +kernel
theorem D_M_go_294 : decode prog_9_method_55_code 294 = .ok (.dup, 1) ∧ 294 + 1 = 295 := by decide +kernel
theorem D_M_go_295 : decode prog_9_method_55_code 295 = .ok (.getfield 180, 3) ∧ 295 + 3 = 298 := by decide +kernel
theorem D_M_go_298 : decode prog_9_method_55_code 298 = .ok (.iconst 1, 1) ∧ 298 + 1 = 299 := by decide +kernel
theorem D_M_go_299 : decode prog_9_method_55_code 299 = .ok (.iadd, 1) ∧ 299 + 1 = 300 := by decide +kernel
theorem D_M_go_300 : decode prog_9_method_55_code 300 = .ok (.putfield 180, 3) ∧ 300 + 3 = 303 := by decide +kernel
theorem D_M_go_303 : decode prog_9_method_55_code 303 = .ok (.return_, 1) := by decide +kernel
theorem D_M_go_165 : decode prog_9_method_55_code 165 = .ok (.aload_n 0, 1) ∧ 165 + 1 = 166 := by decide +kernel
theorem D_M_go_166 : decode prog_9_method_55_code 166 = .ok (.iconst 0, 1) ∧ 166 + 1 = 167 := by decide +kernel
theorem D_M_go_167 : decode prog_9_method_55_code 167 = .ok (.putfield 195, 3) ∧ 167 + 3 = 170 := by decide +kernel
theorem D_M_go_170 : decode prog_9_method_55_code 170 = .ok (.aload_n 0, 1) ∧ 170 + 1 = 171 := by decide +kernel
theorem D_M_go_171 : decode prog_9_method_55_code 171 = .ok (.aload_n 0, 1) ∧ 171 + 1 = 172 := by decide +kernel
theorem D_M_go_172 : decode prog_9_method_55_code 172 = .ok (.getfield 180, 3) ∧ 172 + 3 = 175 := by decide +kernel
theorem D_M_go_175 : decode prog_9_method_55_code 175 = .ok (.invokevirtual 198, 3) ∧ 175 + 3 = 178 := by decide +kernel
theorem D_M_go_178 : decode prog_9_method_55_code 178 = .ok (.ifCond .eq 60, 3) ∧ ((178 : Nat) : Int) + 60 = ((238 : Nat) : Int) ∧ 178 + 3 = 181 := by decide +kernel
theorem D_M_go_181 : decode prog_9_method_55_code 181 = .ok (.aload_n 0, 1) ∧ 181 + 1 = 182 := by decide +kernel
theorem D_M_go_182 : decode prog_9_method_55_code 182 = .ok (.aload_n 0, 1) ∧ 182 + 1 = 183 := by decide +kernel
theorem D_M_go_183 : decode prog_9_method_55_code 183 = .ok (.getfield 180, 3) ∧ 183 + 3 = 186 := by decide +kernel
theorem D_M_go_186 : decode prog_9_method_55_code 186 = .ok (.aload_n 0, 1) ∧ 186 + 1 = 187 := by decide +kernel
theorem D_M_go_187 : decode prog_9_method_55_code 187 = .ok (.getfield 183, 3) ∧ 187 + 3 = 190 := by decide +kernel
theorem D_M_go_190 : decode prog_9_method_55_code 190 = .ok (.isub, 1) ∧ 190 + 1 = 191 := by decide +kernel
theorem D_M_go_191 : decode prog_9_method_55_code 191 = .ok (.iconst 4, 1) ∧ 191 + 1 = 192 := by decide +kernel
theorem D_M_go_192 : decode prog_9_method_55_code 192 = .ok (.if_icmp .ge 26, 3) ∧ ((192 : Nat) : Int) + 26 = ((218 : Nat) : Int) ∧ 192 + 3 = 195 := by decide +kernel
theorem D_M_go_218 : decode prog_9_method_55_code 218 = .ok (.aload_n 0, 1) ∧ 218 + 1 = 219 := by decide +kernel
theorem D_M_go_219 : decode prog_9_method_55_code 219 = .ok (.getfield 195, 3) ∧ 219 + 3 = 222 := by decide +kernel
theorem D_M_go_222 : decode prog_9_method_55_code 222 = .ok (.putfield 195, 3) ∧ 222 + 3 = 225 := by decide +kernel
theorem D_M_go_225 : decode prog_9_method_55_code 225 = .ok (.aload_n 0, 1) ∧ 225 + 1 = 226 := by decide +kernel
theorem D_M_go_226 : decode prog_9_method_55_code 226 = .ok (.dup, 1) ∧ 226 + 1 = 227 := by decide +kernel
theorem D_M_go_227 : decode prog_9_method_55_code 227 = .ok (.getfield 180, 3) ∧ 227 + 3 = 230 := by decide +kernel
theorem D_M_go_230 : decode prog_9_method_55_code 230 = .ok (.iconst 1, 1) ∧ 230 + 1 = 231 := by decide +kernel
theorem D_M_go_231 : decode prog_9_method_55_code 231 = .ok (.iadd, 1) ∧ 231 + 1 = 232 := by decide +kernel
theorem D_M_go_232 : decode prog_9_method_55_code 232 = .ok (.putfield 180, 3) ∧ 232 + 3 = 235 := by decide +kernel
theorem D_M_go_235 : decode prog_9_method_55_code 235 = .ok (.goto (-65), 3) ∧ ((235 : Nat) : Int) + (-65) = ((170 : Nat) : Int) := by decide +kernel
theorem D_M_go_195 : decode prog_9_method_55_code 195 = .ok (.bipush 10, 2) ∧ 195 + 2 = 197 := by decide +kernel
theorem D_M_go_197 : decode prog_9_method_55_code 197 = .ok (.aload_n 0, 1) ∧ 197 + 1 = 198 := by decide +kernel
theorem D_M_go_198 : decode prog_9_method_55_code 198 = .ok (.getfield 195, 3) ∧ 198 + 3 = 201 := by decide +kernel
theorem D_M_go_201 : decode prog_9_method_55_code 201 = .ok (.imul, 1) ∧ 201 + 1 = 202 := by decide +kernel
theorem D_M_go_202 : decode prog_9_method_55_code 202 = .ok (.aload_n 0, 1) ∧ 202 + 1 = 203 := by decide +kernel
theorem D_M_go_203 : decode prog_9_method_55_code 203 = .ok (.getfield 26, 3) ∧ 203 + 3 = 206 := by decide +kernel
theorem D_M_go_206 : decode prog_9_method_55_code 206 = .ok (.aload_n 0, 1) ∧ 206 + 1 = 207 := by decide +kernel
theorem D_M_go_207 : decode prog_9_method_55_code 207 = .ok (.getfield 180, 3) ∧ 207 + 3 = 210 := by decide +kernel
theorem D_M_go_210 : decode prog_9_method_55_code 210 = .ok (.iaload, 1) ∧ 210 + 1 = 211 := by decide +kernel
theorem D_M_go_211 : decode prog_9_method_55_code 211 = .ok (.iadd, 1) ∧ 211 + 1 = 212 := by decide +kernel
theorem D_M_go_212 : decode prog_9_method_55_code 212 = .ok (.bipush 48, 2) ∧ 212 + 2 = 214 := by decide +kernel
theorem D_M_go_214 : decode prog_9_method_55_code 214 = .ok (.isub, 1) ∧ 214 + 1 = 215 := by decide +kernel
theorem D_M_go_215 : decode prog_9_method_55_code 215 = .ok (.goto 7, 3) ∧ ((215 : Nat) : Int) + 7 = ((222 : Nat) : Int) := by decide +kernel
theorem D_M_go_238 : decode prog_9_method_55_code 238 = .ok (.aload_n 0, 1) ∧ 238 + 1 = 239 := by decide +kernel
theorem D_M_go_239 : decode prog_9_method_55_code 239 = .ok (.iload_n 1, 1) ∧ 239 + 1 = 240 := by decide +kernel
theorem D_M_go_256 : decode prog_9_method_55_code 256 = .ok (.iconst 4, 1) ∧ 256 + 1 = 257 := by decide +kernel
theorem D_M_go_257 : decode prog_9_method_55_code 257 = .ok (.goto 4, 3) ∧ ((257 : Nat) : Int) + 4 = ((261 : Nat) : Int) := by decide +kernel
theorem D_M_go_243 : decode prog_9_method_55_code 243 = .ok (.aload_n 0, 1) ∧ 243 + 1 = 244 := by decide +kernel
theorem D_M_go_244 : decode prog_9_method_55_code 244 = .ok (.getfield 180, 3) ∧ 244 + 3 = 247 := by decide +kernel
theorem D_M_go_247 : decode prog_9_method_55_code 247 = .ok (.aload_n 0, 1) ∧ 247 + 1 = 248 := by decide +kernel
theorem D_M_go_248 : decode prog_9_method_55_code 248 = .ok (.getfield 183, 3) ∧ 248 + 3 = 251 := by decide +kernel
theorem D_M_go_251 : decode prog_9_method_55_code 251 = .ok (.isub, 1) ∧ 251 + 1 = 252 := by decide +kernel
theorem D_M_go_252 : decode prog_9_method_55_code 252 = .ok (.iconst 4, 1) ∧ 252 + 1 = 253 := by decide +kernel
theorem D_M_go_260 : decode prog_9_method_55_code 260 = .ok (.iconst 2, 1) ∧ 260 + 1 = 261 := by decide +kernel
theorem D_M_go_253 : decode prog_9_method_55_code 253 = .ok (.if_icmp .le 7, 3) ∧ ((253 : Nat) : Int) + 7 = ((260 : Nat) : Int) ∧ 253 + 3 = 256 := by decide +kernel
theorem D_M_go_240 : decode prog_9_method_55_code 240 = .ok (.ifCond .ne 16, 3) ∧ ((240 : Nat) : Int) + 16 = ((256 : Nat) : Int) ∧ 240 + 3 = 243 := by decide +kernel
theorem D_M_go_261 : decode prog_9_method_55_code 261 = .ok (.putfield 189, 3) ∧ 261 + 3 = 264 := by decide +kernel
theorem D_M_go_264 : decode prog_9_method_55_code 264 = .ok (.aload_n 0, 1) ∧ 264 + 1 = 265 := by decide +kernel
theorem D_M_go_265 : decode prog_9_method_55_code 265 = .ok (.aload_n 0, 1) ∧ 265 + 1 = 266 := by decide +kernel
theorem D_M_go_266 : decode prog_9_method_55_code 266 = .ok (.getfield 180, 3) ∧ 266 + 3 = 269 := by decide +kernel
theorem D_M_go_269 : decode prog_9_method_55_code 269 = .ok (.putfield 186, 3) ∧ 269 + 3 = 272 := by decide +kernel
theorem D_M_go_272 : decode prog_9_method_55_code 272 = .ok (.goto 31, 3) ∧ ((272 : Nat) : Int) + 31 = ((303 : Nat) : Int) := by decide +kernel
theorem D_M_go_93 : decode prog_9_method_55_code 93 = .ok (.aload_n 0, 1) ∧ 93 + 1 = 94 := by decide +kernel
theorem D_M_go_94 : decode prog_9_method_55_code 94 = .ok (.aload_n 0, 1) ∧ 94 + 1 = 95 := by decide +kernel
theorem D_M_go_95 : decode prog_9_method_55_code 95 = .ok (.getfield 180, 3) ∧ 95 + 3 = 98 := by decide +kernel
theorem D_M_go_98 : decode prog_9_method_55_code 98 = .ok (.invokevirtual 192, 3) ∧ 98 + 3 = 101 := by decide +kernel
theorem D_M_go_101 : decode prog_9_method_55_code 101 = .ok (.ifCond .eq 16, 3) ∧ ((101 : Nat) : Int) + 16 = ((117 : Nat) : Int) ∧ 101 + 3 = 104 := by decide +kernel
theorem D_M_go_104 : decode prog_9_method_55_code 104 = .ok (.aload_n 0, 1) ∧ 104 + 1 = 105 := by decide +kernel
theorem D_M_go_105 : decode prog_9_method_55_code 105 = .ok (.dup, 1) ∧ 105 + 1 = 106 := by decide +kernel
theorem D_M_go_106 : decode prog_9_method_55_code 106 = .ok (.getfield 180, 3) ∧ 106 + 3 = 109 := by decide +kernel
theorem D_M_go_109 : decode prog_9_method_55_code 109 = .ok (.iconst 1, 1) ∧ 109 + 1 = 110 := by decide +kernel
theorem D_M_go_110 : decode prog_9_method_55_code 110 = .ok (.iadd, 1) ∧ 110 + 1 = 111 := by decide +kernel
theorem D_M_go_111 : decode prog_9_method_55_code 111 = .ok (.putfield 180, 3) ∧ 111 + 3 = 114 := by decide +kernel
theorem D_M_go_114 : decode prog_9_method_55_code 114 = .ok (.goto (-21), 3) ∧ ((114 : Nat) : Int) + (-21) = ((93 : Nat) : Int) := by decide +kernel
theorem D_M_go_117 : decode prog_9_method_55_code 117 = .ok (.aload_n 0, 1) ∧ 117 + 1 = 118 := by decide +kernel
theorem D_M_go_118 : decode prog_9_method_55_code 118 = .ok (.iload_n 1, 1) ∧ 118 + 1 = 119 := by decide +kernel
theorem D_M_go_126 : decode prog_9_method_55_code 126 = .ok (.iconst 1, 1) ∧ 126 + 1 = 127 := by decide +kernel
theorem D_M_go_122 : decode prog_9_method_55_code 122 = .ok (.iconst 4, 1) ∧ 122 + 1 = 123 := by decide +kernel
theorem D_M_go_123 : decode prog_9_method_55_code 123 = .ok (.goto 4, 3) ∧ ((123 : Nat) : Int) + 4 = ((127 : Nat) : Int) := by decide +kernel
theorem D_M_go_119 : decode prog_9_method_55_code 119 = .ok (.ifCond .eq 7, 3) ∧ ((119 : Nat) : Int) + 7 = ((126 : Nat) : Int) ∧ 119 + 3 = 122 := by decide +kernel
theorem D_M_go_127 : decode prog_9_method_55_code 127 = .ok (.putfield 189, 3) ∧ 127 + 3 = 130 := by decide +kernel
theorem D_M_go_130 : decode prog_9_method_55_code 130 = .ok (.aload_n 0, 1) ∧ 130 + 1 = 131 := by decide +kernel
theorem D_M_go_131 : decode prog_9_method_55_code 131 = .ok (.aload_n 0, 1) ∧ 131 + 1 = 132 := by decide +kernel
theorem D_M_go_132 : decode prog_9_method_55_code 132 = .ok (.getfield 26, 3) ∧ 132 + 3 = 135 := by decide +kernel
theorem D_M_go_135 : decode prog_9_method_55_code 135 = .ok (.aload_n 0, 1) ∧ 135 + 1 = 136 := by decide +kernel
theorem D_M_go_136 : decode prog_9_method_55_code 136 = .ok (.getfield 183, 3) ∧ 136 + 3 = 139 := by decide +kernel
theorem D_M_go_139 : decode prog_9_method_55_code 139 = .ok (.iaload, 1) ∧ 139 + 1 = 140 := by decide +kernel
theorem D_M_go_140 : decode prog_9_method_55_code 140 = .ok (.putfield 195, 3) ∧ 140 + 3 = 143 := by decide +kernel
theorem D_M_go_143 : decode prog_9_method_55_code 143 = .ok (.aload_n 0, 1) ∧ 143 + 1 = 144 := by decide +kernel
theorem D_M_go_144 : decode prog_9_method_55_code 144 = .ok (.aload_n 0, 1) ∧ 144 + 1 = 145 := by decide +kernel
theorem D_M_go_145 : decode prog_9_method_55_code 145 = .ok (.getfield 180, 3) ∧ 145 + 3 = 148 := by decide +kernel
theorem D_M_go_148 : decode prog_9_method_55_code 148 = .ok (.putfield 186, 3) ∧ 148 + 3 = 151 := by decide +kernel
theorem D_M_go_151 : decode prog_9_method_55_code 151 = .ok (.goto 152, 3) ∧ ((151 : Nat) : Int) + 152 = ((303 : Nat) : Int) := by decide +kernel
theorem D_M_go_74 : decode prog_9_method_55_code 74 = .ok (.aload_n 0, 1) ∧ 74 + 1 = 75 := by decide +kernel
theorem D_M_go_75 : decode prog_9_method_55_code 75 = .ok (.iconst 0, 1) ∧ 75 + 1 = 76 := by decide +kernel
theorem D_M_go_76 : decode prog_9_method_55_code 76 = .ok (.putfield 189, 3) ∧ 76 + 3 = 79 := by decide +kernel
theorem D_M_go_79 : decode prog_9_method_55_code 79 = .ok (.goto 224, 3) ∧ ((79 : Nat) : Int) + 224 = ((303 : Nat) : Int) := by decide +kernel
def f_M_go_L0  : Nat → Mm → Option Mm
  | 0, _ => none
  | n + 1, mem => if mem 91 7 ≤ mem 91 8 then some mem else if inb (mem 91 8) 96 = true then if mem 96 (ix (mem 91 8)) = 32 then lt (mst mem 91 8 ((mem 91 8) + 1)) fun m_32 => f_M_go_L0 n  m_32 else some mem else none
def f_M_go_L170  : Nat → Int32 → Mm → Option Mm
  | 0, _, _ => none
  | n + 1, b1, mem => bp (f_M_isFigure (mem 91 8) mem) fun r_175 => if r_175 = 0 then some mem else if 4 ≤ (mem 91 8) - (mem 91 9) then lt (mst mem 91 11 (mem 91 11)) fun m_222 => lt (mst m_222 91 8 ((m_222 91 8) + 1)) fun m_232 => f_M_go_L170 n b1 m_232 else if inb (mem 91 8) 96 = true then lt (mst mem 91 11 (((10 * (mem 91 11)) + (mem 96 (ix (mem 91 8)))) - 48)) fun m_222 => lt (mst m_222 91 8 ((m_222 91 8) + 1)) fun m_232 => f_M_go_L170 n b1 m_232 else none
def f_M_go_L93  : Nat → Int32 → Mm → Option Mm
  | 0, _, _ => none
  | n + 1, b1, mem => bp (f_M_isLetter (mem 91 8) mem) fun r_98 => if r_98 = 0 then some mem else lt (mst mem 91 8 ((mem 91 8) + 1)) fun m_111 => f_M_go_L93 n b1 m_111
def f_M_go (N : Nat)  (mem : Mm) : Option (Mm) := bp (f_M_go_L0 N mem) fun m_0 => lt (mst m_0 91 9 (m_0 91 8)) fun m_43 => lt (if m_43 91 9 = m_43 91 12 then (1 : Int32) else 0) fun x_62 => if m_43 91 9 = m_43 91 7 then lt (mst m_43 91 10 0) fun m_76 => some m_76 else bp (f_M_isLetter (m_43 91 9) m_43) fun r_87 => if r_87 = 0 then bp (f_M_isFigure (m_43 91 9) m_43) fun r_159 => if r_159 = 0 then lt (mst m_43 91 10 3) fun m_277 => if inb (m_277 91 9) 96 = true then lt (mst m_277 91 11 (m_277 96 (ix (m_277 91 9)))) fun m_290 => lt (mst m_290 91 8 ((m_290 91 8) + 1)) fun m_300 => some m_300 else none else lt (mst m_43 91 11 0) fun m_167 => bp (f_M_go_L170 N x_62 m_167) fun m_170 => lt (mst m_170 91 10 (if x_62 = 0 then if (m_170 91 8) - (m_170 91 9) ≤ 4 then (2 : Int32) else 4 else 4)) fun m_261 => lt (mst m_261 91 12 (m_261 91 8)) fun m_269 => some m_269 else bp (f_M_go_L93 N x_62 m_43) fun m_93 => lt (mst m_93 91 10 (if x_62 = 0 then (1 : Int32) else 4)) fun m_127 => if inb (m_127 91 9) 96 = true then lt (mst m_127 91 11 (m_127 96 (ix (m_127 91 9)))) fun m_140 => lt (mst m_140 91 12 (m_140 91 8)) fun m_148 => some m_148 else none
theorem L_M_go_0 {X : Cx} {E : En} (S : Std X E prog_9_method_55_code R6 2 1)  : ∀ (n : Nat) (mem : Mm) (m2 : Mm), f_M_go_L0 n  mem = some m2 → J X E 2 38 [(0, .ref (eb E + 91))] [] SH m2 → J X E 2 0 [(0, .ref (eb E + 91))] [] SH mem := by
  intro n
  induction n with
  | zero =>
    intro mem m2 h hk; cases h
  | succ n ih =>
    intro mem m2 h hk
    rw [f_M_go_L0] at h
    refine j_aload_n S D_M_go_0 0 rfl rfl ?_
    refine j_getI S D_M_go_1 fl_R6_180 sh_Mod rfl ?_
    refine j_aload_n S D_M_go_4 0 rfl rfl ?_
    refine j_getI S D_M_go_5 fl_R6_177 sh_Mod rfl ?_
    refine j_icmp_ge S D_M_go_8 (fun c_8 => ?_) (fun c_8 => ?_)
    · have h := ifT c_8 h
      cases h
      exact j_locals [0] rfl hk
    · have h := ifF c_8 h
      refine j_aload_n S D_M_go_11 0 rfl rfl ?_
      refine j_getR S D_M_go_12 fl_R6_26 sh_Mod rfl ?_
      refine j_aload_n S D_M_go_15 0 rfl rfl ?_
      refine j_getI S D_M_go_16 fl_R6_180 sh_Mod rfl ?_
      obtain ⟨g_19, h⟩ := gdE h
      refine j_iald S D_M_go_19 sh_96 g_19 ?_
      refine j_bipush S D_M_go_20 cb_32 ?_
      refine j_icmp_ne S D_M_go_22 (fun c_22 => ?_) (fun c_22 => ?_)
      · have h := ifF c_22 h
        cases h
        exact j_locals [0] rfl hk
      · have h := ifT c_22 h
        refine j_aload_n S D_M_go_25 0 rfl rfl ?_
        refine j_dup S D_M_go_26 rfl ?_
        refine j_getI S D_M_go_27 fl_R6_180 sh_Mod rfl ?_
        refine j_iconst S D_M_go_30 ci_1 ?_
        refine j_iadd S D_M_go_31 ?_
        obtain ⟨m_32, hm_32, h⟩ := ltE h
        refine j_putI S D_M_go_32 fp_R6_180 sh_Mod rfl ?_
        refine j_mem hm_32 ?_
        refine j_goto S D_M_go_35 ?_
        refine j_locals [0] rfl (ih m_32 _ h hk)
theorem L_M_go_170 {X : Cx} {E : En} (S : Std X E prog_9_method_55_code R6 2 1)  : ∀ (n : Nat) (b1 : Int32) (mem : Mm) (m2 : Mm), f_M_go_L170 n b1 mem = some m2 → J X E 2 238 [(0, .ref (eb E + 91)), (1, .int b1)] [] SH m2 → J X E 2 170 [(0, .ref (eb E + 91)), (1, .int b1)] [] SH mem := by
  intro n
  induction n with
  | zero =>
    intro b1 mem m2 h hk; cases h
  | succ n ih =>
    intro b1 mem m2 h hk
    rw [f_M_go_L170] at h
    refine j_aload_n S D_M_go_170 0 rfl rfl ?_
    refine j_aload_n S D_M_go_171 0 rfl rfl ?_
    refine j_getI S D_M_go_172 fl_R6_180 sh_Mod rfl ?_
    obtain ⟨r_175, e_175, h⟩ := bpE h
    refine j_callVI (As := [.int (mem 91 8)]) S D_M_go_175 mv_R6_198 (c_M_isFigure (cxL X) E (mem 91 8) e_175) (by decide) sh_Mod rfl rfl rfl rfl (Nat.le_of_ble_eq_true rfl) ?_
    refine j_if_eq S D_M_go_178 (fun c_178 => ?_) (fun c_178 => ?_)
    · have h := ifT c_178 h
      cases h
      exact j_locals [0, 1] rfl hk
    · have h := ifF c_178 h
      refine j_aload_n S D_M_go_181 0 rfl rfl ?_
      refine j_aload_n S D_M_go_182 0 rfl rfl ?_
      refine j_getI S D_M_go_183 fl_R6_180 sh_Mod rfl ?_
      refine j_aload_n S D_M_go_186 0 rfl rfl ?_
      refine j_getI S D_M_go_187 fl_R6_183 sh_Mod rfl ?_
      refine j_isub S D_M_go_190 ?_
      refine j_iconst S D_M_go_191 ci_4 ?_
      refine j_icmp_ge S D_M_go_192 (fun c_192 => ?_) (fun c_192 => ?_)
      · have h := ifT c_192 h
        refine j_aload_n S D_M_go_218 0 rfl rfl ?_
        refine j_getI S D_M_go_219 fl_R6_195 sh_Mod rfl ?_
        obtain ⟨m_222, hm_222, h⟩ := ltE h
        refine j_putI S D_M_go_222 fp_R6_195 sh_Mod rfl ?_
        refine j_mem hm_222 ?_
        refine j_aload_n S D_M_go_225 0 rfl rfl ?_
        refine j_dup S D_M_go_226 rfl ?_
        refine j_getI S D_M_go_227 fl_R6_180 sh_Mod rfl ?_
        refine j_iconst S D_M_go_230 ci_1 ?_
        refine j_iadd S D_M_go_231 ?_
        obtain ⟨m_232, hm_232, h⟩ := ltE h
        refine j_putI S D_M_go_232 fp_R6_180 sh_Mod rfl ?_
        refine j_mem hm_232 ?_
        refine j_goto S D_M_go_235 ?_
        refine j_locals [0, 1] rfl (ih b1 m_232 _ h hk)
      · have h := ifF c_192 h
        refine j_bipush S D_M_go_195 cb_10 ?_
        refine j_aload_n S D_M_go_197 0 rfl rfl ?_
        refine j_getI S D_M_go_198 fl_R6_195 sh_Mod rfl ?_
        refine j_imul S D_M_go_201 ?_
        refine j_aload_n S D_M_go_202 0 rfl rfl ?_
        refine j_getR S D_M_go_203 fl_R6_26 sh_Mod rfl ?_
        refine j_aload_n S D_M_go_206 0 rfl rfl ?_
        refine j_getI S D_M_go_207 fl_R6_180 sh_Mod rfl ?_
        obtain ⟨g_210, h⟩ := gdE h
        refine j_iald S D_M_go_210 sh_96 g_210 ?_
        refine j_iadd S D_M_go_211 ?_
        refine j_bipush S D_M_go_212 cb_48 ?_
        refine j_isub S D_M_go_214 ?_
        refine j_goto S D_M_go_215 ?_
        obtain ⟨m_222, hm_222, h⟩ := ltE h
        refine j_putI S D_M_go_222 fp_R6_195 sh_Mod rfl ?_
        refine j_mem hm_222 ?_
        refine j_aload_n S D_M_go_225 0 rfl rfl ?_
        refine j_dup S D_M_go_226 rfl ?_
        refine j_getI S D_M_go_227 fl_R6_180 sh_Mod rfl ?_
        refine j_iconst S D_M_go_230 ci_1 ?_
        refine j_iadd S D_M_go_231 ?_
        obtain ⟨m_232, hm_232, h⟩ := ltE h
        refine j_putI S D_M_go_232 fp_R6_180 sh_Mod rfl ?_
        refine j_mem hm_232 ?_
        refine j_goto S D_M_go_235 ?_
        refine j_locals [0, 1] rfl (ih b1 m_232 _ h hk)
theorem L_M_go_93 {X : Cx} {E : En} (S : Std X E prog_9_method_55_code R6 2 1)  : ∀ (n : Nat) (b1 : Int32) (mem : Mm) (m2 : Mm), f_M_go_L93 n b1 mem = some m2 → J X E 2 117 [(0, .ref (eb E + 91)), (1, .int b1)] [] SH m2 → J X E 2 93 [(0, .ref (eb E + 91)), (1, .int b1)] [] SH mem := by
  intro n
  induction n with
  | zero =>
    intro b1 mem m2 h hk; cases h
  | succ n ih =>
    intro b1 mem m2 h hk
    rw [f_M_go_L93] at h
    refine j_aload_n S D_M_go_93 0 rfl rfl ?_
    refine j_aload_n S D_M_go_94 0 rfl rfl ?_
    refine j_getI S D_M_go_95 fl_R6_180 sh_Mod rfl ?_
    obtain ⟨r_98, e_98, h⟩ := bpE h
    refine j_callVI (As := [.int (mem 91 8)]) S D_M_go_98 mv_R6_192 (c_M_isLetter (cxL X) E (mem 91 8) e_98) (by decide) sh_Mod rfl rfl rfl rfl (Nat.le_of_ble_eq_true rfl) ?_
    refine j_if_eq S D_M_go_101 (fun c_101 => ?_) (fun c_101 => ?_)
    · have h := ifT c_101 h
      cases h
      exact j_locals [0, 1] rfl hk
    · have h := ifF c_101 h
      refine j_aload_n S D_M_go_104 0 rfl rfl ?_
      refine j_dup S D_M_go_105 rfl ?_
      refine j_getI S D_M_go_106 fl_R6_180 sh_Mod rfl ?_
      refine j_iconst S D_M_go_109 ci_1 ?_
      refine j_iadd S D_M_go_110 ?_
      obtain ⟨m_111, hm_111, h⟩ := ltE h
      refine j_putI S D_M_go_111 fp_R6_180 sh_Mod rfl ?_
      refine j_mem hm_111 ?_
      refine j_goto S D_M_go_114 ?_
      refine j_locals [0, 1] rfl (ih b1 m_111 _ h hk)
theorem c_M_go (l : Launch) (E : En) (N : Nat)  {mem : Mm} {m2 : Mm} (h : f_M_go N mem = some m2) : CtV l E 1 y_M_go prog_9_method_55_code 2 [.ref (eb E + 91)] SH mem m2 := by
  refine mk_CtV ⟨by decide, (Nat.le_of_ble_eq_true rfl)⟩ (fun X S hl hR => ?_)
  have S : Std X E prog_9_method_55_code R6 2 1 := S
  show J X E 2 0 [(0, .ref (eb E + 91))] [] SH mem
  unfold f_M_go at h
  obtain ⟨m_0, e_0, h⟩ := bpE h
  refine L_M_go_0 S  N mem _ e_0 ?_
  refine j_aload_n S D_M_go_38 0 rfl rfl ?_
  refine j_aload_n S D_M_go_39 0 rfl rfl ?_
  refine j_getI S D_M_go_40 fl_R6_180 sh_Mod rfl ?_
  obtain ⟨m_43, hm_43, h⟩ := ltE h
  refine j_putI S D_M_go_43 fp_R6_183 sh_Mod rfl ?_
  refine j_mem hm_43 ?_
  refine j_aload_n S D_M_go_46 0 rfl rfl ?_
  refine j_getI S D_M_go_47 fl_R6_183 sh_Mod rfl ?_
  refine j_aload_n S D_M_go_50 0 rfl rfl ?_
  refine j_getI S D_M_go_51 fl_R6_186 sh_Mod rfl ?_
  refine j_dia (P := J X E 2 62 [(0, .ref (eb E + 91))] [.int (if m_43 91 9 = m_43 91 12 then (1 : Int32) else 0)] SH m_43) (fun hj => ?_) ?_
  · refine j_icmp_ne S D_M_go_54 (fun c_54 => ?_) (fun c_54 => ?_)
    · refine j_iconst S D_M_go_61 ci_0 ?_
      exact j_jnF hj c_54
    · refine j_iconst S D_M_go_57 ci_1 ?_
      refine j_goto S D_M_go_58 ?_
      exact j_jnT hj c_54
  obtain ⟨x_62, hx_62, h⟩ := ltE h
  refine j_nm hx_62 ?_
  refine j_istore_n S D_M_go_62 (lv := [(1, .int x_62), (0, .ref (eb E + 91))]) rfl ⟨rfl, (Nat.le_of_ble_eq_true rfl)⟩ ?_
  refine j_aload_n S D_M_go_63 1 rfl rfl ?_
  refine j_getI S D_M_go_64 fl_R6_183 sh_Mod rfl ?_
  refine j_aload_n S D_M_go_67 1 rfl rfl ?_
  refine j_getI S D_M_go_68 fl_R6_177 sh_Mod rfl ?_
  refine j_icmp_ne S D_M_go_71 (fun c_71 => ?_) (fun c_71 => ?_)
  · have h := ifF c_71 h
    refine j_aload_n S D_M_go_82 1 rfl rfl ?_
    refine j_aload_n S D_M_go_83 1 rfl rfl ?_
    refine j_getI S D_M_go_84 fl_R6_183 sh_Mod rfl ?_
    obtain ⟨r_87, e_87, h⟩ := bpE h
    refine j_callVI (As := [.int (m_43 91 9)]) S D_M_go_87 mv_R6_192 (c_M_isLetter (cxL X) E (m_43 91 9) e_87) (by decide) sh_Mod rfl rfl rfl rfl (Nat.le_of_ble_eq_true rfl) ?_
    refine j_if_eq S D_M_go_90 (fun c_90 => ?_) (fun c_90 => ?_)
    · have h := ifT c_90 h
      refine j_aload_n S D_M_go_154 1 rfl rfl ?_
      refine j_aload_n S D_M_go_155 1 rfl rfl ?_
      refine j_getI S D_M_go_156 fl_R6_183 sh_Mod rfl ?_
      obtain ⟨r_159, e_159, h⟩ := bpE h
      refine j_callVI (As := [.int (m_43 91 9)]) S D_M_go_159 mv_R6_198 (c_M_isFigure (cxL X) E (m_43 91 9) e_159) (by decide) sh_Mod rfl rfl rfl rfl (Nat.le_of_ble_eq_true rfl) ?_
      refine j_if_eq S D_M_go_162 (fun c_162 => ?_) (fun c_162 => ?_)
      · have h := ifT c_162 h
        refine j_aload_n S D_M_go_275 1 rfl rfl ?_
        refine j_iconst S D_M_go_276 ci_3 ?_
        obtain ⟨m_277, hm_277, h⟩ := ltE h
        refine j_putI S D_M_go_277 fp_R6_189 sh_Mod rfl ?_
        refine j_mem hm_277 ?_
        refine j_aload_n S D_M_go_280 1 rfl rfl ?_
        refine j_aload_n S D_M_go_281 1 rfl rfl ?_
        refine j_getR S D_M_go_282 fl_R6_26 sh_Mod rfl ?_
        refine j_aload_n S D_M_go_285 1 rfl rfl ?_
        refine j_getI S D_M_go_286 fl_R6_183 sh_Mod rfl ?_
        obtain ⟨g_289, h⟩ := gdE h
        refine j_iald S D_M_go_289 sh_96 g_289 ?_
        obtain ⟨m_290, hm_290, h⟩ := ltE h
        refine j_putI S D_M_go_290 fp_R6_195 sh_Mod rfl ?_
        refine j_mem hm_290 ?_
        refine j_aload_n S D_M_go_293 1 rfl rfl ?_
        refine j_dup S D_M_go_294 rfl ?_
        refine j_getI S D_M_go_295 fl_R6_180 sh_Mod rfl ?_
        refine j_iconst S D_M_go_298 ci_1 ?_
        refine j_iadd S D_M_go_299 ?_
        obtain ⟨m_300, hm_300, h⟩ := ltE h
        refine j_putI S D_M_go_300 fp_R6_180 sh_Mod rfl ?_
        refine j_mem hm_300 ?_
        exact rtV hR h _ _ D_M_go_303
      · have h := ifF c_162 h
        refine j_aload_n S D_M_go_165 1 rfl rfl ?_
        refine j_iconst S D_M_go_166 ci_0 ?_
        obtain ⟨m_167, hm_167, h⟩ := ltE h
        refine j_putI S D_M_go_167 fp_R6_195 sh_Mod rfl ?_
        refine j_mem hm_167 ?_
        refine j_locals [1, 0] rfl ?_
        obtain ⟨m_170, e_170, h⟩ := bpE h
        refine L_M_go_170 S  N x_62 m_167 _ e_170 ?_
        refine j_aload_n S D_M_go_238 0 rfl rfl ?_
        refine j_iload_n S D_M_go_239 1 rfl rfl ?_
        refine j_dia (P := J X E 2 261 [(0, .ref (eb E + 91)), (1, .int x_62)] [.int (if x_62 = 0 then if (m_170 91 8) - (m_170 91 9) ≤ 4 then (2 : Int32) else 4 else 4), .ref (eb E + 91)] SH m_170) (fun hj => ?_) ?_
        · refine j_if_ne S D_M_go_240 (fun c_240 => ?_) (fun c_240 => ?_)
          · refine j_iconst S D_M_go_256 ci_4 ?_
            refine j_goto S D_M_go_257 ?_
            exact j_jnF hj c_240
          · refine j_aload_n S D_M_go_243 0 rfl rfl ?_
            refine j_getI S D_M_go_244 fl_R6_180 sh_Mod rfl ?_
            refine j_aload_n S D_M_go_247 0 rfl rfl ?_
            refine j_getI S D_M_go_248 fl_R6_183 sh_Mod rfl ?_
            refine j_isub S D_M_go_251 ?_
            refine j_iconst S D_M_go_252 ci_4 ?_
            refine j_dia (P := J X E 2 261 [(0, .ref (eb E + 91)), (1, .int x_62)] [.int (if (m_170 91 8) - (m_170 91 9) ≤ 4 then (2 : Int32) else 4), .ref (eb E + 91)] SH m_170) (fun hj => ?_) ?_
            · refine j_icmp_le S D_M_go_253 (fun c_253 => ?_) (fun c_253 => ?_)
              · refine j_iconst S D_M_go_260 ci_2 ?_
                exact j_jnT hj c_253
              · refine j_iconst S D_M_go_256 ci_4 ?_
                refine j_goto S D_M_go_257 ?_
                exact j_jnF hj c_253
            exact j_jnT hj c_240
        obtain ⟨m_261, hm_261, h⟩ := ltE h
        refine j_putI S D_M_go_261 fp_R6_189 sh_Mod rfl ?_
        refine j_mem hm_261 ?_
        refine j_aload_n S D_M_go_264 0 rfl rfl ?_
        refine j_aload_n S D_M_go_265 0 rfl rfl ?_
        refine j_getI S D_M_go_266 fl_R6_180 sh_Mod rfl ?_
        obtain ⟨m_269, hm_269, h⟩ := ltE h
        refine j_putI S D_M_go_269 fp_R6_186 sh_Mod rfl ?_
        refine j_mem hm_269 ?_
        refine j_goto S D_M_go_272 ?_
        exact rtV hR h _ _ D_M_go_303
    · have h := ifF c_90 h
      refine j_locals [1, 0] rfl ?_
      obtain ⟨m_93, e_93, h⟩ := bpE h
      refine L_M_go_93 S  N x_62 m_43 _ e_93 ?_
      refine j_aload_n S D_M_go_117 0 rfl rfl ?_
      refine j_iload_n S D_M_go_118 1 rfl rfl ?_
      refine j_dia (P := J X E 2 127 [(0, .ref (eb E + 91)), (1, .int x_62)] [.int (if x_62 = 0 then (1 : Int32) else 4), .ref (eb E + 91)] SH m_93) (fun hj => ?_) ?_
      · refine j_if_eq S D_M_go_119 (fun c_119 => ?_) (fun c_119 => ?_)
        · refine j_iconst S D_M_go_126 ci_1 ?_
          exact j_jnT hj c_119
        · refine j_iconst S D_M_go_122 ci_4 ?_
          refine j_goto S D_M_go_123 ?_
          exact j_jnF hj c_119
      obtain ⟨m_127, hm_127, h⟩ := ltE h
      refine j_putI S D_M_go_127 fp_R6_189 sh_Mod rfl ?_
      refine j_mem hm_127 ?_
      refine j_aload_n S D_M_go_130 0 rfl rfl ?_
      refine j_aload_n S D_M_go_131 0 rfl rfl ?_
      refine j_getR S D_M_go_132 fl_R6_26 sh_Mod rfl ?_
      refine j_aload_n S D_M_go_135 0 rfl rfl ?_
      refine j_getI S D_M_go_136 fl_R6_183 sh_Mod rfl ?_
      obtain ⟨g_139, h⟩ := gdE h
      refine j_iald S D_M_go_139 sh_96 g_139 ?_
      obtain ⟨m_140, hm_140, h⟩ := ltE h
      refine j_putI S D_M_go_140 fp_R6_195 sh_Mod rfl ?_
      refine j_mem hm_140 ?_
      refine j_aload_n S D_M_go_143 0 rfl rfl ?_
      refine j_aload_n S D_M_go_144 0 rfl rfl ?_
      refine j_getI S D_M_go_145 fl_R6_180 sh_Mod rfl ?_
      obtain ⟨m_148, hm_148, h⟩ := ltE h
      refine j_putI S D_M_go_148 fp_R6_186 sh_Mod rfl ?_
      refine j_mem hm_148 ?_
      refine j_goto S D_M_go_151 ?_
      exact rtV hR h _ _ D_M_go_303
  · have h := ifT c_71 h
    refine j_aload_n S D_M_go_74 1 rfl rfl ?_
    refine j_iconst S D_M_go_75 ci_0 ?_
    obtain ⟨m_76, hm_76, h⟩ := ltE h
    refine j_putI S D_M_go_76 fp_R6_189 sh_Mod rfl ?_
    refine j_mem hm_76 ?_
    refine j_goto S D_M_go_79 ?_
    exact rtV hR h _ _ D_M_go_303

def y_M_takesKey : MethodName := ⟨"SandPictureModel", "takesKey", "()Z"⟩
theorem D_M_takesKey_0 : decode prog_9_method_56_code 0 = .ok (.aload_n 0, 1) ∧ 0 + 1 = 1 := by decide +kernel
theorem D_M_takesKey_1 : decode prog_9_method_56_code 1 = .ok (.getfield 189, 3) ∧ 1 + 3 = 4 := by decide +kernel
theorem D_M_takesKey_4 : decode prog_9_method_56_code 4 = .ok (.iconst 1, 1) ∧ 4 + 1 = 5 := by decide +kernel
theorem D_M_takesKey_5 : decode prog_9_method_56_code 5 = .ok (.if_icmp .eq 5, 3) ∧ ((5 : Nat) : Int) + 5 = ((10 : Nat) : Int) ∧ 5 + 3 = 8 := by decide +kernel
theorem D_M_takesKey_10 : decode prog_9_method_56_code 10 = .ok (.iconst 0, 1) ∧ 10 + 1 = 11 := by decide +kernel
theorem D_M_takesKey_11 : decode prog_9_method_56_code 11 = .ok (.istore_n 1, 1) ∧ 11 + 1 = 12 := by decide +kernel
theorem D_M_takesKey_12 : decode prog_9_method_56_code 12 = .ok (.iload_n 1, 1) ∧ 12 + 1 = 13 := by decide +kernel
theorem D_M_takesKey_13 : decode prog_9_method_56_code 13 = .ok (.iconst 3, 1) ∧ 13 + 1 = 14 := by decide +kernel
theorem D_M_takesKey_14 : decode prog_9_method_56_code 14 = .ok (.if_icmp .ge 113, 3) ∧ ((14 : Nat) : Int) + 113 = ((127 : Nat) : Int) ∧ 14 + 3 = 17 := by decide +kernel
theorem D_M_takesKey_127 : decode prog_9_method_56_code 127 = .ok (.iconst 0, 1) ∧ 127 + 1 = 128 := by decide +kernel
theorem D_M_takesKey_128 : decode prog_9_method_56_code 128 = .ok (.ireturn, 1) := by decide +kernel
theorem D_M_takesKey_17 : decode prog_9_method_56_code 17 = .ok (.aload_n 0, 1) ∧ 17 + 1 = 18 := by decide +kernel
theorem D_M_takesKey_18 : decode prog_9_method_56_code 18 = .ok (.getfield 33, 3) ∧ 18 + 3 = 21 := by decide +kernel
theorem D_M_takesKey_21 : decode prog_9_method_56_code 21 = .ok (.iload_n 1, 1) ∧ 21 + 1 = 22 := by decide +kernel
theorem D_M_takesKey_22 : decode prog_9_method_56_code 22 = .ok (.iconst 1, 1) ∧ 22 + 1 = 23 := by decide +kernel
theorem D_M_takesKey_23 : decode prog_9_method_56_code 23 = .ok (.iadd, 1) ∧ 23 + 1 = 24 := by decide +kernel
theorem D_M_takesKey_24 : decode prog_9_method_56_code 24 = .ok (.iaload, 1) ∧ 24 + 1 = 25 := by decide +kernel
theorem D_M_takesKey_25 : decode prog_9_method_56_code 25 = .ok (.aload_n 0, 1) ∧ 25 + 1 = 26 := by decide +kernel
theorem D_M_takesKey_26 : decode prog_9_method_56_code 26 = .ok (.getfield 33, 3) ∧ 26 + 3 = 29 := by decide +kernel
theorem D_M_takesKey_29 : decode prog_9_method_56_code 29 = .ok (.iload_n 1, 1) ∧ 29 + 1 = 30 := by decide +kernel
theorem D_M_takesKey_30 : decode prog_9_method_56_code 30 = .ok (.iaload, 1) ∧ 30 + 1 = 31 := by decide +kernel
theorem D_M_takesKey_31 : decode prog_9_method_56_code 31 = .ok (.isub, 1) ∧ 31 + 1 = 32 := by decide +kernel
theorem D_M_takesKey_32 : decode prog_9_method_56_code 32 = .ok (.istore_n 2, 1) ∧ 32 + 1 = 33 := by decide +kernel
theorem D_M_takesKey_33 : decode prog_9_method_56_code 33 = .ok (.iload_n 2, 1) ∧ 33 + 1 = 34 := by decide +kernel
theorem D_M_takesKey_34 : decode prog_9_method_56_code 34 = .ok (.aload_n 0, 1) ∧ 34 + 1 = 35 := by decide +kernel
theorem D_M_takesKey_35 : decode prog_9_method_56_code 35 = .ok (.getfield 180, 3) ∧ 35 + 3 = 38 := by decide +kernel
theorem D_M_takesKey_38 : decode prog_9_method_56_code 38 = .ok (.aload_n 0, 1) ∧ 38 + 1 = 39 := by decide +kernel
theorem D_M_takesKey_39 : decode prog_9_method_56_code 39 = .ok (.getfield 183, 3) ∧ 39 + 3 = 42 := by decide +kernel
theorem D_M_takesKey_42 : decode prog_9_method_56_code 42 = .ok (.isub, 1) ∧ 42 + 1 = 43 := by decide +kernel
theorem D_M_takesKey_50 : decode prog_9_method_56_code 50 = .ok (.iconst 0, 1) ∧ 50 + 1 = 51 := by decide +kernel
theorem D_M_takesKey_46 : decode prog_9_method_56_code 46 = .ok (.iconst 1, 1) ∧ 46 + 1 = 47 := by decide +kernel
theorem D_M_takesKey_47 : decode prog_9_method_56_code 47 = .ok (.goto 4, 3) ∧ ((47 : Nat) : Int) + 4 = ((51 : Nat) : Int) := by decide +kernel
theorem D_M_takesKey_43 : decode prog_9_method_56_code 43 = .ok (.if_icmp .ne 7, 3) ∧ ((43 : Nat) : Int) + 7 = ((50 : Nat) : Int) ∧ 43 + 3 = 46 := by decide +kernel
theorem D_M_takesKey_51 : decode prog_9_method_56_code 51 = .ok (.istore_n 3, 1) ∧ 51 + 1 = 52 := by decide +kernel
theorem D_M_takesKey_52 : decode prog_9_method_56_code 52 = .ok (.iconst 0, 1) ∧ 52 + 1 = 53 := by decide +kernel
theorem D_M_takesKey_53 : decode prog_9_method_56_code 53 = .ok (.istore 4, 2) ∧ 53 + 2 = 55 := by decide +kernel
theorem D_M_takesKey_55 : decode prog_9_method_56_code 55 = .ok (.iload 4, 2) ∧ 55 + 2 = 57 := by decide +kernel
theorem D_M_takesKey_57 : decode prog_9_method_56_code 57 = .ok (.iload_n 2, 1) ∧ 57 + 1 = 58 := by decide +kernel
theorem D_M_takesKey_58 : decode prog_9_method_56_code 58 = .ok (.if_icmp .ge 48, 3) ∧ ((58 : Nat) : Int) + 48 = ((106 : Nat) : Int) ∧ 58 + 3 = 61 := by decide +kernel
theorem D_M_takesKey_61 : decode prog_9_method_56_code 61 = .ok (.iload_n 3, 1) ∧ 61 + 1 = 62 := by decide +kernel
theorem D_M_takesKey_62 : decode prog_9_method_56_code 62 = .ok (.ifCond .eq 44, 3) ∧ ((62 : Nat) : Int) + 44 = ((106 : Nat) : Int) ∧ 62 + 3 = 65 := by decide +kernel
theorem D_M_takesKey_65 : decode prog_9_method_56_code 65 = .ok (.aload_n 0, 1) ∧ 65 + 1 = 66 := by decide +kernel
theorem D_M_takesKey_66 : decode prog_9_method_56_code 66 = .ok (.getfield 26, 3) ∧ 66 + 3 = 69 := by decide +kernel
theorem D_M_takesKey_69 : decode prog_9_method_56_code 69 = .ok (.aload_n 0, 1) ∧ 69 + 1 = 70 := by decide +kernel
theorem D_M_takesKey_70 : decode prog_9_method_56_code 70 = .ok (.getfield 183, 3) ∧ 70 + 3 = 73 := by decide +kernel
theorem D_M_takesKey_73 : decode prog_9_method_56_code 73 = .ok (.iload 4, 2) ∧ 73 + 2 = 75 := by decide +kernel
theorem D_M_takesKey_75 : decode prog_9_method_56_code 75 = .ok (.iadd, 1) ∧ 75 + 1 = 76 := by decide +kernel
theorem D_M_takesKey_76 : decode prog_9_method_56_code 76 = .ok (.iaload, 1) ∧ 76 + 1 = 77 := by decide +kernel
theorem D_M_takesKey_77 : decode prog_9_method_56_code 77 = .ok (.aload_n 0, 1) ∧ 77 + 1 = 78 := by decide +kernel
theorem D_M_takesKey_78 : decode prog_9_method_56_code 78 = .ok (.getfield 29, 3) ∧ 78 + 3 = 81 := by decide +kernel
theorem D_M_takesKey_81 : decode prog_9_method_56_code 81 = .ok (.aload_n 0, 1) ∧ 81 + 1 = 82 := by decide +kernel
theorem D_M_takesKey_82 : decode prog_9_method_56_code 82 = .ok (.getfield 33, 3) ∧ 82 + 3 = 85 := by decide +kernel
theorem D_M_takesKey_85 : decode prog_9_method_56_code 85 = .ok (.iload_n 1, 1) ∧ 85 + 1 = 86 := by decide +kernel
theorem D_M_takesKey_86 : decode prog_9_method_56_code 86 = .ok (.iaload, 1) ∧ 86 + 1 = 87 := by decide +kernel
theorem D_M_takesKey_87 : decode prog_9_method_56_code 87 = .ok (.iload 4, 2) ∧ 87 + 2 = 89 := by decide +kernel
theorem D_M_takesKey_89 : decode prog_9_method_56_code 89 = .ok (.iadd, 1) ∧ 89 + 1 = 90 := by decide +kernel
theorem D_M_takesKey_90 : decode prog_9_method_56_code 90 = .ok (.caload, 1) ∧ 90 + 1 = 91 := by decide +kernel
theorem D_M_takesKey_98 : decode prog_9_method_56_code 98 = .ok (.iconst 0, 1) ∧ 98 + 1 = 99 := by decide +kernel
theorem D_M_takesKey_94 : decode prog_9_method_56_code 94 = .ok (.iconst 1, 1) ∧ 94 + 1 = 95 := by decide +kernel
theorem D_M_takesKey_95 : decode prog_9_method_56_code 95 = .ok (.goto 4, 3) ∧ ((95 : Nat) : Int) + 4 = ((99 : Nat) : Int) := by decide +kernel
theorem D_M_takesKey_91 : decode prog_9_method_56_code 91 = .ok (.if_icmp .ne 7, 3) ∧ ((91 : Nat) : Int) + 7 = ((98 : Nat) : Int) ∧ 91 + 3 = 94 := by decide +kernel
theorem D_M_takesKey_99 : decode prog_9_method_56_code 99 = .ok (.istore_n 3, 1) ∧ 99 + 1 = 100 := by decide +kernel
theorem D_M_takesKey_100 : decode prog_9_method_56_code 100 = .ok (.iinc 4 1, 3) ∧ 100 + 3 = 103 := by decide +kernel
theorem D_M_takesKey_103 : decode prog_9_method_56_code 103 = .ok (.goto (-48), 3) ∧ ((103 : Nat) : Int) + (-48) = ((55 : Nat) : Int) := by decide +kernel
theorem D_M_takesKey_106 : decode prog_9_method_56_code 106 = .ok (.iload_n 3, 1) ∧ 106 + 1 = 107 := by decide +kernel
theorem D_M_takesKey_107 : decode prog_9_method_56_code 107 = .ok (.ifCond .eq 14, 3) ∧ ((107 : Nat) : Int) + 14 = ((121 : Nat) : Int) ∧ 107 + 3 = 110 := by decide +kernel
theorem D_M_takesKey_121 : decode prog_9_method_56_code 121 = .ok (.iinc 1 1, 3) ∧ 121 + 3 = 124 := by decide +kernel
theorem D_M_takesKey_124 : decode prog_9_method_56_code 124 = .ok (.goto (-112), 3) ∧ ((124 : Nat) : Int) + (-112) = ((12 : Nat) : Int) := by decide +kernel
theorem D_M_takesKey_110 : decode prog_9_method_56_code 110 = .ok (.aload_n 0, 1) ∧ 110 + 1 = 111 := by decide +kernel
theorem D_M_takesKey_111 : decode prog_9_method_56_code 111 = .ok (.iload_n 1, 1) ∧ 111 + 1 = 112 := by decide +kernel
theorem D_M_takesKey_112 : decode prog_9_method_56_code 112 = .ok (.putfield 201, 3) ∧ 112 + 3 = 115 := by decide +kernel
theorem D_M_takesKey_115 : decode prog_9_method_56_code 115 = .ok (.aload_n 0, 1) ∧ 115 + 1 = 116 := by decide +kernel
theorem D_M_takesKey_116 : decode prog_9_method_56_code 116 = .ok (.invokevirtual 204, 3) ∧ 116 + 3 = 119 := by decide +kernel
theorem D_M_takesKey_119 : decode prog_9_method_56_code 119 = .ok (.iconst 1, 1) ∧ 119 + 1 = 120 := by decide +kernel
theorem D_M_takesKey_120 : decode prog_9_method_56_code 120 = .ok (.ireturn, 1) := by decide +kernel
theorem D_M_takesKey_8 : decode prog_9_method_56_code 8 = .ok (.iconst 0, 1) ∧ 8 + 1 = 9 := by decide +kernel
theorem D_M_takesKey_9 : decode prog_9_method_56_code 9 = .ok (.ireturn, 1) := by decide +kernel
def f_M_takesKey_L55  : Nat → Int32 → Int32 → Int32 → Int32 → Mm → Option (Int32 × Int32)
  | 0, _, _, _, _, _ => none
  | n + 1, b1, b2, b3, b4, mem => if b2 ≤ b4 then some (b3, b4) else if b3 = 0 then some (b3, b4) else if inb ((mem 91 9) + b4) 96 = true then if inb b1 4 = true then if inb ((mem 98 (ix b1)) + b4) 12 = true then lt (if mem 96 (ix ((mem 91 9) + b4)) = mem 97 (ix ((mem 98 (ix b1)) + b4)) then (1 : Int32) else 0) fun x_99 => f_M_takesKey_L55 n b1 b2 x_99 (b4 + 1) mem else none else none else none
def f_M_takesKey_L12 (N : Nat)  : Nat → Int32 → Mm → Option (Int32 × Mm)
  | 0, _, _ => none
  | n + 1, b1, mem => if 3 ≤ b1 then some (0, mem) else if inb (b1 + 1) 4 = true then if inb b1 4 = true then lt ((mem 98 (ix (b1 + 1))) - (mem 98 (ix b1))) fun x_32 => lt (if x_32 = (mem 91 8) - (mem 91 9) then (1 : Int32) else 0) fun x_51 => bp (f_M_takesKey_L55 N b1 x_32 x_51 0 mem) fun y_55 => if y_55.1 = 0 then f_M_takesKey_L12 N n (b1 + 1) mem else lt (mst mem 91 13 b1) fun m_112 => bp (f_M_go N m_112) fun m_116 => some (1, m_116) else none else none
def f_M_takesKey (N : Nat)  (mem : Mm) : Option (Int32 × Mm) := if mem 91 10 = 1 then f_M_takesKey_L12 N N 0 mem else some (0, mem)
theorem L_M_takesKey_55 {X : Cx} {E : En} (S : Std X E prog_9_method_56_code R6 5 2)  {mem : Mm} : ∀ (n : Nat) (b1 : Int32) (b2 : Int32) (b3 : Int32) (b4 : Int32) (z : Int32 × Int32), f_M_takesKey_L55 n b1 b2 b3 b4 mem = some z → J X E 5 106 [(0, .ref (eb E + 91)), (1, .int b1), (2, .int b2), (3, .int z.1), (4, .int z.2)] [] SH mem → J X E 5 55 [(0, .ref (eb E + 91)), (1, .int b1), (2, .int b2), (3, .int b3), (4, .int b4)] [] SH mem := by
  intro n
  induction n with
  | zero =>
    intro b1 b2 b3 b4 z h hk; cases h
  | succ n ih =>
    intro b1 b2 b3 b4 z h hk
    rw [f_M_takesKey_L55] at h
    refine j_iload S D_M_takesKey_55 4 rfl ?_
    refine j_iload_n S D_M_takesKey_57 2 rfl rfl ?_
    refine j_icmp_ge S D_M_takesKey_58 (fun c_58 => ?_) (fun c_58 => ?_)
    · have h := ifT c_58 h
      cases h
      exact j_locals [0, 1, 2, 3, 4] rfl hk
    · have h := ifF c_58 h
      refine j_iload_n S D_M_takesKey_61 3 rfl rfl ?_
      refine j_if_eq S D_M_takesKey_62 (fun c_62 => ?_) (fun c_62 => ?_)
      · have h := ifT c_62 h
        cases h
        exact j_locals [0, 1, 2, 3, 4] rfl hk
      · have h := ifF c_62 h
        refine j_aload_n S D_M_takesKey_65 0 rfl rfl ?_
        refine j_getR S D_M_takesKey_66 fl_R6_26 sh_Mod rfl ?_
        refine j_aload_n S D_M_takesKey_69 0 rfl rfl ?_
        refine j_getI S D_M_takesKey_70 fl_R6_183 sh_Mod rfl ?_
        refine j_iload S D_M_takesKey_73 4 rfl ?_
        refine j_iadd S D_M_takesKey_75 ?_
        obtain ⟨g_76, h⟩ := gdE h
        refine j_iald S D_M_takesKey_76 sh_96 g_76 ?_
        refine j_aload_n S D_M_takesKey_77 0 rfl rfl ?_
        refine j_getR S D_M_takesKey_78 fl_R6_29 sh_Mod rfl ?_
        refine j_aload_n S D_M_takesKey_81 0 rfl rfl ?_
        refine j_getR S D_M_takesKey_82 fl_R6_33 sh_Mod rfl ?_
        refine j_iload_n S D_M_takesKey_85 1 rfl rfl ?_
        obtain ⟨g_86, h⟩ := gdE h
        refine j_iald S D_M_takesKey_86 sh_98 g_86 ?_
        refine j_iload S D_M_takesKey_87 4 rfl ?_
        refine j_iadd S D_M_takesKey_89 ?_
        obtain ⟨g_90, h⟩ := gdE h
        refine j_cald S D_M_takesKey_90 sh_97 g_90 ?_
        refine j_dia (P := J X E 5 99 [(0, .ref (eb E + 91)), (1, .int b1), (2, .int b2), (3, .int b3), (4, .int b4)] [.int (if mem 96 (ix ((mem 91 9) + b4)) = mem 97 (ix ((mem 98 (ix b1)) + b4)) then (1 : Int32) else 0)] SH mem) (fun hj => ?_) ?_
        · refine j_icmp_ne S D_M_takesKey_91 (fun c_91 => ?_) (fun c_91 => ?_)
          · refine j_iconst S D_M_takesKey_98 ci_0 ?_
            exact j_jnF hj c_91
          · refine j_iconst S D_M_takesKey_94 ci_1 ?_
            refine j_goto S D_M_takesKey_95 ?_
            exact j_jnT hj c_91
        obtain ⟨x_99, hx_99, h⟩ := ltE h
        refine j_nm hx_99 ?_
        refine j_istore_n S D_M_takesKey_99 (lv := [(3, .int x_99), (0, .ref (eb E + 91)), (1, .int b1), (2, .int b2), (4, .int b4)]) rfl ⟨rfl, (Nat.le_of_ble_eq_true rfl)⟩ ?_
        refine j_iinc S D_M_takesKey_100 4 rfl (congrArg (fun z => b4 + z) ci_1) (lv := [(4, .int (b4 + 1)), (3, .int x_99), (0, .ref (eb E + 91)), (1, .int b1), (2, .int b2)]) rfl (Nat.le_of_ble_eq_true rfl) ?_
        refine j_goto S D_M_takesKey_103 ?_
        refine j_locals [2, 3, 4, 1, 0] rfl (ih b1 b2 x_99 (b4 + 1) _ h hk)
theorem L_M_takesKey_12 {X : Cx} {E : En} (S : Std X E prog_9_method_56_code R6 5 2) (N : Nat)  {r : Int32} {m2 : Mm} (hR : isb r = true → RetI X E prog_9_method_56_code 5 SH r m2) : ∀ (n : Nat) (b1 : Int32) (mem : Mm), f_M_takesKey_L12 N n b1 mem = some (r, m2) → J X E 5 12 [(0, .ref (eb E + 91)), (1, .int b1)] [] SH mem := by
  intro n
  induction n with
  | zero =>
    intro b1 mem h; cases h
  | succ n ih =>
    intro b1 mem h
    rw [f_M_takesKey_L12] at h
    refine j_iload_n S D_M_takesKey_12 1 rfl rfl ?_
    refine j_iconst S D_M_takesKey_13 ci_3 ?_
    refine j_icmp_ge S D_M_takesKey_14 (fun c_14 => ?_) (fun c_14 => ?_)
    · have h := ifT c_14 h
      refine j_iconst S D_M_takesKey_127 ci_0 ?_
      exact rtMZ hR h isb0 _ _ D_M_takesKey_128
    · have h := ifF c_14 h
      refine j_aload_n S D_M_takesKey_17 0 rfl rfl ?_
      refine j_getR S D_M_takesKey_18 fl_R6_33 sh_Mod rfl ?_
      refine j_iload_n S D_M_takesKey_21 1 rfl rfl ?_
      refine j_iconst S D_M_takesKey_22 ci_1 ?_
      refine j_iadd S D_M_takesKey_23 ?_
      obtain ⟨g_24, h⟩ := gdE h
      refine j_iald S D_M_takesKey_24 sh_98 g_24 ?_
      refine j_aload_n S D_M_takesKey_25 0 rfl rfl ?_
      refine j_getR S D_M_takesKey_26 fl_R6_33 sh_Mod rfl ?_
      refine j_iload_n S D_M_takesKey_29 1 rfl rfl ?_
      obtain ⟨g_30, h⟩ := gdE h
      refine j_iald S D_M_takesKey_30 sh_98 g_30 ?_
      refine j_isub S D_M_takesKey_31 ?_
      obtain ⟨x_32, hx_32, h⟩ := ltE h
      refine j_nm hx_32 ?_
      refine j_istore_n S D_M_takesKey_32 (lv := [(2, .int x_32), (0, .ref (eb E + 91)), (1, .int b1)]) rfl ⟨rfl, (Nat.le_of_ble_eq_true rfl)⟩ ?_
      refine j_iload_n S D_M_takesKey_33 0 rfl rfl ?_
      refine j_aload_n S D_M_takesKey_34 1 rfl rfl ?_
      refine j_getI S D_M_takesKey_35 fl_R6_180 sh_Mod rfl ?_
      refine j_aload_n S D_M_takesKey_38 1 rfl rfl ?_
      refine j_getI S D_M_takesKey_39 fl_R6_183 sh_Mod rfl ?_
      refine j_isub S D_M_takesKey_42 ?_
      refine j_dia (P := J X E 5 51 [(2, .int x_32), (0, .ref (eb E + 91)), (1, .int b1)] [.int (if x_32 = (mem 91 8) - (mem 91 9) then (1 : Int32) else 0)] SH mem) (fun hj => ?_) ?_
      · refine j_icmp_ne S D_M_takesKey_43 (fun c_43 => ?_) (fun c_43 => ?_)
        · refine j_iconst S D_M_takesKey_50 ci_0 ?_
          exact j_jnF hj c_43
        · refine j_iconst S D_M_takesKey_46 ci_1 ?_
          refine j_goto S D_M_takesKey_47 ?_
          exact j_jnT hj c_43
      obtain ⟨x_51, hx_51, h⟩ := ltE h
      refine j_nm hx_51 ?_
      refine j_istore_n S D_M_takesKey_51 (lv := [(3, .int x_51), (2, .int x_32), (0, .ref (eb E + 91)), (1, .int b1)]) rfl ⟨rfl, (Nat.le_of_ble_eq_true rfl)⟩ ?_
      refine j_iconst S D_M_takesKey_52 ci_0 ?_
      refine j_istore S D_M_takesKey_53 (lv := [(4, .int 0), (3, .int x_51), (2, .int x_32), (0, .ref (eb E + 91)), (1, .int b1)]) rfl (Nat.le_of_ble_eq_true rfl) ?_
      refine j_locals [3, 4, 2, 1, 0] rfl ?_
      obtain ⟨y_55, e_55, h⟩ := bpE h
      refine L_M_takesKey_55 S  N b1 x_32 x_51 0 _ e_55 ?_
      refine j_iload_n S D_M_takesKey_106 3 rfl rfl ?_
      refine j_if_eq S D_M_takesKey_107 (fun c_107 => ?_) (fun c_107 => ?_)
      · have h := ifT c_107 h
        refine j_iinc S D_M_takesKey_121 1 rfl (congrArg (fun z => b1 + z) ci_1) (lv := [(1, .int (b1 + 1)), (0, .ref (eb E + 91)), (2, .int x_32), (3, .int y_55.1), (4, .int y_55.2)]) rfl (Nat.le_of_ble_eq_true rfl) ?_
        refine j_goto S D_M_takesKey_124 ?_
        refine j_locals [1, 0] rfl (ih (b1 + 1) mem h)
      · have h := ifF c_107 h
        refine j_aload_n S D_M_takesKey_110 0 rfl rfl ?_
        refine j_iload_n S D_M_takesKey_111 1 rfl rfl ?_
        obtain ⟨m_112, hm_112, h⟩ := ltE h
        refine j_putI S D_M_takesKey_112 fp_R6_201 sh_Mod rfl ?_
        refine j_mem hm_112 ?_
        refine j_aload_n S D_M_takesKey_115 0 rfl rfl ?_
        obtain ⟨m_116, e_116, h⟩ := bpE h
        refine j_callVV (As := []) S D_M_takesKey_116 mv_R6_204 (c_M_go (cxL X) E N e_116) (by decide) sh_Mod rfl rfl rfl rfl (Nat.le_of_ble_eq_true rfl) ?_
        refine j_iconst S D_M_takesKey_119 ci_1 ?_
        exact rtMZ hR h isb1 _ _ D_M_takesKey_120
theorem c_M_takesKey (l : Launch) (E : En) (N : Nat)  {mem : Mm} {r : Int32} {m2 : Mm} (h : f_M_takesKey N mem = some (r, m2)) : CtI l E 2 y_M_takesKey prog_9_method_56_code 5 (some .boolean) [.ref (eb E + 91)] SH mem r m2 := by
  refine mk_CtZ ⟨by decide, (Nat.le_of_ble_eq_true rfl)⟩ (fun X S hl hR => ?_)
  have S : Std X E prog_9_method_56_code R6 5 2 := S
  show J X E 5 0 [(0, .ref (eb E + 91))] [] SH mem
  unfold f_M_takesKey at h
  refine j_aload_n S D_M_takesKey_0 0 rfl rfl ?_
  refine j_getI S D_M_takesKey_1 fl_R6_189 sh_Mod rfl ?_
  refine j_iconst S D_M_takesKey_4 ci_1 ?_
  refine j_icmp_eq S D_M_takesKey_5 (fun c_5 => ?_) (fun c_5 => ?_)
  · have h := ifT c_5 h
    refine j_iconst S D_M_takesKey_10 ci_0 ?_
    refine j_istore_n S D_M_takesKey_11 (lv := [(1, .int 0), (0, .ref (eb E + 91))]) rfl ⟨rfl, (Nat.le_of_ble_eq_true rfl)⟩ ?_
    refine j_locals [1, 0] rfl ?_
    exact L_M_takesKey_12 S N hR N 0 mem h
  · have h := ifF c_5 h
    refine j_iconst S D_M_takesKey_8 ci_0 ?_
    exact rtMZ hR h isb0 _ _ D_M_takesKey_9

def y_M_nameOf : MethodName := ⟨"SandPictureModel", "nameOf", "(I)I"⟩
theorem D_M_nameOf_0 : decode prog_9_method_57_code 0 = .ok (.aload_n 0, 1) ∧ 0 + 1 = 1 := by decide +kernel
theorem D_M_nameOf_1 : decode prog_9_method_57_code 1 = .ok (.getfield 201, 3) ∧ 1 + 3 = 4 := by decide +kernel
theorem D_M_nameOf_4 : decode prog_9_method_57_code 4 = .ok (.lookupswitch 92 #[(0, 28), (1, 60)], 28) := by decide +kernel
theorem D_M_nameOf_32 : decode prog_9_method_57_code 32 = .ok (.iload_n 1, 1) ∧ 32 + 1 = 33 := by decide +kernel
theorem D_M_nameOf_33 : decode prog_9_method_57_code 33 = .ok (.bipush 112, 2) ∧ 33 + 2 = 35 := by decide +kernel
theorem D_M_nameOf_42 : decode prog_9_method_57_code 42 = .ok (.iload_n 1, 1) ∧ 42 + 1 = 43 := by decide +kernel
theorem D_M_nameOf_43 : decode prog_9_method_57_code 43 = .ok (.bipush 100, 2) ∧ 43 + 2 = 45 := by decide +kernel
theorem D_M_nameOf_52 : decode prog_9_method_57_code 52 = .ok (.iload_n 1, 1) ∧ 52 + 1 = 53 := by decide +kernel
theorem D_M_nameOf_53 : decode prog_9_method_57_code 53 = .ok (.bipush 120, 2) ∧ 53 + 2 = 55 := by decide +kernel
theorem D_M_nameOf_62 : decode prog_9_method_57_code 62 = .ok (.iconst (-1), 1) ∧ 62 + 1 = 63 := by decide +kernel
theorem D_M_nameOf_58 : decode prog_9_method_57_code 58 = .ok (.iconst 2, 1) ∧ 58 + 1 = 59 := by decide +kernel
theorem D_M_nameOf_59 : decode prog_9_method_57_code 59 = .ok (.goto 4, 3) ∧ ((59 : Nat) : Int) + 4 = ((63 : Nat) : Int) := by decide +kernel
theorem D_M_nameOf_55 : decode prog_9_method_57_code 55 = .ok (.if_icmp .ne 7, 3) ∧ ((55 : Nat) : Int) + 7 = ((62 : Nat) : Int) ∧ 55 + 3 = 58 := by decide +kernel
theorem D_M_nameOf_48 : decode prog_9_method_57_code 48 = .ok (.iconst 1, 1) ∧ 48 + 1 = 49 := by decide +kernel
theorem D_M_nameOf_49 : decode prog_9_method_57_code 49 = .ok (.goto 14, 3) ∧ ((49 : Nat) : Int) + 14 = ((63 : Nat) : Int) := by decide +kernel
theorem D_M_nameOf_45 : decode prog_9_method_57_code 45 = .ok (.if_icmp .ne 7, 3) ∧ ((45 : Nat) : Int) + 7 = ((52 : Nat) : Int) ∧ 45 + 3 = 48 := by decide +kernel
theorem D_M_nameOf_38 : decode prog_9_method_57_code 38 = .ok (.iconst 0, 1) ∧ 38 + 1 = 39 := by decide +kernel
theorem D_M_nameOf_39 : decode prog_9_method_57_code 39 = .ok (.goto 24, 3) ∧ ((39 : Nat) : Int) + 24 = ((63 : Nat) : Int) := by decide +kernel
theorem D_M_nameOf_35 : decode prog_9_method_57_code 35 = .ok (.if_icmp .ne 7, 3) ∧ ((35 : Nat) : Int) + 7 = ((42 : Nat) : Int) ∧ 35 + 3 = 38 := by decide +kernel
theorem D_M_nameOf_63 : decode prog_9_method_57_code 63 = .ok (.ireturn, 1) := by decide +kernel
theorem D_M_nameOf_64 : decode prog_9_method_57_code 64 = .ok (.iload_n 1, 1) ∧ 64 + 1 = 65 := by decide +kernel
theorem D_M_nameOf_65 : decode prog_9_method_57_code 65 = .ok (.bipush 100, 2) ∧ 65 + 2 = 67 := by decide +kernel
theorem D_M_nameOf_74 : decode prog_9_method_57_code 74 = .ok (.iload_n 1, 1) ∧ 74 + 1 = 75 := by decide +kernel
theorem D_M_nameOf_75 : decode prog_9_method_57_code 75 = .ok (.bipush 102, 2) ∧ 75 + 2 = 77 := by decide +kernel
theorem D_M_nameOf_84 : decode prog_9_method_57_code 84 = .ok (.iload_n 1, 1) ∧ 84 + 1 = 85 := by decide +kernel
theorem D_M_nameOf_85 : decode prog_9_method_57_code 85 = .ok (.bipush 119, 2) ∧ 85 + 2 = 87 := by decide +kernel
theorem D_M_nameOf_94 : decode prog_9_method_57_code 94 = .ok (.iconst (-1), 1) ∧ 94 + 1 = 95 := by decide +kernel
theorem D_M_nameOf_90 : decode prog_9_method_57_code 90 = .ok (.iconst 2, 1) ∧ 90 + 1 = 91 := by decide +kernel
theorem D_M_nameOf_91 : decode prog_9_method_57_code 91 = .ok (.goto 4, 3) ∧ ((91 : Nat) : Int) + 4 = ((95 : Nat) : Int) := by decide +kernel
theorem D_M_nameOf_87 : decode prog_9_method_57_code 87 = .ok (.if_icmp .ne 7, 3) ∧ ((87 : Nat) : Int) + 7 = ((94 : Nat) : Int) ∧ 87 + 3 = 90 := by decide +kernel
theorem D_M_nameOf_80 : decode prog_9_method_57_code 80 = .ok (.iconst 1, 1) ∧ 80 + 1 = 81 := by decide +kernel
theorem D_M_nameOf_81 : decode prog_9_method_57_code 81 = .ok (.goto 14, 3) ∧ ((81 : Nat) : Int) + 14 = ((95 : Nat) : Int) := by decide +kernel
theorem D_M_nameOf_77 : decode prog_9_method_57_code 77 = .ok (.if_icmp .ne 7, 3) ∧ ((77 : Nat) : Int) + 7 = ((84 : Nat) : Int) ∧ 77 + 3 = 80 := by decide +kernel
theorem D_M_nameOf_70 : decode prog_9_method_57_code 70 = .ok (.iconst 0, 1) ∧ 70 + 1 = 71 := by decide +kernel
theorem D_M_nameOf_71 : decode prog_9_method_57_code 71 = .ok (.goto 24, 3) ∧ ((71 : Nat) : Int) + 24 = ((95 : Nat) : Int) := by decide +kernel
theorem D_M_nameOf_67 : decode prog_9_method_57_code 67 = .ok (.if_icmp .ne 7, 3) ∧ ((67 : Nat) : Int) + 7 = ((74 : Nat) : Int) ∧ 67 + 3 = 70 := by decide +kernel
theorem D_M_nameOf_95 : decode prog_9_method_57_code 95 = .ok (.ireturn, 1) := by decide +kernel
theorem D_M_nameOf_96 : decode prog_9_method_57_code 96 = .ok (.iload_n 1, 1) ∧ 96 + 1 = 97 := by decide +kernel
theorem D_M_nameOf_97 : decode prog_9_method_57_code 97 = .ok (.bipush 104, 2) ∧ 97 + 2 = 99 := by decide +kernel
theorem D_M_nameOf_106 : decode prog_9_method_57_code 106 = .ok (.iload_n 1, 1) ∧ 106 + 1 = 107 := by decide +kernel
theorem D_M_nameOf_107 : decode prog_9_method_57_code 107 = .ok (.bipush 115, 2) ∧ 107 + 2 = 109 := by decide +kernel
theorem D_M_nameOf_116 : decode prog_9_method_57_code 116 = .ok (.iconst (-1), 1) ∧ 116 + 1 = 117 := by decide +kernel
theorem D_M_nameOf_112 : decode prog_9_method_57_code 112 = .ok (.iconst 1, 1) ∧ 112 + 1 = 113 := by decide +kernel
theorem D_M_nameOf_113 : decode prog_9_method_57_code 113 = .ok (.goto 4, 3) ∧ ((113 : Nat) : Int) + 4 = ((117 : Nat) : Int) := by decide +kernel
theorem D_M_nameOf_109 : decode prog_9_method_57_code 109 = .ok (.if_icmp .ne 7, 3) ∧ ((109 : Nat) : Int) + 7 = ((116 : Nat) : Int) ∧ 109 + 3 = 112 := by decide +kernel
theorem D_M_nameOf_102 : decode prog_9_method_57_code 102 = .ok (.iconst 0, 1) ∧ 102 + 1 = 103 := by decide +kernel
theorem D_M_nameOf_103 : decode prog_9_method_57_code 103 = .ok (.goto 14, 3) ∧ ((103 : Nat) : Int) + 14 = ((117 : Nat) : Int) := by decide +kernel
theorem D_M_nameOf_99 : decode prog_9_method_57_code 99 = .ok (.if_icmp .ne 7, 3) ∧ ((99 : Nat) : Int) + 7 = ((106 : Nat) : Int) ∧ 99 + 3 = 102 := by decide +kernel
theorem D_M_nameOf_117 : decode prog_9_method_57_code 117 = .ok (.ireturn, 1) := by decide +kernel
def f_M_nameOf (a1 : Int32) (mem : Mm) : Option (Int32) := if mem 91 13 = 0 then some (if a1 = 112 then (0 : Int32) else if a1 = 100 then (1 : Int32) else if a1 = 120 then (2 : Int32) else (-1)) else if mem 91 13 = 1 then some (if a1 = 100 then (0 : Int32) else if a1 = 102 then (1 : Int32) else if a1 = 119 then (2 : Int32) else (-1)) else some (if a1 = 104 then (0 : Int32) else if a1 = 115 then (1 : Int32) else (-1))
theorem c_M_nameOf (l : Launch) (E : En) (a1 : Int32) {mem : Mm} {r : Int32} (h : f_M_nameOf a1 mem = some r) : CtI l E 0 y_M_nameOf prog_9_method_57_code 2 (some .int) [.ref (eb E + 91), .int a1] SH mem r mem := by
  refine mk_CtI ⟨by decide, (Nat.le_of_ble_eq_true rfl)⟩ (fun X S hl hR => ?_)
  have S : Std X E prog_9_method_57_code R6 2 0 := S
  show J X E 2 0 [(0, .ref (eb E + 91)), (1, .int a1)] [] SH mem
  unfold f_M_nameOf at h
  refine j_aload_n S D_M_nameOf_0 0 rfl rfl ?_
  refine j_getI S D_M_nameOf_1 fl_R6_201 sh_Mod rfl ?_
  by_cases c_4_0 : mem 91 13 = 0
  · have h := ifT c_4_0 h
    refine j_lookE (tg := 32) (off := 28) S D_M_nameOf_4 0 c_4_0 (by decide +kernel) ?_
    refine j_iload_n S D_M_nameOf_32 1 rfl rfl ?_
    refine j_bipush S D_M_nameOf_33 cb_112 ?_
    refine j_dia (P := J X E 2 63 [(0, .ref (eb E + 91)), (1, .int a1)] [.int (if a1 = 112 then (0 : Int32) else if a1 = 100 then (1 : Int32) else if a1 = 120 then (2 : Int32) else (-1))] SH mem) (fun hj => ?_) ?_
    · refine j_icmp_ne S D_M_nameOf_35 (fun c_35 => ?_) (fun c_35 => ?_)
      · refine j_iload_n S D_M_nameOf_42 1 rfl rfl ?_
        refine j_bipush S D_M_nameOf_43 cb_100 ?_
        refine j_dia (P := J X E 2 63 [(0, .ref (eb E + 91)), (1, .int a1)] [.int (if a1 = 100 then (1 : Int32) else if a1 = 120 then (2 : Int32) else (-1))] SH mem) (fun hj => ?_) ?_
        · refine j_icmp_ne S D_M_nameOf_45 (fun c_45 => ?_) (fun c_45 => ?_)
          · refine j_iload_n S D_M_nameOf_52 1 rfl rfl ?_
            refine j_bipush S D_M_nameOf_53 cb_120 ?_
            refine j_dia (P := J X E 2 63 [(0, .ref (eb E + 91)), (1, .int a1)] [.int (if a1 = 120 then (2 : Int32) else (-1))] SH mem) (fun hj => ?_) ?_
            · refine j_icmp_ne S D_M_nameOf_55 (fun c_55 => ?_) (fun c_55 => ?_)
              · refine j_iconst S D_M_nameOf_62 ci_m1 ?_
                exact j_jnF hj c_55
              · refine j_iconst S D_M_nameOf_58 ci_2 ?_
                refine j_goto S D_M_nameOf_59 ?_
                exact j_jnT hj c_55
            exact j_jnF hj c_45
          · refine j_iconst S D_M_nameOf_48 ci_1 ?_
            refine j_goto S D_M_nameOf_49 ?_
            exact j_jnT hj c_45
        exact j_jnF hj c_35
      · refine j_iconst S D_M_nameOf_38 ci_0 ?_
        refine j_goto S D_M_nameOf_39 ?_
        exact j_jnT hj c_35
    exact rtI hR h _ _ D_M_nameOf_63
  · have h := ifF c_4_0 h
    by_cases c_4_1 : mem 91 13 = 1
    · have h := ifT c_4_1 h
      refine j_lookE (tg := 64) (off := 60) S D_M_nameOf_4 1 c_4_1 (by decide +kernel) ?_
      refine j_iload_n S D_M_nameOf_64 1 rfl rfl ?_
      refine j_bipush S D_M_nameOf_65 cb_100 ?_
      refine j_dia (P := J X E 2 95 [(0, .ref (eb E + 91)), (1, .int a1)] [.int (if a1 = 100 then (0 : Int32) else if a1 = 102 then (1 : Int32) else if a1 = 119 then (2 : Int32) else (-1))] SH mem) (fun hj => ?_) ?_
      · refine j_icmp_ne S D_M_nameOf_67 (fun c_67 => ?_) (fun c_67 => ?_)
        · refine j_iload_n S D_M_nameOf_74 1 rfl rfl ?_
          refine j_bipush S D_M_nameOf_75 cb_102 ?_
          refine j_dia (P := J X E 2 95 [(0, .ref (eb E + 91)), (1, .int a1)] [.int (if a1 = 102 then (1 : Int32) else if a1 = 119 then (2 : Int32) else (-1))] SH mem) (fun hj => ?_) ?_
          · refine j_icmp_ne S D_M_nameOf_77 (fun c_77 => ?_) (fun c_77 => ?_)
            · refine j_iload_n S D_M_nameOf_84 1 rfl rfl ?_
              refine j_bipush S D_M_nameOf_85 cb_119 ?_
              refine j_dia (P := J X E 2 95 [(0, .ref (eb E + 91)), (1, .int a1)] [.int (if a1 = 119 then (2 : Int32) else (-1))] SH mem) (fun hj => ?_) ?_
              · refine j_icmp_ne S D_M_nameOf_87 (fun c_87 => ?_) (fun c_87 => ?_)
                · refine j_iconst S D_M_nameOf_94 ci_m1 ?_
                  exact j_jnF hj c_87
                · refine j_iconst S D_M_nameOf_90 ci_2 ?_
                  refine j_goto S D_M_nameOf_91 ?_
                  exact j_jnT hj c_87
              exact j_jnF hj c_77
            · refine j_iconst S D_M_nameOf_80 ci_1 ?_
              refine j_goto S D_M_nameOf_81 ?_
              exact j_jnT hj c_77
          exact j_jnF hj c_67
        · refine j_iconst S D_M_nameOf_70 ci_0 ?_
          refine j_goto S D_M_nameOf_71 ?_
          exact j_jnT hj c_67
      exact rtI hR h _ _ D_M_nameOf_95
    · have h := ifF c_4_1 h
      refine j_look (tg := 96) S D_M_nameOf_4 (by decide +kernel) (by show Op.lookupswitch.offset [(0, 28), (1, 60)] 92 (mem 91 13 : Int32).toInt = 92; rw [lv_osw c_4_0 (by decide +kernel), lv_osw c_4_1 (by decide +kernel)]; rfl) rfl ?_
      refine j_iload_n S D_M_nameOf_96 1 rfl rfl ?_
      refine j_bipush S D_M_nameOf_97 cb_104 ?_
      refine j_dia (P := J X E 2 117 [(0, .ref (eb E + 91)), (1, .int a1)] [.int (if a1 = 104 then (0 : Int32) else if a1 = 115 then (1 : Int32) else (-1))] SH mem) (fun hj => ?_) ?_
      · refine j_icmp_ne S D_M_nameOf_99 (fun c_99 => ?_) (fun c_99 => ?_)
        · refine j_iload_n S D_M_nameOf_106 1 rfl rfl ?_
          refine j_bipush S D_M_nameOf_107 cb_115 ?_
          refine j_dia (P := J X E 2 117 [(0, .ref (eb E + 91)), (1, .int a1)] [.int (if a1 = 115 then (1 : Int32) else (-1))] SH mem) (fun hj => ?_) ?_
          · refine j_icmp_ne S D_M_nameOf_109 (fun c_109 => ?_) (fun c_109 => ?_)
            · refine j_iconst S D_M_nameOf_116 ci_m1 ?_
              exact j_jnF hj c_109
            · refine j_iconst S D_M_nameOf_112 ci_1 ?_
              refine j_goto S D_M_nameOf_113 ?_
              exact j_jnT hj c_109
          exact j_jnF hj c_99
        · refine j_iconst S D_M_nameOf_102 ci_0 ?_
          refine j_goto S D_M_nameOf_103 ?_
          exact j_jnT hj c_99
      exact rtI hR h _ _ D_M_nameOf_117

def y_M_rank : MethodName := ⟨"SandPictureModel", "rank", "(I)I"⟩
theorem D_M_rank_0 : decode prog_9_method_58_code 0 = .ok (.iload_n 0, 1) ∧ 0 + 1 = 1 := by decide +kernel
theorem D_M_rank_1 : decode prog_9_method_58_code 1 = .ok (.iconst (-1), 1) ∧ 1 + 1 = 2 := by decide +kernel
theorem D_M_rank_9 : decode prog_9_method_58_code 9 = .ok (.iload_n 0, 1) ∧ 9 + 1 = 10 := by decide +kernel
theorem D_M_rank_10 : decode prog_9_method_58_code 10 = .ok (.bipush (-2), 2) ∧ 10 + 2 = 12 := by decide +kernel
theorem D_M_rank_19 : decode prog_9_method_58_code 19 = .ok (.iload_n 0, 1) ∧ 19 + 1 = 20 := by decide +kernel
theorem D_M_rank_20 : decode prog_9_method_58_code 20 = .ok (.bipush (-5), 2) ∧ 20 + 2 = 22 := by decide +kernel
theorem D_M_rank_29 : decode prog_9_method_58_code 29 = .ok (.iload_n 0, 1) ∧ 29 + 1 = 30 := by decide +kernel
theorem D_M_rank_30 : decode prog_9_method_58_code 30 = .ok (.bipush (-7), 2) ∧ 30 + 2 = 32 := by decide +kernel
theorem D_M_rank_39 : decode prog_9_method_58_code 39 = .ok (.iload_n 0, 1) ∧ 39 + 1 = 40 := by decide +kernel
theorem D_M_rank_40 : decode prog_9_method_58_code 40 = .ok (.bipush (-9), 2) ∧ 40 + 2 = 42 := by decide +kernel
theorem D_M_rank_49 : decode prog_9_method_58_code 49 = .ok (.bipush 6, 2) ∧ 49 + 2 = 51 := by decide +kernel
theorem D_M_rank_45 : decode prog_9_method_58_code 45 = .ok (.iconst 5, 1) ∧ 45 + 1 = 46 := by decide +kernel
theorem D_M_rank_46 : decode prog_9_method_58_code 46 = .ok (.goto 5, 3) ∧ ((46 : Nat) : Int) + 5 = ((51 : Nat) : Int) := by decide +kernel
theorem D_M_rank_42 : decode prog_9_method_58_code 42 = .ok (.if_icmp .lt 7, 3) ∧ ((42 : Nat) : Int) + 7 = ((49 : Nat) : Int) ∧ 42 + 3 = 45 := by decide +kernel
theorem D_M_rank_35 : decode prog_9_method_58_code 35 = .ok (.iconst 4, 1) ∧ 35 + 1 = 36 := by decide +kernel
theorem D_M_rank_36 : decode prog_9_method_58_code 36 = .ok (.goto 15, 3) ∧ ((36 : Nat) : Int) + 15 = ((51 : Nat) : Int) := by decide +kernel
theorem D_M_rank_32 : decode prog_9_method_58_code 32 = .ok (.if_icmp .lt 7, 3) ∧ ((32 : Nat) : Int) + 7 = ((39 : Nat) : Int) ∧ 32 + 3 = 35 := by decide +kernel
theorem D_M_rank_25 : decode prog_9_method_58_code 25 = .ok (.iconst 3, 1) ∧ 25 + 1 = 26 := by decide +kernel
theorem D_M_rank_26 : decode prog_9_method_58_code 26 = .ok (.goto 25, 3) ∧ ((26 : Nat) : Int) + 25 = ((51 : Nat) : Int) := by decide +kernel
theorem D_M_rank_22 : decode prog_9_method_58_code 22 = .ok (.if_icmp .lt 7, 3) ∧ ((22 : Nat) : Int) + 7 = ((29 : Nat) : Int) ∧ 22 + 3 = 25 := by decide +kernel
theorem D_M_rank_15 : decode prog_9_method_58_code 15 = .ok (.iconst 2, 1) ∧ 15 + 1 = 16 := by decide +kernel
theorem D_M_rank_16 : decode prog_9_method_58_code 16 = .ok (.goto 35, 3) ∧ ((16 : Nat) : Int) + 35 = ((51 : Nat) : Int) := by decide +kernel
theorem D_M_rank_12 : decode prog_9_method_58_code 12 = .ok (.if_icmp .ne 7, 3) ∧ ((12 : Nat) : Int) + 7 = ((19 : Nat) : Int) ∧ 12 + 3 = 15 := by decide +kernel
theorem D_M_rank_5 : decode prog_9_method_58_code 5 = .ok (.iconst 1, 1) ∧ 5 + 1 = 6 := by decide +kernel
theorem D_M_rank_6 : decode prog_9_method_58_code 6 = .ok (.goto 45, 3) ∧ ((6 : Nat) : Int) + 45 = ((51 : Nat) : Int) := by decide +kernel
theorem D_M_rank_2 : decode prog_9_method_58_code 2 = .ok (.if_icmp .ne 7, 3) ∧ ((2 : Nat) : Int) + 7 = ((9 : Nat) : Int) ∧ 2 + 3 = 5 := by decide +kernel
theorem D_M_rank_51 : decode prog_9_method_58_code 51 = .ok (.ireturn, 1) := by decide +kernel
def f_M_rank (a1 : Int32) : Option (Int32) := some (if a1 = (-1) then (1 : Int32) else if a1 = (-2) then (2 : Int32) else if a1 < (-5) then if a1 < (-7) then if a1 < (-9) then (6 : Int32) else 5 else 4 else 3)
theorem c_M_rank (l : Launch) (E : En) (a1 : Int32) {mem : Mm} {r : Int32} (h : f_M_rank a1 = some r) : CtI l E 0 y_M_rank prog_9_method_58_code 1 (some .int) [.int a1] SH mem r mem := by
  refine mk_CtI ⟨by decide, (Nat.le_of_ble_eq_true rfl)⟩ (fun X S hl hR => ?_)
  have S : Std X E prog_9_method_58_code R6 1 0 := S
  show J X E 1 0 [(0, .int a1)] [] SH mem
  unfold f_M_rank at h
  refine j_iload_n S D_M_rank_0 0 rfl rfl ?_
  refine j_iconst S D_M_rank_1 ci_m1 ?_
  refine j_dia (P := J X E 1 51 [(0, .int a1)] [.int (if a1 = (-1) then (1 : Int32) else if a1 = (-2) then (2 : Int32) else if a1 < (-5) then if a1 < (-7) then if a1 < (-9) then (6 : Int32) else 5 else 4 else 3)] SH mem) (fun hj => ?_) ?_
  · refine j_icmp_ne S D_M_rank_2 (fun c_2 => ?_) (fun c_2 => ?_)
    · refine j_iload_n S D_M_rank_9 0 rfl rfl ?_
      refine j_bipush S D_M_rank_10 cb_m2 ?_
      refine j_dia (P := J X E 1 51 [(0, .int a1)] [.int (if a1 = (-2) then (2 : Int32) else if a1 < (-5) then if a1 < (-7) then if a1 < (-9) then (6 : Int32) else 5 else 4 else 3)] SH mem) (fun hj => ?_) ?_
      · refine j_icmp_ne S D_M_rank_12 (fun c_12 => ?_) (fun c_12 => ?_)
        · refine j_iload_n S D_M_rank_19 0 rfl rfl ?_
          refine j_bipush S D_M_rank_20 cb_m5 ?_
          refine j_dia (P := J X E 1 51 [(0, .int a1)] [.int (if a1 < (-5) then if a1 < (-7) then if a1 < (-9) then (6 : Int32) else 5 else 4 else 3)] SH mem) (fun hj => ?_) ?_
          · refine j_icmp_lt S D_M_rank_22 (fun c_22 => ?_) (fun c_22 => ?_)
            · refine j_iload_n S D_M_rank_29 0 rfl rfl ?_
              refine j_bipush S D_M_rank_30 cb_m7 ?_
              refine j_dia (P := J X E 1 51 [(0, .int a1)] [.int (if a1 < (-7) then if a1 < (-9) then (6 : Int32) else 5 else 4)] SH mem) (fun hj => ?_) ?_
              · refine j_icmp_lt S D_M_rank_32 (fun c_32 => ?_) (fun c_32 => ?_)
                · refine j_iload_n S D_M_rank_39 0 rfl rfl ?_
                  refine j_bipush S D_M_rank_40 cb_m9 ?_
                  refine j_dia (P := J X E 1 51 [(0, .int a1)] [.int (if a1 < (-9) then (6 : Int32) else 5)] SH mem) (fun hj => ?_) ?_
                  · refine j_icmp_lt S D_M_rank_42 (fun c_42 => ?_) (fun c_42 => ?_)
                    · refine j_bipush S D_M_rank_49 cb_6 ?_
                      exact j_jnT hj c_42
                    · refine j_iconst S D_M_rank_45 ci_5 ?_
                      refine j_goto S D_M_rank_46 ?_
                      exact j_jnF hj c_42
                  exact j_jnT hj c_32
                · refine j_iconst S D_M_rank_35 ci_4 ?_
                  refine j_goto S D_M_rank_36 ?_
                  exact j_jnF hj c_32
              exact j_jnT hj c_22
            · refine j_iconst S D_M_rank_25 ci_3 ?_
              refine j_goto S D_M_rank_26 ?_
              exact j_jnF hj c_22
          exact j_jnF hj c_12
        · refine j_iconst S D_M_rank_15 ci_2 ?_
          refine j_goto S D_M_rank_16 ?_
          exact j_jnT hj c_12
      exact j_jnF hj c_2
    · refine j_iconst S D_M_rank_5 ci_1 ?_
      refine j_goto S D_M_rank_6 ?_
      exact j_jnT hj c_2
  exact rtI hR h _ _ D_M_rank_51

def y_M_settle : MethodName := ⟨"SandPictureModel", "settle", "(I)V"⟩
theorem D_M_settle_0 : decode prog_9_method_59_code 0 = .ok (.aload_n 0, 1) ∧ 0 + 1 = 1 := by decide +kernel
theorem D_M_settle_1 : decode prog_9_method_59_code 1 = .ok (.getfield 207, 3) ∧ 1 + 3 = 4 := by decide +kernel
theorem D_M_settle_4 : decode prog_9_method_59_code 4 = .ok (.ifCond .le 78, 3) ∧ ((4 : Nat) : Int) + 78 = ((82 : Nat) : Int) ∧ 4 + 3 = 7 := by decide +kernel
theorem D_M_settle_7 : decode prog_9_method_59_code 7 = .ok (.aload_n 0, 1) ∧ 7 + 1 = 8 := by decide +kernel
theorem D_M_settle_8 : decode prog_9_method_59_code 8 = .ok (.getfield 39, 3) ∧ 8 + 3 = 11 := by decide +kernel
theorem D_M_settle_11 : decode prog_9_method_59_code 11 = .ok (.aload_n 0, 1) ∧ 11 + 1 = 12 := by decide +kernel
theorem D_M_settle_12 : decode prog_9_method_59_code 12 = .ok (.getfield 207, 3) ∧ 12 + 3 = 15 := by decide +kernel
theorem D_M_settle_15 : decode prog_9_method_59_code 15 = .ok (.iconst 1, 1) ∧ 15 + 1 = 16 := by decide +kernel
theorem D_M_settle_16 : decode prog_9_method_59_code 16 = .ok (.isub, 1) ∧ 16 + 1 = 17 := by decide +kernel
theorem D_M_settle_17 : decode prog_9_method_59_code 17 = .ok (.iaload, 1) ∧ 17 + 1 = 18 := by decide +kernel
theorem D_M_settle_18 : decode prog_9_method_59_code 18 = .ok (.bipush (-11), 2) ∧ 18 + 2 = 20 := by decide +kernel
theorem D_M_settle_20 : decode prog_9_method_59_code 20 = .ok (.if_icmp .eq 62, 3) ∧ ((20 : Nat) : Int) + 62 = ((82 : Nat) : Int) ∧ 20 + 3 = 23 := by decide +kernel
theorem D_M_settle_23 : decode prog_9_method_59_code 23 = .ok (.aload_n 0, 1) ∧ 23 + 1 = 24 := by decide +kernel
theorem D_M_settle_24 : decode prog_9_method_59_code 24 = .ok (.getfield 39, 3) ∧ 24 + 3 = 27 := by decide +kernel
theorem D_M_settle_27 : decode prog_9_method_59_code 27 = .ok (.aload_n 0, 1) ∧ 27 + 1 = 28 := by decide +kernel
theorem D_M_settle_28 : decode prog_9_method_59_code 28 = .ok (.getfield 207, 3) ∧ 28 + 3 = 31 := by decide +kernel
theorem D_M_settle_31 : decode prog_9_method_59_code 31 = .ok (.iconst 1, 1) ∧ 31 + 1 = 32 := by decide +kernel
theorem D_M_settle_32 : decode prog_9_method_59_code 32 = .ok (.isub, 1) ∧ 32 + 1 = 33 := by decide +kernel
theorem D_M_settle_33 : decode prog_9_method_59_code 33 = .ok (.iaload, 1) ∧ 33 + 1 = 34 := by decide +kernel
theorem D_M_settle_34 : decode prog_9_method_59_code 34 = .ok (.invokestatic 210, 3) ∧ 34 + 3 = 37 := by decide +kernel
theorem D_M_settle_37 : decode prog_9_method_59_code 37 = .ok (.iload_n 1, 1) ∧ 37 + 1 = 38 := by decide +kernel
theorem D_M_settle_38 : decode prog_9_method_59_code 38 = .ok (.if_icmp .lt 44, 3) ∧ ((38 : Nat) : Int) + 44 = ((82 : Nat) : Int) ∧ 38 + 3 = 41 := by decide +kernel
theorem D_M_settle_41 : decode prog_9_method_59_code 41 = .ok (.aload_n 0, 1) ∧ 41 + 1 = 42 := by decide +kernel
theorem D_M_settle_42 : decode prog_9_method_59_code 42 = .ok (.dup, 1) ∧ 42 + 1 = 43 := by decide +kernel
theorem D_M_settle_43 : decode prog_9_method_59_code 43 = .ok (.getfield 207, 3) ∧ 43 + 3 = 46 := by decide +kernel
theorem D_M_settle_46 : decode prog_9_method_59_code 46 = .ok (.iconst 1, 1) ∧ 46 + 1 = 47 := by decide +kernel
theorem D_M_settle_47 : decode prog_9_method_59_code 47 = .ok (.isub, 1) ∧ 47 + 1 = 48 := by decide +kernel
theorem D_M_settle_48 : decode prog_9_method_59_code 48 = .ok (.putfield 207, 3) ∧ 48 + 3 = 51 := by decide +kernel
theorem D_M_settle_51 : decode prog_9_method_59_code 51 = .ok (.aload_n 0, 1) ∧ 51 + 1 = 52 := by decide +kernel
theorem D_M_settle_52 : decode prog_9_method_59_code 52 = .ok (.getfield 36, 3) ∧ 52 + 3 = 55 := by decide +kernel
theorem D_M_settle_55 : decode prog_9_method_59_code 55 = .ok (.aload_n 0, 1) ∧ 55 + 1 = 56 := by decide +kernel
theorem D_M_settle_56 : decode prog_9_method_59_code 56 = .ok (.getfield 213, 3) ∧ 56 + 3 = 59 := by decide +kernel
theorem D_M_settle_59 : decode prog_9_method_59_code 59 = .ok (.aload_n 0, 1) ∧ 59 + 1 = 60 := by decide +kernel
theorem D_M_settle_60 : decode prog_9_method_59_code 60 = .ok (.getfield 39, 3) ∧ 60 + 3 = 63 := by decide +kernel
theorem D_M_settle_63 : decode prog_9_method_59_code 63 = .ok (.aload_n 0, 1) ∧ 63 + 1 = 64 := by decide +kernel
theorem D_M_settle_64 : decode prog_9_method_59_code 64 = .ok (.getfield 207, 3) ∧ 64 + 3 = 67 := by decide +kernel
theorem D_M_settle_67 : decode prog_9_method_59_code 67 = .ok (.iaload, 1) ∧ 67 + 1 = 68 := by decide +kernel
theorem D_M_settle_68 : decode prog_9_method_59_code 68 = .ok (.iastore, 1) ∧ 68 + 1 = 69 := by decide +kernel
theorem D_M_settle_69 : decode prog_9_method_59_code 69 = .ok (.aload_n 0, 1) ∧ 69 + 1 = 70 := by decide +kernel
theorem D_M_settle_70 : decode prog_9_method_59_code 70 = .ok (.dup, 1) ∧ 70 + 1 = 71 := by decide +kernel
theorem D_M_settle_71 : decode prog_9_method_59_code 71 = .ok (.getfield 213, 3) ∧ 71 + 3 = 74 := by decide +kernel
theorem D_M_settle_74 : decode prog_9_method_59_code 74 = .ok (.iconst 1, 1) ∧ 74 + 1 = 75 := by decide +kernel
theorem D_M_settle_75 : decode prog_9_method_59_code 75 = .ok (.iadd, 1) ∧ 75 + 1 = 76 := by decide +kernel
theorem D_M_settle_76 : decode prog_9_method_59_code 76 = .ok (.putfield 213, 3) ∧ 76 + 3 = 79 := by decide +kernel
theorem D_M_settle_79 : decode prog_9_method_59_code 79 = .ok (.goto (-79), 3) ∧ ((79 : Nat) : Int) + (-79) = ((0 : Nat) : Int) := by decide +kernel
theorem D_M_settle_82 : decode prog_9_method_59_code 82 = .ok (.return_, 1) := by decide +kernel
def f_M_settle_L0  : Nat → Int32 → Mm → Option Mm
  | 0, _, _ => none
  | n + 1, b1, mem => if mem 91 20 ≤ 0 then some mem else if inb ((mem 91 20) - 1) 96 = true then if mem 100 (ix ((mem 91 20) - 1)) = (-11) then some mem else bp (f_M_rank (mem 100 (ix ((mem 91 20) - 1)))) fun r_34 => if r_34 < b1 then some mem else lt (mst mem 91 20 ((mem 91 20) - 1)) fun m_48 => if inb (m_48 91 20) 96 = true then if inb (m_48 91 17) 96 = true then lt (mst m_48 99 (ix (m_48 91 17)) (m_48 100 (ix (m_48 91 20)))) fun m_68 => lt (mst m_68 91 17 ((m_68 91 17) + 1)) fun m_76 => f_M_settle_L0 n b1 m_76 else none else none else none
def f_M_settle (N : Nat) (a1 : Int32) (mem : Mm) : Option (Mm) := bp (f_M_settle_L0 N a1 mem) fun m_0 => some m_0
theorem L_M_settle_0 {X : Cx} {E : En} (S : Std X E prog_9_method_59_code R6 2 1)  : ∀ (n : Nat) (b1 : Int32) (mem : Mm) (m2 : Mm), f_M_settle_L0 n b1 mem = some m2 → J X E 2 82 [(0, .ref (eb E + 91)), (1, .int b1)] [] SH m2 → J X E 2 0 [(0, .ref (eb E + 91)), (1, .int b1)] [] SH mem := by
  intro n
  induction n with
  | zero =>
    intro b1 mem m2 h hk; cases h
  | succ n ih =>
    intro b1 mem m2 h hk
    rw [f_M_settle_L0] at h
    refine j_aload_n S D_M_settle_0 0 rfl rfl ?_
    refine j_getI S D_M_settle_1 fl_R6_207 sh_Mod rfl ?_
    refine j_if_le S D_M_settle_4 (fun c_4 => ?_) (fun c_4 => ?_)
    · have h := ifT c_4 h
      cases h
      exact j_locals [0, 1] rfl hk
    · have h := ifF c_4 h
      refine j_aload_n S D_M_settle_7 0 rfl rfl ?_
      refine j_getR S D_M_settle_8 fl_R6_39 sh_Mod rfl ?_
      refine j_aload_n S D_M_settle_11 0 rfl rfl ?_
      refine j_getI S D_M_settle_12 fl_R6_207 sh_Mod rfl ?_
      refine j_iconst S D_M_settle_15 ci_1 ?_
      refine j_isub S D_M_settle_16 ?_
      obtain ⟨g_17, h⟩ := gdE h
      refine j_iald S D_M_settle_17 sh_100 g_17 ?_
      refine j_bipush S D_M_settle_18 cb_m11 ?_
      refine j_icmp_eq S D_M_settle_20 (fun c_20 => ?_) (fun c_20 => ?_)
      · have h := ifT c_20 h
        cases h
        exact j_locals [0, 1] rfl hk
      · have h := ifF c_20 h
        refine j_aload_n S D_M_settle_23 0 rfl rfl ?_
        refine j_getR S D_M_settle_24 fl_R6_39 sh_Mod rfl ?_
        refine j_aload_n S D_M_settle_27 0 rfl rfl ?_
        refine j_getI S D_M_settle_28 fl_R6_207 sh_Mod rfl ?_
        refine j_iconst S D_M_settle_31 ci_1 ?_
        refine j_isub S D_M_settle_32 ?_
        refine j_iald S D_M_settle_33 sh_100 g_17 ?_
        obtain ⟨r_34, e_34, h⟩ := bpE h
        refine j_callSI (As := [.int (mem 100 (ix ((mem 91 20) - 1)))]) S D_M_settle_34 ms_R6_210 (c_M_rank (cxL X) E (mem 100 (ix ((mem 91 20) - 1))) (mem := mem) e_34) (by decide) rfl rfl (Nat.le_of_ble_eq_true rfl) ?_
        refine j_iload_n S D_M_settle_37 1 rfl rfl ?_
        refine j_icmp_lt S D_M_settle_38 (fun c_38 => ?_) (fun c_38 => ?_)
        · have h := ifT c_38 h
          cases h
          exact j_locals [0, 1] rfl hk
        · have h := ifF c_38 h
          refine j_aload_n S D_M_settle_41 0 rfl rfl ?_
          refine j_dup S D_M_settle_42 rfl ?_
          refine j_getI S D_M_settle_43 fl_R6_207 sh_Mod rfl ?_
          refine j_iconst S D_M_settle_46 ci_1 ?_
          refine j_isub S D_M_settle_47 ?_
          obtain ⟨m_48, hm_48, h⟩ := ltE h
          refine j_putI S D_M_settle_48 fp_R6_207 sh_Mod rfl ?_
          refine j_mem hm_48 ?_
          refine j_aload_n S D_M_settle_51 0 rfl rfl ?_
          refine j_getR S D_M_settle_52 fl_R6_36 sh_Mod rfl ?_
          refine j_aload_n S D_M_settle_55 0 rfl rfl ?_
          refine j_getI S D_M_settle_56 fl_R6_213 sh_Mod rfl ?_
          refine j_aload_n S D_M_settle_59 0 rfl rfl ?_
          refine j_getR S D_M_settle_60 fl_R6_39 sh_Mod rfl ?_
          refine j_aload_n S D_M_settle_63 0 rfl rfl ?_
          refine j_getI S D_M_settle_64 fl_R6_207 sh_Mod rfl ?_
          obtain ⟨g_67, h⟩ := gdE h
          refine j_iald S D_M_settle_67 sh_100 g_67 ?_
          obtain ⟨g_68, h⟩ := gdE h
          obtain ⟨m_68, hm_68, h⟩ := ltE h
          refine j_iast S D_M_settle_68 sh_99 g_68 ?_
          refine j_mem hm_68 ?_
          refine j_aload_n S D_M_settle_69 0 rfl rfl ?_
          refine j_dup S D_M_settle_70 rfl ?_
          refine j_getI S D_M_settle_71 fl_R6_213 sh_Mod rfl ?_
          refine j_iconst S D_M_settle_74 ci_1 ?_
          refine j_iadd S D_M_settle_75 ?_
          obtain ⟨m_76, hm_76, h⟩ := ltE h
          refine j_putI S D_M_settle_76 fp_R6_213 sh_Mod rfl ?_
          refine j_mem hm_76 ?_
          refine j_goto S D_M_settle_79 ?_
          refine j_locals [0, 1] rfl (ih b1 m_76 _ h hk)
theorem c_M_settle (l : Launch) (E : En) (N : Nat) (a1 : Int32) {mem : Mm} {m2 : Mm} (h : f_M_settle N a1 mem = some m2) : CtV l E 1 y_M_settle prog_9_method_59_code 2 [.ref (eb E + 91), .int a1] SH mem m2 := by
  refine mk_CtV ⟨by decide, (Nat.le_of_ble_eq_true rfl)⟩ (fun X S hl hR => ?_)
  have S : Std X E prog_9_method_59_code R6 2 1 := S
  show J X E 2 0 [(0, .ref (eb E + 91)), (1, .int a1)] [] SH mem
  unfold f_M_settle at h
  obtain ⟨m_0, e_0, h⟩ := bpE h
  refine L_M_settle_0 S  N a1 mem _ e_0 ?_
  exact rtV hR h _ _ D_M_settle_82

def y_M_signHere : MethodName := ⟨"SandPictureModel", "signHere", "()I"⟩
theorem D_M_signHere_0 : decode prog_9_method_60_code 0 = .ok (.aload_n 0, 1) ∧ 0 + 1 = 1 := by decide +kernel
theorem D_M_signHere_1 : decode prog_9_method_60_code 1 = .ok (.getfield 189, 3) ∧ 1 + 3 = 4 := by decide +kernel
theorem D_M_signHere_4 : decode prog_9_method_60_code 4 = .ok (.iconst 3, 1) ∧ 4 + 1 = 5 := by decide +kernel
theorem D_M_signHere_5 : decode prog_9_method_60_code 5 = .ok (.if_icmp .eq 5, 3) ∧ ((5 : Nat) : Int) + 5 = ((10 : Nat) : Int) ∧ 5 + 3 = 8 := by decide +kernel
theorem D_M_signHere_10 : decode prog_9_method_60_code 10 = .ok (.aload_n 0, 1) ∧ 10 + 1 = 11 := by decide +kernel
theorem D_M_signHere_11 : decode prog_9_method_60_code 11 = .ok (.getfield 195, 3) ∧ 11 + 3 = 14 := by decide +kernel
theorem D_M_signHere_14 : decode prog_9_method_60_code 14 = .ok (.lookupswitch 108 #[(38, 84), (42, 102), (43, 96), (45, 99), (47, 105), (60, 87), (61, 90), (62, 93), (124, 82)], 82) := by decide +kernel
theorem D_M_signHere_98 : decode prog_9_method_60_code 98 = .ok (.bipush (-2), 2) ∧ 98 + 2 = 100 := by decide +kernel
theorem D_M_signHere_100 : decode prog_9_method_60_code 100 = .ok (.ireturn, 1) := by decide +kernel
theorem D_M_signHere_116 : decode prog_9_method_60_code 116 = .ok (.bipush (-8), 2) ∧ 116 + 2 = 118 := by decide +kernel
theorem D_M_signHere_118 : decode prog_9_method_60_code 118 = .ok (.ireturn, 1) := by decide +kernel
theorem D_M_signHere_110 : decode prog_9_method_60_code 110 = .ok (.bipush (-6), 2) ∧ 110 + 2 = 112 := by decide +kernel
theorem D_M_signHere_112 : decode prog_9_method_60_code 112 = .ok (.ireturn, 1) := by decide +kernel
theorem D_M_signHere_113 : decode prog_9_method_60_code 113 = .ok (.bipush (-7), 2) ∧ 113 + 2 = 115 := by decide +kernel
theorem D_M_signHere_115 : decode prog_9_method_60_code 115 = .ok (.ireturn, 1) := by decide +kernel
theorem D_M_signHere_119 : decode prog_9_method_60_code 119 = .ok (.bipush (-9), 2) ∧ 119 + 2 = 121 := by decide +kernel
theorem D_M_signHere_121 : decode prog_9_method_60_code 121 = .ok (.ireturn, 1) := by decide +kernel
theorem D_M_signHere_101 : decode prog_9_method_60_code 101 = .ok (.bipush (-3), 2) ∧ 101 + 2 = 103 := by decide +kernel
theorem D_M_signHere_103 : decode prog_9_method_60_code 103 = .ok (.ireturn, 1) := by decide +kernel
theorem D_M_signHere_104 : decode prog_9_method_60_code 104 = .ok (.bipush (-4), 2) ∧ 104 + 2 = 106 := by decide +kernel
theorem D_M_signHere_106 : decode prog_9_method_60_code 106 = .ok (.ireturn, 1) := by decide +kernel
theorem D_M_signHere_107 : decode prog_9_method_60_code 107 = .ok (.bipush (-5), 2) ∧ 107 + 2 = 109 := by decide +kernel
theorem D_M_signHere_109 : decode prog_9_method_60_code 109 = .ok (.ireturn, 1) := by decide +kernel
theorem D_M_signHere_96 : decode prog_9_method_60_code 96 = .ok (.iconst (-1), 1) ∧ 96 + 1 = 97 := by decide +kernel
theorem D_M_signHere_97 : decode prog_9_method_60_code 97 = .ok (.ireturn, 1) := by decide +kernel
theorem D_M_signHere_122 : decode prog_9_method_60_code 122 = .ok (.iconst 0, 1) ∧ 122 + 1 = 123 := by decide +kernel
theorem D_M_signHere_123 : decode prog_9_method_60_code 123 = .ok (.ireturn, 1) := by decide +kernel
theorem D_M_signHere_8 : decode prog_9_method_60_code 8 = .ok (.iconst 0, 1) ∧ 8 + 1 = 9 := by decide +kernel
theorem D_M_signHere_9 : decode prog_9_method_60_code 9 = .ok (.ireturn, 1) := by decide +kernel
def f_M_signHere  (mem : Mm) : Option (Int32) := if mem 91 10 = 3 then if mem 91 11 = 38 then some (-2) else if mem 91 11 = 42 then some (-8) else if mem 91 11 = 43 then some (-6) else if mem 91 11 = 45 then some (-7) else if mem 91 11 = 47 then some (-9) else if mem 91 11 = 60 then some (-3) else if mem 91 11 = 61 then some (-4) else if mem 91 11 = 62 then some (-5) else if mem 91 11 = 124 then some (-1) else some 0 else some 0
theorem c_M_signHere (l : Launch) (E : En)  {mem : Mm} {r : Int32} (h : f_M_signHere mem = some r) : CtI l E 0 y_M_signHere prog_9_method_60_code 1 (some .int) [.ref (eb E + 91)] SH mem r mem := by
  refine mk_CtI ⟨by decide, (Nat.le_of_ble_eq_true rfl)⟩ (fun X S hl hR => ?_)
  have S : Std X E prog_9_method_60_code R6 1 0 := S
  show J X E 1 0 [(0, .ref (eb E + 91))] [] SH mem
  unfold f_M_signHere at h
  refine j_aload_n S D_M_signHere_0 0 rfl rfl ?_
  refine j_getI S D_M_signHere_1 fl_R6_189 sh_Mod rfl ?_
  refine j_iconst S D_M_signHere_4 ci_3 ?_
  refine j_icmp_eq S D_M_signHere_5 (fun c_5 => ?_) (fun c_5 => ?_)
  · have h := ifT c_5 h
    refine j_aload_n S D_M_signHere_10 0 rfl rfl ?_
    refine j_getI S D_M_signHere_11 fl_R6_195 sh_Mod rfl ?_
    by_cases c_14_0 : mem 91 11 = 38
    · have h := ifT c_14_0 h
      refine j_lookE (tg := 98) (off := 84) S D_M_signHere_14 38 c_14_0 (by decide +kernel) ?_
      refine j_bipush S D_M_signHere_98 cb_m2 ?_
      exact rtI hR h _ _ D_M_signHere_100
    · have h := ifF c_14_0 h
      by_cases c_14_1 : mem 91 11 = 42
      · have h := ifT c_14_1 h
        refine j_lookE (tg := 116) (off := 102) S D_M_signHere_14 42 c_14_1 (by decide +kernel) ?_
        refine j_bipush S D_M_signHere_116 cb_m8 ?_
        exact rtI hR h _ _ D_M_signHere_118
      · have h := ifF c_14_1 h
        by_cases c_14_2 : mem 91 11 = 43
        · have h := ifT c_14_2 h
          refine j_lookE (tg := 110) (off := 96) S D_M_signHere_14 43 c_14_2 (by decide +kernel) ?_
          refine j_bipush S D_M_signHere_110 cb_m6 ?_
          exact rtI hR h _ _ D_M_signHere_112
        · have h := ifF c_14_2 h
          by_cases c_14_3 : mem 91 11 = 45
          · have h := ifT c_14_3 h
            refine j_lookE (tg := 113) (off := 99) S D_M_signHere_14 45 c_14_3 (by decide +kernel) ?_
            refine j_bipush S D_M_signHere_113 cb_m7 ?_
            exact rtI hR h _ _ D_M_signHere_115
          · have h := ifF c_14_3 h
            by_cases c_14_4 : mem 91 11 = 47
            · have h := ifT c_14_4 h
              refine j_lookE (tg := 119) (off := 105) S D_M_signHere_14 47 c_14_4 (by decide +kernel) ?_
              refine j_bipush S D_M_signHere_119 cb_m9 ?_
              exact rtI hR h _ _ D_M_signHere_121
            · have h := ifF c_14_4 h
              by_cases c_14_5 : mem 91 11 = 60
              · have h := ifT c_14_5 h
                refine j_lookE (tg := 101) (off := 87) S D_M_signHere_14 60 c_14_5 (by decide +kernel) ?_
                refine j_bipush S D_M_signHere_101 cb_m3 ?_
                exact rtI hR h _ _ D_M_signHere_103
              · have h := ifF c_14_5 h
                by_cases c_14_6 : mem 91 11 = 61
                · have h := ifT c_14_6 h
                  refine j_lookE (tg := 104) (off := 90) S D_M_signHere_14 61 c_14_6 (by decide +kernel) ?_
                  refine j_bipush S D_M_signHere_104 cb_m4 ?_
                  exact rtI hR h _ _ D_M_signHere_106
                · have h := ifF c_14_6 h
                  by_cases c_14_7 : mem 91 11 = 62
                  · have h := ifT c_14_7 h
                    refine j_lookE (tg := 107) (off := 93) S D_M_signHere_14 62 c_14_7 (by decide +kernel) ?_
                    refine j_bipush S D_M_signHere_107 cb_m5 ?_
                    exact rtI hR h _ _ D_M_signHere_109
                  · have h := ifF c_14_7 h
                    by_cases c_14_8 : mem 91 11 = 124
                    · have h := ifT c_14_8 h
                      refine j_lookE (tg := 96) (off := 82) S D_M_signHere_14 124 c_14_8 (by decide +kernel) ?_
                      refine j_iconst S D_M_signHere_96 ci_m1 ?_
                      exact rtI hR h _ _ D_M_signHere_97
                    · have h := ifF c_14_8 h
                      refine j_look (tg := 122) S D_M_signHere_14 (by decide +kernel) (by show Op.lookupswitch.offset [(38, 84), (42, 102), (43, 96), (45, 99), (47, 105), (60, 87), (61, 90), (62, 93), (124, 82)] 108 (mem 91 11 : Int32).toInt = 108; rw [lv_osw c_14_0 (by decide +kernel), lv_osw c_14_1 (by decide +kernel), lv_osw c_14_2 (by decide +kernel), lv_osw c_14_3 (by decide +kernel), lv_osw c_14_4 (by decide +kernel), lv_osw c_14_5 (by decide +kernel), lv_osw c_14_6 (by decide +kernel), lv_osw c_14_7 (by decide +kernel), lv_osw c_14_8 (by decide +kernel)]; rfl) rfl ?_
                      refine j_iconst S D_M_signHere_122 ci_0 ?_
                      exact rtI hR h _ _ D_M_signHere_123
  · have h := ifF c_5 h
    refine j_iconst S D_M_signHere_8 ci_0 ?_
    exact rtI hR h _ _ D_M_signHere_9

def y_M_takesPart : MethodName := ⟨"SandPictureModel", "takesPart", "()Z"⟩
theorem D_M_takesPart_0 : decode prog_9_method_61_code 0 = .ok (.aload_n 0, 1) ∧ 0 + 1 = 1 := by decide +kernel
theorem D_M_takesPart_1 : decode prog_9_method_61_code 1 = .ok (.getfield 189, 3) ∧ 1 + 3 = 4 := by decide +kernel
theorem D_M_takesPart_4 : decode prog_9_method_61_code 4 = .ok (.iconst 1, 1) ∧ 4 + 1 = 5 := by decide +kernel
theorem D_M_takesPart_5 : decode prog_9_method_61_code 5 = .ok (.if_icmp .ne 31, 3) ∧ ((5 : Nat) : Int) + 31 = ((36 : Nat) : Int) ∧ 5 + 3 = 8 := by decide +kernel
theorem D_M_takesPart_36 : decode prog_9_method_61_code 36 = .ok (.iconst 0, 1) ∧ 36 + 1 = 37 := by decide +kernel
theorem D_M_takesPart_37 : decode prog_9_method_61_code 37 = .ok (.istore_n 1, 1) ∧ 37 + 1 = 38 := by decide +kernel
theorem D_M_takesPart_38 : decode prog_9_method_61_code 38 = .ok (.aload_n 0, 1) ∧ 38 + 1 = 39 := by decide +kernel
theorem D_M_takesPart_39 : decode prog_9_method_61_code 39 = .ok (.getfield 189, 3) ∧ 39 + 3 = 42 := by decide +kernel
theorem D_M_takesPart_42 : decode prog_9_method_61_code 42 = .ok (.iconst 2, 1) ∧ 42 + 1 = 43 := by decide +kernel
theorem D_M_takesPart_43 : decode prog_9_method_61_code 43 = .ok (.if_icmp .eq 9, 3) ∧ ((43 : Nat) : Int) + 9 = ((52 : Nat) : Int) ∧ 43 + 3 = 46 := by decide +kernel
theorem D_M_takesPart_52 : decode prog_9_method_61_code 52 = .ok (.aload_n 0, 1) ∧ 52 + 1 = 53 := by decide +kernel
theorem D_M_takesPart_53 : decode prog_9_method_61_code 53 = .ok (.getfield 36, 3) ∧ 53 + 3 = 56 := by decide +kernel
theorem D_M_takesPart_56 : decode prog_9_method_61_code 56 = .ok (.aload_n 0, 1) ∧ 56 + 1 = 57 := by decide +kernel
theorem D_M_takesPart_57 : decode prog_9_method_61_code 57 = .ok (.getfield 213, 3) ∧ 57 + 3 = 60 := by decide +kernel
theorem D_M_takesPart_60 : decode prog_9_method_61_code 60 = .ok (.aload_n 0, 1) ∧ 60 + 1 = 61 := by decide +kernel
theorem D_M_takesPart_61 : decode prog_9_method_61_code 61 = .ok (.getfield 189, 3) ∧ 61 + 3 = 64 := by decide +kernel
theorem D_M_takesPart_64 : decode prog_9_method_61_code 64 = .ok (.iconst 2, 1) ∧ 64 + 1 = 65 := by decide +kernel
theorem D_M_takesPart_65 : decode prog_9_method_61_code 65 = .ok (.if_icmp .ne 10, 3) ∧ ((65 : Nat) : Int) + 10 = ((75 : Nat) : Int) ∧ 65 + 3 = 68 := by decide +kernel
theorem D_M_takesPart_75 : decode prog_9_method_61_code 75 = .ok (.sipush 10000, 3) ∧ 75 + 3 = 78 := by decide +kernel
theorem D_M_takesPart_78 : decode prog_9_method_61_code 78 = .ok (.aload_n 0, 1) ∧ 78 + 1 = 79 := by decide +kernel
theorem D_M_takesPart_79 : decode prog_9_method_61_code 79 = .ok (.aload_n 0, 1) ∧ 79 + 1 = 80 := by decide +kernel
theorem D_M_takesPart_80 : decode prog_9_method_61_code 80 = .ok (.getfield 195, 3) ∧ 80 + 3 = 83 := by decide +kernel
theorem D_M_takesPart_83 : decode prog_9_method_61_code 83 = .ok (.invokevirtual 216, 3) ∧ 83 + 3 = 86 := by decide +kernel
theorem D_M_takesPart_86 : decode prog_9_method_61_code 86 = .ok (.iadd, 1) ∧ 86 + 1 = 87 := by decide +kernel
theorem D_M_takesPart_87 : decode prog_9_method_61_code 87 = .ok (.iastore, 1) ∧ 87 + 1 = 88 := by decide +kernel
theorem D_M_takesPart_88 : decode prog_9_method_61_code 88 = .ok (.aload_n 0, 1) ∧ 88 + 1 = 89 := by decide +kernel
theorem D_M_takesPart_89 : decode prog_9_method_61_code 89 = .ok (.dup, 1) ∧ 89 + 1 = 90 := by decide +kernel
theorem D_M_takesPart_90 : decode prog_9_method_61_code 90 = .ok (.getfield 213, 3) ∧ 90 + 3 = 93 := by decide +kernel
theorem D_M_takesPart_93 : decode prog_9_method_61_code 93 = .ok (.iconst 1, 1) ∧ 93 + 1 = 94 := by decide +kernel
theorem D_M_takesPart_94 : decode prog_9_method_61_code 94 = .ok (.iadd, 1) ∧ 94 + 1 = 95 := by decide +kernel
theorem D_M_takesPart_95 : decode prog_9_method_61_code 95 = .ok (.putfield 213, 3) ∧ 95 + 3 = 98 := by decide +kernel
theorem D_M_takesPart_98 : decode prog_9_method_61_code 98 = .ok (.aload_n 0, 1) ∧ 98 + 1 = 99 := by decide +kernel
theorem D_M_takesPart_99 : decode prog_9_method_61_code 99 = .ok (.dup, 1) ∧ 99 + 1 = 100 := by decide +kernel
theorem D_M_takesPart_100 : decode prog_9_method_61_code 100 = .ok (.getfield 219, 3) ∧ 100 + 3 = 103 := by decide +kernel
theorem D_M_takesPart_103 : decode prog_9_method_61_code 103 = .ok (.iconst 1, 1) ∧ 103 + 1 = 104 := by decide +kernel
theorem D_M_takesPart_104 : decode prog_9_method_61_code 104 = .ok (.iadd, 1) ∧ 104 + 1 = 105 := by decide +kernel
theorem D_M_takesPart_105 : decode prog_9_method_61_code 105 = .ok (.putfield 219, 3) ∧ 105 + 3 = 108 := by decide +kernel
theorem D_M_takesPart_108 : decode prog_9_method_61_code 108 = .ok (.aload_n 0, 1) ∧ 108 + 1 = 109 := by decide +kernel
theorem D_M_takesPart_109 : decode prog_9_method_61_code 109 = .ok (.bipush 6, 2) ∧ 109 + 2 = 111 := by decide +kernel
theorem D_M_takesPart_111 : decode prog_9_method_61_code 111 = .ok (.invokevirtual 222, 3) ∧ 111 + 3 = 114 := by decide +kernel
theorem D_M_takesPart_114 : decode prog_9_method_61_code 114 = .ok (.aload_n 0, 1) ∧ 114 + 1 = 115 := by decide +kernel
theorem D_M_takesPart_115 : decode prog_9_method_61_code 115 = .ok (.invokevirtual 204, 3) ∧ 115 + 3 = 118 := by decide +kernel
theorem D_M_takesPart_118 : decode prog_9_method_61_code 118 = .ok (.iconst 1, 1) ∧ 118 + 1 = 119 := by decide +kernel
theorem D_M_takesPart_119 : decode prog_9_method_61_code 119 = .ok (.ireturn, 1) := by decide +kernel
theorem D_M_takesPart_68 : decode prog_9_method_61_code 68 = .ok (.aload_n 0, 1) ∧ 68 + 1 = 69 := by decide +kernel
theorem D_M_takesPart_69 : decode prog_9_method_61_code 69 = .ok (.getfield 195, 3) ∧ 69 + 3 = 72 := by decide +kernel
theorem D_M_takesPart_72 : decode prog_9_method_61_code 72 = .ok (.goto 15, 3) ∧ ((72 : Nat) : Int) + 15 = ((87 : Nat) : Int) := by decide +kernel
theorem D_M_takesPart_46 : decode prog_9_method_61_code 46 = .ok (.iload_n 1, 1) ∧ 46 + 1 = 47 := by decide +kernel
theorem D_M_takesPart_47 : decode prog_9_method_61_code 47 = .ok (.ifCond .ne 5, 3) ∧ ((47 : Nat) : Int) + 5 = ((52 : Nat) : Int) ∧ 47 + 3 = 50 := by decide +kernel
theorem D_M_takesPart_50 : decode prog_9_method_61_code 50 = .ok (.iconst 0, 1) ∧ 50 + 1 = 51 := by decide +kernel
theorem D_M_takesPart_51 : decode prog_9_method_61_code 51 = .ok (.ireturn, 1) := by decide +kernel
theorem D_M_takesPart_8 : decode prog_9_method_61_code 8 = .ok (.aload_n 0, 1) ∧ 8 + 1 = 9 := by decide +kernel
theorem D_M_takesPart_9 : decode prog_9_method_61_code 9 = .ok (.getfield 180, 3) ∧ 9 + 3 = 12 := by decide +kernel
theorem D_M_takesPart_12 : decode prog_9_method_61_code 12 = .ok (.aload_n 0, 1) ∧ 12 + 1 = 13 := by decide +kernel
theorem D_M_takesPart_13 : decode prog_9_method_61_code 13 = .ok (.getfield 183, 3) ∧ 13 + 3 = 16 := by decide +kernel
theorem D_M_takesPart_16 : decode prog_9_method_61_code 16 = .ok (.isub, 1) ∧ 16 + 1 = 17 := by decide +kernel
theorem D_M_takesPart_17 : decode prog_9_method_61_code 17 = .ok (.iconst 1, 1) ∧ 17 + 1 = 18 := by decide +kernel
theorem D_M_takesPart_18 : decode prog_9_method_61_code 18 = .ok (.if_icmp .ne 18, 3) ∧ ((18 : Nat) : Int) + 18 = ((36 : Nat) : Int) ∧ 18 + 3 = 21 := by decide +kernel
theorem D_M_takesPart_21 : decode prog_9_method_61_code 21 = .ok (.aload_n 0, 1) ∧ 21 + 1 = 22 := by decide +kernel
theorem D_M_takesPart_22 : decode prog_9_method_61_code 22 = .ok (.aload_n 0, 1) ∧ 22 + 1 = 23 := by decide +kernel
theorem D_M_takesPart_23 : decode prog_9_method_61_code 23 = .ok (.getfield 195, 3) ∧ 23 + 3 = 26 := by decide +kernel
theorem D_M_takesPart_26 : decode prog_9_method_61_code 26 = .ok (.invokevirtual 216, 3) ∧ 26 + 3 = 29 := by decide +kernel
theorem D_M_takesPart_32 : decode prog_9_method_61_code 32 = .ok (.iconst 1, 1) ∧ 32 + 1 = 33 := by decide +kernel
theorem D_M_takesPart_33 : decode prog_9_method_61_code 33 = .ok (.goto 4, 3) ∧ ((33 : Nat) : Int) + 4 = ((37 : Nat) : Int) := by decide +kernel
theorem D_M_takesPart_29 : decode prog_9_method_61_code 29 = .ok (.ifCond .lt 7, 3) ∧ ((29 : Nat) : Int) + 7 = ((36 : Nat) : Int) ∧ 29 + 3 = 32 := by decide +kernel
def f_M_takesPart (N : Nat)  (mem : Mm) : Option (Int32 × Mm) := if mem 91 10 = 1 then if (mem 91 8) - (mem 91 9) = 1 then bp (f_M_nameOf (mem 91 11) mem) fun r_26 => lt (if r_26 < 0 then (0 : Int32) else 1) fun x_37 => if mem 91 10 = 2 then if mem 91 10 = 2 then if inb (mem 91 17) 96 = true then lt (mst mem 99 (ix (mem 91 17)) (mem 91 11)) fun m_87 => lt (mst m_87 91 17 ((m_87 91 17) + 1)) fun m_95 => lt (mst m_95 91 18 ((m_95 91 18) + 1)) fun m_105 => bp (f_M_settle N 6 m_105) fun m_111 => bp (f_M_go N m_111) fun m_115 => some (1, m_115) else none else bp (f_M_nameOf (mem 91 11) mem) fun r_83 => if inb (mem 91 17) 96 = true then lt (mst mem 99 (ix (mem 91 17)) (10000 + r_83)) fun m_87 => lt (mst m_87 91 17 ((m_87 91 17) + 1)) fun m_95 => lt (mst m_95 91 18 ((m_95 91 18) + 1)) fun m_105 => bp (f_M_settle N 6 m_105) fun m_111 => bp (f_M_go N m_111) fun m_115 => some (1, m_115) else none else if x_37 = 0 then some (0, mem) else if mem 91 10 = 2 then if inb (mem 91 17) 96 = true then lt (mst mem 99 (ix (mem 91 17)) (mem 91 11)) fun m_87 => lt (mst m_87 91 17 ((m_87 91 17) + 1)) fun m_95 => lt (mst m_95 91 18 ((m_95 91 18) + 1)) fun m_105 => bp (f_M_settle N 6 m_105) fun m_111 => bp (f_M_go N m_111) fun m_115 => some (1, m_115) else none else bp (f_M_nameOf (mem 91 11) mem) fun r_83 => if inb (mem 91 17) 96 = true then lt (mst mem 99 (ix (mem 91 17)) (10000 + r_83)) fun m_87 => lt (mst m_87 91 17 ((m_87 91 17) + 1)) fun m_95 => lt (mst m_95 91 18 ((m_95 91 18) + 1)) fun m_105 => bp (f_M_settle N 6 m_105) fun m_111 => bp (f_M_go N m_111) fun m_115 => some (1, m_115) else none else if mem 91 10 = 2 then if mem 91 10 = 2 then if inb (mem 91 17) 96 = true then lt (mst mem 99 (ix (mem 91 17)) (mem 91 11)) fun m_87 => lt (mst m_87 91 17 ((m_87 91 17) + 1)) fun m_95 => lt (mst m_95 91 18 ((m_95 91 18) + 1)) fun m_105 => bp (f_M_settle N 6 m_105) fun m_111 => bp (f_M_go N m_111) fun m_115 => some (1, m_115) else none else bp (f_M_nameOf (mem 91 11) mem) fun r_83 => if inb (mem 91 17) 96 = true then lt (mst mem 99 (ix (mem 91 17)) (10000 + r_83)) fun m_87 => lt (mst m_87 91 17 ((m_87 91 17) + 1)) fun m_95 => lt (mst m_95 91 18 ((m_95 91 18) + 1)) fun m_105 => bp (f_M_settle N 6 m_105) fun m_111 => bp (f_M_go N m_111) fun m_115 => some (1, m_115) else none else some (0, mem) else if mem 91 10 = 2 then if mem 91 10 = 2 then if inb (mem 91 17) 96 = true then lt (mst mem 99 (ix (mem 91 17)) (mem 91 11)) fun m_87 => lt (mst m_87 91 17 ((m_87 91 17) + 1)) fun m_95 => lt (mst m_95 91 18 ((m_95 91 18) + 1)) fun m_105 => bp (f_M_settle N 6 m_105) fun m_111 => bp (f_M_go N m_111) fun m_115 => some (1, m_115) else none else bp (f_M_nameOf (mem 91 11) mem) fun r_83 => if inb (mem 91 17) 96 = true then lt (mst mem 99 (ix (mem 91 17)) (10000 + r_83)) fun m_87 => lt (mst m_87 91 17 ((m_87 91 17) + 1)) fun m_95 => lt (mst m_95 91 18 ((m_95 91 18) + 1)) fun m_105 => bp (f_M_settle N 6 m_105) fun m_111 => bp (f_M_go N m_111) fun m_115 => some (1, m_115) else none else some (0, mem)
theorem c_M_takesPart (l : Launch) (E : En) (N : Nat)  {mem : Mm} {r : Int32} {m2 : Mm} (h : f_M_takesPart N mem = some (r, m2)) : CtI l E 2 y_M_takesPart prog_9_method_61_code 2 (some .boolean) [.ref (eb E + 91)] SH mem r m2 := by
  refine mk_CtZ ⟨by decide, (Nat.le_of_ble_eq_true rfl)⟩ (fun X S hl hR => ?_)
  have S : Std X E prog_9_method_61_code R6 2 2 := S
  show J X E 2 0 [(0, .ref (eb E + 91))] [] SH mem
  unfold f_M_takesPart at h
  refine j_aload_n S D_M_takesPart_0 0 rfl rfl ?_
  refine j_getI S D_M_takesPart_1 fl_R6_189 sh_Mod rfl ?_
  refine j_iconst S D_M_takesPart_4 ci_1 ?_
  refine j_icmp_ne S D_M_takesPart_5 (fun c_5 => ?_) (fun c_5 => ?_)
  · have h := ifF c_5 h
    refine j_iconst S D_M_takesPart_36 ci_0 ?_
    refine j_istore_n S D_M_takesPart_37 (lv := [(1, .int 0), (0, .ref (eb E + 91))]) rfl ⟨rfl, (Nat.le_of_ble_eq_true rfl)⟩ ?_
    refine j_aload_n S D_M_takesPart_38 1 rfl rfl ?_
    refine j_getI S D_M_takesPart_39 fl_R6_189 sh_Mod rfl ?_
    refine j_iconst S D_M_takesPart_42 ci_2 ?_
    refine j_icmp_eq S D_M_takesPart_43 (fun c_43 => ?_) (fun c_43 => ?_)
    · have h := ifT c_43 h
      refine j_aload_n S D_M_takesPart_52 1 rfl rfl ?_
      refine j_getR S D_M_takesPart_53 fl_R6_36 sh_Mod rfl ?_
      refine j_aload_n S D_M_takesPart_56 1 rfl rfl ?_
      refine j_getI S D_M_takesPart_57 fl_R6_213 sh_Mod rfl ?_
      refine j_aload_n S D_M_takesPart_60 1 rfl rfl ?_
      refine j_getI S D_M_takesPart_61 fl_R6_189 sh_Mod rfl ?_
      refine j_iconst S D_M_takesPart_64 ci_2 ?_
      refine j_icmp_ne S D_M_takesPart_65 (fun c_65 => ?_) (fun c_65 => ?_)
      · have h := ifF c_65 h
        refine j_sipush S D_M_takesPart_75 cs_10000 ?_
        refine j_aload_n S D_M_takesPart_78 1 rfl rfl ?_
        refine j_aload_n S D_M_takesPart_79 1 rfl rfl ?_
        refine j_getI S D_M_takesPart_80 fl_R6_195 sh_Mod rfl ?_
        obtain ⟨r_83, e_83, h⟩ := bpE h
        refine j_callVI (As := [.int (mem 91 11)]) S D_M_takesPart_83 mv_R6_216 (c_M_nameOf (cxL X) E (mem 91 11) e_83) (by decide) sh_Mod rfl rfl rfl rfl (Nat.le_of_ble_eq_true rfl) ?_
        refine j_iadd S D_M_takesPart_86 ?_
        obtain ⟨g_87, h⟩ := gdE h
        obtain ⟨m_87, hm_87, h⟩ := ltE h
        refine j_iast S D_M_takesPart_87 sh_99 g_87 ?_
        refine j_mem hm_87 ?_
        refine j_aload_n S D_M_takesPart_88 1 rfl rfl ?_
        refine j_dup S D_M_takesPart_89 rfl ?_
        refine j_getI S D_M_takesPart_90 fl_R6_213 sh_Mod rfl ?_
        refine j_iconst S D_M_takesPart_93 ci_1 ?_
        refine j_iadd S D_M_takesPart_94 ?_
        obtain ⟨m_95, hm_95, h⟩ := ltE h
        refine j_putI S D_M_takesPart_95 fp_R6_213 sh_Mod rfl ?_
        refine j_mem hm_95 ?_
        refine j_aload_n S D_M_takesPart_98 1 rfl rfl ?_
        refine j_dup S D_M_takesPart_99 rfl ?_
        refine j_getI S D_M_takesPart_100 fl_R6_219 sh_Mod rfl ?_
        refine j_iconst S D_M_takesPart_103 ci_1 ?_
        refine j_iadd S D_M_takesPart_104 ?_
        obtain ⟨m_105, hm_105, h⟩ := ltE h
        refine j_putI S D_M_takesPart_105 fp_R6_219 sh_Mod rfl ?_
        refine j_mem hm_105 ?_
        refine j_aload_n S D_M_takesPart_108 1 rfl rfl ?_
        refine j_bipush S D_M_takesPart_109 cb_6 ?_
        obtain ⟨m_111, e_111, h⟩ := bpE h
        refine j_callVV (As := [.int 6]) S D_M_takesPart_111 mv_R6_222 (c_M_settle (cxL X) E N 6 e_111) (by decide) sh_Mod rfl rfl rfl rfl (Nat.le_of_ble_eq_true rfl) ?_
        refine j_aload_n S D_M_takesPart_114 1 rfl rfl ?_
        obtain ⟨m_115, e_115, h⟩ := bpE h
        refine j_callVV (As := []) S D_M_takesPart_115 mv_R6_204 (c_M_go (cxL X) E N e_115) (by decide) sh_Mod rfl rfl rfl rfl (Nat.le_of_ble_eq_true rfl) ?_
        refine j_iconst S D_M_takesPart_118 ci_1 ?_
        exact rtMZ hR h isb1 _ _ D_M_takesPart_119
      · have h := ifT c_65 h
        refine j_aload_n S D_M_takesPart_68 1 rfl rfl ?_
        refine j_getI S D_M_takesPart_69 fl_R6_195 sh_Mod rfl ?_
        refine j_goto S D_M_takesPart_72 ?_
        obtain ⟨g_87, h⟩ := gdE h
        obtain ⟨m_87, hm_87, h⟩ := ltE h
        refine j_iast S D_M_takesPart_87 sh_99 g_87 ?_
        refine j_mem hm_87 ?_
        refine j_aload_n S D_M_takesPart_88 1 rfl rfl ?_
        refine j_dup S D_M_takesPart_89 rfl ?_
        refine j_getI S D_M_takesPart_90 fl_R6_213 sh_Mod rfl ?_
        refine j_iconst S D_M_takesPart_93 ci_1 ?_
        refine j_iadd S D_M_takesPart_94 ?_
        obtain ⟨m_95, hm_95, h⟩ := ltE h
        refine j_putI S D_M_takesPart_95 fp_R6_213 sh_Mod rfl ?_
        refine j_mem hm_95 ?_
        refine j_aload_n S D_M_takesPart_98 1 rfl rfl ?_
        refine j_dup S D_M_takesPart_99 rfl ?_
        refine j_getI S D_M_takesPart_100 fl_R6_219 sh_Mod rfl ?_
        refine j_iconst S D_M_takesPart_103 ci_1 ?_
        refine j_iadd S D_M_takesPart_104 ?_
        obtain ⟨m_105, hm_105, h⟩ := ltE h
        refine j_putI S D_M_takesPart_105 fp_R6_219 sh_Mod rfl ?_
        refine j_mem hm_105 ?_
        refine j_aload_n S D_M_takesPart_108 1 rfl rfl ?_
        refine j_bipush S D_M_takesPart_109 cb_6 ?_
        obtain ⟨m_111, e_111, h⟩ := bpE h
        refine j_callVV (As := [.int 6]) S D_M_takesPart_111 mv_R6_222 (c_M_settle (cxL X) E N 6 e_111) (by decide) sh_Mod rfl rfl rfl rfl (Nat.le_of_ble_eq_true rfl) ?_
        refine j_aload_n S D_M_takesPart_114 1 rfl rfl ?_
        obtain ⟨m_115, e_115, h⟩ := bpE h
        refine j_callVV (As := []) S D_M_takesPart_115 mv_R6_204 (c_M_go (cxL X) E N e_115) (by decide) sh_Mod rfl rfl rfl rfl (Nat.le_of_ble_eq_true rfl) ?_
        refine j_iconst S D_M_takesPart_118 ci_1 ?_
        exact rtMZ hR h isb1 _ _ D_M_takesPart_119
    · have h := ifF c_43 h
      refine j_iload_n S D_M_takesPart_46 0 rfl rfl ?_
      refine j_if_ne S D_M_takesPart_47 (fun c_ => absurd c_ (by decide +kernel)) (fun _ => ?_)
      refine j_iconst S D_M_takesPart_50 ci_0 ?_
      exact rtMZ hR h isb0 _ _ D_M_takesPart_51
  · have h := ifT c_5 h
    refine j_aload_n S D_M_takesPart_8 0 rfl rfl ?_
    refine j_getI S D_M_takesPart_9 fl_R6_180 sh_Mod rfl ?_
    refine j_aload_n S D_M_takesPart_12 0 rfl rfl ?_
    refine j_getI S D_M_takesPart_13 fl_R6_183 sh_Mod rfl ?_
    refine j_isub S D_M_takesPart_16 ?_
    refine j_iconst S D_M_takesPart_17 ci_1 ?_
    refine j_icmp_ne S D_M_takesPart_18 (fun c_18 => ?_) (fun c_18 => ?_)
    · have h := ifF c_18 h
      refine j_iconst S D_M_takesPart_36 ci_0 ?_
      refine j_istore_n S D_M_takesPart_37 (lv := [(1, .int 0), (0, .ref (eb E + 91))]) rfl ⟨rfl, (Nat.le_of_ble_eq_true rfl)⟩ ?_
      refine j_aload_n S D_M_takesPart_38 1 rfl rfl ?_
      refine j_getI S D_M_takesPart_39 fl_R6_189 sh_Mod rfl ?_
      refine j_iconst S D_M_takesPart_42 ci_2 ?_
      refine j_icmp_eq S D_M_takesPart_43 (fun c_43 => ?_) (fun c_43 => ?_)
      · have h := ifT c_43 h
        refine j_aload_n S D_M_takesPart_52 1 rfl rfl ?_
        refine j_getR S D_M_takesPart_53 fl_R6_36 sh_Mod rfl ?_
        refine j_aload_n S D_M_takesPart_56 1 rfl rfl ?_
        refine j_getI S D_M_takesPart_57 fl_R6_213 sh_Mod rfl ?_
        refine j_aload_n S D_M_takesPart_60 1 rfl rfl ?_
        refine j_getI S D_M_takesPart_61 fl_R6_189 sh_Mod rfl ?_
        refine j_iconst S D_M_takesPart_64 ci_2 ?_
        refine j_icmp_ne S D_M_takesPart_65 (fun c_65 => ?_) (fun c_65 => ?_)
        · have h := ifF c_65 h
          refine j_sipush S D_M_takesPart_75 cs_10000 ?_
          refine j_aload_n S D_M_takesPart_78 1 rfl rfl ?_
          refine j_aload_n S D_M_takesPart_79 1 rfl rfl ?_
          refine j_getI S D_M_takesPart_80 fl_R6_195 sh_Mod rfl ?_
          obtain ⟨r_83, e_83, h⟩ := bpE h
          refine j_callVI (As := [.int (mem 91 11)]) S D_M_takesPart_83 mv_R6_216 (c_M_nameOf (cxL X) E (mem 91 11) e_83) (by decide) sh_Mod rfl rfl rfl rfl (Nat.le_of_ble_eq_true rfl) ?_
          refine j_iadd S D_M_takesPart_86 ?_
          obtain ⟨g_87, h⟩ := gdE h
          obtain ⟨m_87, hm_87, h⟩ := ltE h
          refine j_iast S D_M_takesPart_87 sh_99 g_87 ?_
          refine j_mem hm_87 ?_
          refine j_aload_n S D_M_takesPart_88 1 rfl rfl ?_
          refine j_dup S D_M_takesPart_89 rfl ?_
          refine j_getI S D_M_takesPart_90 fl_R6_213 sh_Mod rfl ?_
          refine j_iconst S D_M_takesPart_93 ci_1 ?_
          refine j_iadd S D_M_takesPart_94 ?_
          obtain ⟨m_95, hm_95, h⟩ := ltE h
          refine j_putI S D_M_takesPart_95 fp_R6_213 sh_Mod rfl ?_
          refine j_mem hm_95 ?_
          refine j_aload_n S D_M_takesPart_98 1 rfl rfl ?_
          refine j_dup S D_M_takesPart_99 rfl ?_
          refine j_getI S D_M_takesPart_100 fl_R6_219 sh_Mod rfl ?_
          refine j_iconst S D_M_takesPart_103 ci_1 ?_
          refine j_iadd S D_M_takesPart_104 ?_
          obtain ⟨m_105, hm_105, h⟩ := ltE h
          refine j_putI S D_M_takesPart_105 fp_R6_219 sh_Mod rfl ?_
          refine j_mem hm_105 ?_
          refine j_aload_n S D_M_takesPart_108 1 rfl rfl ?_
          refine j_bipush S D_M_takesPart_109 cb_6 ?_
          obtain ⟨m_111, e_111, h⟩ := bpE h
          refine j_callVV (As := [.int 6]) S D_M_takesPart_111 mv_R6_222 (c_M_settle (cxL X) E N 6 e_111) (by decide) sh_Mod rfl rfl rfl rfl (Nat.le_of_ble_eq_true rfl) ?_
          refine j_aload_n S D_M_takesPart_114 1 rfl rfl ?_
          obtain ⟨m_115, e_115, h⟩ := bpE h
          refine j_callVV (As := []) S D_M_takesPart_115 mv_R6_204 (c_M_go (cxL X) E N e_115) (by decide) sh_Mod rfl rfl rfl rfl (Nat.le_of_ble_eq_true rfl) ?_
          refine j_iconst S D_M_takesPart_118 ci_1 ?_
          exact rtMZ hR h isb1 _ _ D_M_takesPart_119
        · have h := ifT c_65 h
          refine j_aload_n S D_M_takesPart_68 1 rfl rfl ?_
          refine j_getI S D_M_takesPart_69 fl_R6_195 sh_Mod rfl ?_
          refine j_goto S D_M_takesPart_72 ?_
          obtain ⟨g_87, h⟩ := gdE h
          obtain ⟨m_87, hm_87, h⟩ := ltE h
          refine j_iast S D_M_takesPart_87 sh_99 g_87 ?_
          refine j_mem hm_87 ?_
          refine j_aload_n S D_M_takesPart_88 1 rfl rfl ?_
          refine j_dup S D_M_takesPart_89 rfl ?_
          refine j_getI S D_M_takesPart_90 fl_R6_213 sh_Mod rfl ?_
          refine j_iconst S D_M_takesPart_93 ci_1 ?_
          refine j_iadd S D_M_takesPart_94 ?_
          obtain ⟨m_95, hm_95, h⟩ := ltE h
          refine j_putI S D_M_takesPart_95 fp_R6_213 sh_Mod rfl ?_
          refine j_mem hm_95 ?_
          refine j_aload_n S D_M_takesPart_98 1 rfl rfl ?_
          refine j_dup S D_M_takesPart_99 rfl ?_
          refine j_getI S D_M_takesPart_100 fl_R6_219 sh_Mod rfl ?_
          refine j_iconst S D_M_takesPart_103 ci_1 ?_
          refine j_iadd S D_M_takesPart_104 ?_
          obtain ⟨m_105, hm_105, h⟩ := ltE h
          refine j_putI S D_M_takesPart_105 fp_R6_219 sh_Mod rfl ?_
          refine j_mem hm_105 ?_
          refine j_aload_n S D_M_takesPart_108 1 rfl rfl ?_
          refine j_bipush S D_M_takesPart_109 cb_6 ?_
          obtain ⟨m_111, e_111, h⟩ := bpE h
          refine j_callVV (As := [.int 6]) S D_M_takesPart_111 mv_R6_222 (c_M_settle (cxL X) E N 6 e_111) (by decide) sh_Mod rfl rfl rfl rfl (Nat.le_of_ble_eq_true rfl) ?_
          refine j_aload_n S D_M_takesPart_114 1 rfl rfl ?_
          obtain ⟨m_115, e_115, h⟩ := bpE h
          refine j_callVV (As := []) S D_M_takesPart_115 mv_R6_204 (c_M_go (cxL X) E N e_115) (by decide) sh_Mod rfl rfl rfl rfl (Nat.le_of_ble_eq_true rfl) ?_
          refine j_iconst S D_M_takesPart_118 ci_1 ?_
          exact rtMZ hR h isb1 _ _ D_M_takesPart_119
      · have h := ifF c_43 h
        refine j_iload_n S D_M_takesPart_46 0 rfl rfl ?_
        refine j_if_ne S D_M_takesPart_47 (fun c_ => absurd c_ (by decide +kernel)) (fun _ => ?_)
        refine j_iconst S D_M_takesPart_50 ci_0 ?_
        exact rtMZ hR h isb0 _ _ D_M_takesPart_51
    · have h := ifT c_18 h
      refine j_aload_n S D_M_takesPart_21 0 rfl rfl ?_
      refine j_aload_n S D_M_takesPart_22 0 rfl rfl ?_
      refine j_getI S D_M_takesPart_23 fl_R6_195 sh_Mod rfl ?_
      obtain ⟨r_26, e_26, h⟩ := bpE h
      refine j_callVI (As := [.int (mem 91 11)]) S D_M_takesPart_26 mv_R6_216 (c_M_nameOf (cxL X) E (mem 91 11) e_26) (by decide) sh_Mod rfl rfl rfl rfl (Nat.le_of_ble_eq_true rfl) ?_
      refine j_dia (P := J X E 2 37 [(0, .ref (eb E + 91))] [.int (if r_26 < 0 then (0 : Int32) else 1)] SH mem) (fun hj => ?_) ?_
      · refine j_if_lt S D_M_takesPart_29 (fun c_29 => ?_) (fun c_29 => ?_)
        · refine j_iconst S D_M_takesPart_36 ci_0 ?_
          exact j_jnT hj c_29
        · refine j_iconst S D_M_takesPart_32 ci_1 ?_
          refine j_goto S D_M_takesPart_33 ?_
          exact j_jnF hj c_29
      obtain ⟨x_37, hx_37, h⟩ := ltE h
      refine j_nm hx_37 ?_
      refine j_istore_n S D_M_takesPart_37 (lv := [(1, .int x_37), (0, .ref (eb E + 91))]) rfl ⟨rfl, (Nat.le_of_ble_eq_true rfl)⟩ ?_
      refine j_aload_n S D_M_takesPart_38 1 rfl rfl ?_
      refine j_getI S D_M_takesPart_39 fl_R6_189 sh_Mod rfl ?_
      refine j_iconst S D_M_takesPart_42 ci_2 ?_
      refine j_icmp_eq S D_M_takesPart_43 (fun c_43 => ?_) (fun c_43 => ?_)
      · have h := ifT c_43 h
        refine j_aload_n S D_M_takesPart_52 1 rfl rfl ?_
        refine j_getR S D_M_takesPart_53 fl_R6_36 sh_Mod rfl ?_
        refine j_aload_n S D_M_takesPart_56 1 rfl rfl ?_
        refine j_getI S D_M_takesPart_57 fl_R6_213 sh_Mod rfl ?_
        refine j_aload_n S D_M_takesPart_60 1 rfl rfl ?_
        refine j_getI S D_M_takesPart_61 fl_R6_189 sh_Mod rfl ?_
        refine j_iconst S D_M_takesPart_64 ci_2 ?_
        refine j_icmp_ne S D_M_takesPart_65 (fun c_65 => ?_) (fun c_65 => ?_)
        · have h := ifF c_65 h
          refine j_sipush S D_M_takesPart_75 cs_10000 ?_
          refine j_aload_n S D_M_takesPart_78 1 rfl rfl ?_
          refine j_aload_n S D_M_takesPart_79 1 rfl rfl ?_
          refine j_getI S D_M_takesPart_80 fl_R6_195 sh_Mod rfl ?_
          obtain ⟨r_83, e_83, h⟩ := bpE h
          refine j_callVI (As := [.int (mem 91 11)]) S D_M_takesPart_83 mv_R6_216 (c_M_nameOf (cxL X) E (mem 91 11) e_83) (by decide) sh_Mod rfl rfl rfl rfl (Nat.le_of_ble_eq_true rfl) ?_
          refine j_iadd S D_M_takesPart_86 ?_
          obtain ⟨g_87, h⟩ := gdE h
          obtain ⟨m_87, hm_87, h⟩ := ltE h
          refine j_iast S D_M_takesPart_87 sh_99 g_87 ?_
          refine j_mem hm_87 ?_
          refine j_aload_n S D_M_takesPart_88 1 rfl rfl ?_
          refine j_dup S D_M_takesPart_89 rfl ?_
          refine j_getI S D_M_takesPart_90 fl_R6_213 sh_Mod rfl ?_
          refine j_iconst S D_M_takesPart_93 ci_1 ?_
          refine j_iadd S D_M_takesPart_94 ?_
          obtain ⟨m_95, hm_95, h⟩ := ltE h
          refine j_putI S D_M_takesPart_95 fp_R6_213 sh_Mod rfl ?_
          refine j_mem hm_95 ?_
          refine j_aload_n S D_M_takesPart_98 1 rfl rfl ?_
          refine j_dup S D_M_takesPart_99 rfl ?_
          refine j_getI S D_M_takesPart_100 fl_R6_219 sh_Mod rfl ?_
          refine j_iconst S D_M_takesPart_103 ci_1 ?_
          refine j_iadd S D_M_takesPart_104 ?_
          obtain ⟨m_105, hm_105, h⟩ := ltE h
          refine j_putI S D_M_takesPart_105 fp_R6_219 sh_Mod rfl ?_
          refine j_mem hm_105 ?_
          refine j_aload_n S D_M_takesPart_108 1 rfl rfl ?_
          refine j_bipush S D_M_takesPart_109 cb_6 ?_
          obtain ⟨m_111, e_111, h⟩ := bpE h
          refine j_callVV (As := [.int 6]) S D_M_takesPart_111 mv_R6_222 (c_M_settle (cxL X) E N 6 e_111) (by decide) sh_Mod rfl rfl rfl rfl (Nat.le_of_ble_eq_true rfl) ?_
          refine j_aload_n S D_M_takesPart_114 1 rfl rfl ?_
          obtain ⟨m_115, e_115, h⟩ := bpE h
          refine j_callVV (As := []) S D_M_takesPart_115 mv_R6_204 (c_M_go (cxL X) E N e_115) (by decide) sh_Mod rfl rfl rfl rfl (Nat.le_of_ble_eq_true rfl) ?_
          refine j_iconst S D_M_takesPart_118 ci_1 ?_
          exact rtMZ hR h isb1 _ _ D_M_takesPart_119
        · have h := ifT c_65 h
          refine j_aload_n S D_M_takesPart_68 1 rfl rfl ?_
          refine j_getI S D_M_takesPart_69 fl_R6_195 sh_Mod rfl ?_
          refine j_goto S D_M_takesPart_72 ?_
          obtain ⟨g_87, h⟩ := gdE h
          obtain ⟨m_87, hm_87, h⟩ := ltE h
          refine j_iast S D_M_takesPart_87 sh_99 g_87 ?_
          refine j_mem hm_87 ?_
          refine j_aload_n S D_M_takesPart_88 1 rfl rfl ?_
          refine j_dup S D_M_takesPart_89 rfl ?_
          refine j_getI S D_M_takesPart_90 fl_R6_213 sh_Mod rfl ?_
          refine j_iconst S D_M_takesPart_93 ci_1 ?_
          refine j_iadd S D_M_takesPart_94 ?_
          obtain ⟨m_95, hm_95, h⟩ := ltE h
          refine j_putI S D_M_takesPart_95 fp_R6_213 sh_Mod rfl ?_
          refine j_mem hm_95 ?_
          refine j_aload_n S D_M_takesPart_98 1 rfl rfl ?_
          refine j_dup S D_M_takesPart_99 rfl ?_
          refine j_getI S D_M_takesPart_100 fl_R6_219 sh_Mod rfl ?_
          refine j_iconst S D_M_takesPart_103 ci_1 ?_
          refine j_iadd S D_M_takesPart_104 ?_
          obtain ⟨m_105, hm_105, h⟩ := ltE h
          refine j_putI S D_M_takesPart_105 fp_R6_219 sh_Mod rfl ?_
          refine j_mem hm_105 ?_
          refine j_aload_n S D_M_takesPart_108 1 rfl rfl ?_
          refine j_bipush S D_M_takesPart_109 cb_6 ?_
          obtain ⟨m_111, e_111, h⟩ := bpE h
          refine j_callVV (As := [.int 6]) S D_M_takesPart_111 mv_R6_222 (c_M_settle (cxL X) E N 6 e_111) (by decide) sh_Mod rfl rfl rfl rfl (Nat.le_of_ble_eq_true rfl) ?_
          refine j_aload_n S D_M_takesPart_114 1 rfl rfl ?_
          obtain ⟨m_115, e_115, h⟩ := bpE h
          refine j_callVV (As := []) S D_M_takesPart_115 mv_R6_204 (c_M_go (cxL X) E N e_115) (by decide) sh_Mod rfl rfl rfl rfl (Nat.le_of_ble_eq_true rfl) ?_
          refine j_iconst S D_M_takesPart_118 ci_1 ?_
          exact rtMZ hR h isb1 _ _ D_M_takesPart_119
      · have h := ifF c_43 h
        refine j_iload_n S D_M_takesPart_46 0 rfl rfl ?_
        refine j_if_ne S D_M_takesPart_47 (fun c_47 => ?_) (fun c_47 => ?_)
        · have h := ifF c_47 h
          refine j_aload_n S D_M_takesPart_52 1 rfl rfl ?_
          refine j_getR S D_M_takesPart_53 fl_R6_36 sh_Mod rfl ?_
          refine j_aload_n S D_M_takesPart_56 1 rfl rfl ?_
          refine j_getI S D_M_takesPart_57 fl_R6_213 sh_Mod rfl ?_
          refine j_aload_n S D_M_takesPart_60 1 rfl rfl ?_
          refine j_getI S D_M_takesPart_61 fl_R6_189 sh_Mod rfl ?_
          refine j_iconst S D_M_takesPart_64 ci_2 ?_
          refine j_icmp_ne S D_M_takesPart_65 (fun c_65 => ?_) (fun c_65 => ?_)
          · have h := ifF c_65 h
            refine j_sipush S D_M_takesPart_75 cs_10000 ?_
            refine j_aload_n S D_M_takesPart_78 1 rfl rfl ?_
            refine j_aload_n S D_M_takesPart_79 1 rfl rfl ?_
            refine j_getI S D_M_takesPart_80 fl_R6_195 sh_Mod rfl ?_
            obtain ⟨r_83, e_83, h⟩ := bpE h
            refine j_callVI (As := [.int (mem 91 11)]) S D_M_takesPart_83 mv_R6_216 (c_M_nameOf (cxL X) E (mem 91 11) e_83) (by decide) sh_Mod rfl rfl rfl rfl (Nat.le_of_ble_eq_true rfl) ?_
            refine j_iadd S D_M_takesPart_86 ?_
            obtain ⟨g_87, h⟩ := gdE h
            obtain ⟨m_87, hm_87, h⟩ := ltE h
            refine j_iast S D_M_takesPart_87 sh_99 g_87 ?_
            refine j_mem hm_87 ?_
            refine j_aload_n S D_M_takesPart_88 1 rfl rfl ?_
            refine j_dup S D_M_takesPart_89 rfl ?_
            refine j_getI S D_M_takesPart_90 fl_R6_213 sh_Mod rfl ?_
            refine j_iconst S D_M_takesPart_93 ci_1 ?_
            refine j_iadd S D_M_takesPart_94 ?_
            obtain ⟨m_95, hm_95, h⟩ := ltE h
            refine j_putI S D_M_takesPart_95 fp_R6_213 sh_Mod rfl ?_
            refine j_mem hm_95 ?_
            refine j_aload_n S D_M_takesPart_98 1 rfl rfl ?_
            refine j_dup S D_M_takesPart_99 rfl ?_
            refine j_getI S D_M_takesPart_100 fl_R6_219 sh_Mod rfl ?_
            refine j_iconst S D_M_takesPart_103 ci_1 ?_
            refine j_iadd S D_M_takesPart_104 ?_
            obtain ⟨m_105, hm_105, h⟩ := ltE h
            refine j_putI S D_M_takesPart_105 fp_R6_219 sh_Mod rfl ?_
            refine j_mem hm_105 ?_
            refine j_aload_n S D_M_takesPart_108 1 rfl rfl ?_
            refine j_bipush S D_M_takesPart_109 cb_6 ?_
            obtain ⟨m_111, e_111, h⟩ := bpE h
            refine j_callVV (As := [.int 6]) S D_M_takesPart_111 mv_R6_222 (c_M_settle (cxL X) E N 6 e_111) (by decide) sh_Mod rfl rfl rfl rfl (Nat.le_of_ble_eq_true rfl) ?_
            refine j_aload_n S D_M_takesPart_114 1 rfl rfl ?_
            obtain ⟨m_115, e_115, h⟩ := bpE h
            refine j_callVV (As := []) S D_M_takesPart_115 mv_R6_204 (c_M_go (cxL X) E N e_115) (by decide) sh_Mod rfl rfl rfl rfl (Nat.le_of_ble_eq_true rfl) ?_
            refine j_iconst S D_M_takesPart_118 ci_1 ?_
            exact rtMZ hR h isb1 _ _ D_M_takesPart_119
          · have h := ifT c_65 h
            refine j_aload_n S D_M_takesPart_68 1 rfl rfl ?_
            refine j_getI S D_M_takesPart_69 fl_R6_195 sh_Mod rfl ?_
            refine j_goto S D_M_takesPart_72 ?_
            obtain ⟨g_87, h⟩ := gdE h
            obtain ⟨m_87, hm_87, h⟩ := ltE h
            refine j_iast S D_M_takesPart_87 sh_99 g_87 ?_
            refine j_mem hm_87 ?_
            refine j_aload_n S D_M_takesPart_88 1 rfl rfl ?_
            refine j_dup S D_M_takesPart_89 rfl ?_
            refine j_getI S D_M_takesPart_90 fl_R6_213 sh_Mod rfl ?_
            refine j_iconst S D_M_takesPart_93 ci_1 ?_
            refine j_iadd S D_M_takesPart_94 ?_
            obtain ⟨m_95, hm_95, h⟩ := ltE h
            refine j_putI S D_M_takesPart_95 fp_R6_213 sh_Mod rfl ?_
            refine j_mem hm_95 ?_
            refine j_aload_n S D_M_takesPart_98 1 rfl rfl ?_
            refine j_dup S D_M_takesPart_99 rfl ?_
            refine j_getI S D_M_takesPart_100 fl_R6_219 sh_Mod rfl ?_
            refine j_iconst S D_M_takesPart_103 ci_1 ?_
            refine j_iadd S D_M_takesPart_104 ?_
            obtain ⟨m_105, hm_105, h⟩ := ltE h
            refine j_putI S D_M_takesPart_105 fp_R6_219 sh_Mod rfl ?_
            refine j_mem hm_105 ?_
            refine j_aload_n S D_M_takesPart_108 1 rfl rfl ?_
            refine j_bipush S D_M_takesPart_109 cb_6 ?_
            obtain ⟨m_111, e_111, h⟩ := bpE h
            refine j_callVV (As := [.int 6]) S D_M_takesPart_111 mv_R6_222 (c_M_settle (cxL X) E N 6 e_111) (by decide) sh_Mod rfl rfl rfl rfl (Nat.le_of_ble_eq_true rfl) ?_
            refine j_aload_n S D_M_takesPart_114 1 rfl rfl ?_
            obtain ⟨m_115, e_115, h⟩ := bpE h
            refine j_callVV (As := []) S D_M_takesPart_115 mv_R6_204 (c_M_go (cxL X) E N e_115) (by decide) sh_Mod rfl rfl rfl rfl (Nat.le_of_ble_eq_true rfl) ?_
            refine j_iconst S D_M_takesPart_118 ci_1 ?_
            exact rtMZ hR h isb1 _ _ D_M_takesPart_119
        · have h := ifT c_47 h
          refine j_iconst S D_M_takesPart_50 ci_0 ?_
          exact rtMZ hR h isb0 _ _ D_M_takesPart_51
