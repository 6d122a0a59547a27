def y_S_hours : MethodName := ⟨"SandPicture", "hours", "(I)I"⟩
theorem D_S_hours_0 : decode prog_1_method_14_code 0 = .ok (.iload_n 1, 1) ∧ 0 + 1 = 1 := by decide +kernel
theorem D_S_hours_1 : decode prog_1_method_14_code 1 = .ok (.iconst 1, 1) ∧ 1 + 1 = 2 := by decide +kernel
theorem D_S_hours_2 : decode prog_1_method_14_code 2 = .ok (.bipush 100, 2) ∧ 2 + 2 = 4 := by decide +kernel
theorem D_S_hours_4 : decode prog_1_method_14_code 4 = .ok (.invokestatic 70, 3) ∧ 4 + 3 = 7 := by decide +kernel
theorem D_S_hours_7 : decode prog_1_method_14_code 7 = .ok (.ifCond .ne 6, 3) ∧ ((7 : Nat) : Int) + 6 = ((13 : Nat) : Int) ∧ 7 + 3 = 10 := by decide +kernel
theorem D_S_hours_13 : decode prog_1_method_14_code 13 = .ok (.aload_n 0, 1) ∧ 13 + 1 = 14 := by decide +kernel
theorem D_S_hours_14 : decode prog_1_method_14_code 14 = .ok (.getfield 52, 3) ∧ 14 + 3 = 17 := by decide +kernel
theorem D_S_hours_17 : decode prog_1_method_14_code 17 = .ok (.iload_n 1, 1) ∧ 17 + 1 = 18 := by decide +kernel
theorem D_S_hours_18 : decode prog_1_method_14_code 18 = .ok (.sipush 9999, 3) ∧ 18 + 3 = 21 := by decide +kernel
theorem D_S_hours_21 : decode prog_1_method_14_code 21 = .ok (.aload_n 0, 1) ∧ 21 + 1 = 22 := by decide +kernel
theorem D_S_hours_22 : decode prog_1_method_14_code 22 = .ok (.getfield 52, 3) ∧ 22 + 3 = 25 := by decide +kernel
theorem D_S_hours_25 : decode prog_1_method_14_code 25 = .ok (.getfield 149, 3) ∧ 25 + 3 = 28 := by decide +kernel
theorem D_S_hours_28 : decode prog_1_method_14_code 28 = .ok (.isub, 1) ∧ 28 + 1 = 29 := by decide +kernel
theorem D_S_hours_29 : decode prog_1_method_14_code 29 = .ok (.invokestatic 138, 3) ∧ 29 + 3 = 32 := by decide +kernel
theorem D_S_hours_32 : decode prog_1_method_14_code 32 = .ok (.invokevirtual 152, 3) ∧ 32 + 3 = 35 := by decide +kernel
theorem D_S_hours_35 : decode prog_1_method_14_code 35 = .ok (.ireturn, 1) := by decide +kernel
theorem D_S_hours_10 : decode prog_1_method_14_code 10 = .ok (.ldc 77, 2) ∧ 10 + 2 = 12 := by decide +kernel
theorem D_S_hours_12 : decode prog_1_method_14_code 12 = .ok (.ireturn, 1) := by decide +kernel
def f_S_hours (N : Nat) (a1 : Int32) (mem : Mm) : Option (Int32 × Mm) := bp (f_S_within a1 1 100) fun r_4 => if r_4 = 0 then some ((-1000000001), mem) else bd (f_P_passHours N 38 (if (9999 - (mem 38 15)) < a1 then 9999 - (mem 38 15) else a1) mem) fun r_32 m_32 => some (r_32, m_32)
theorem c_S_hours (l : Launch) (E : En) (N : Nat) (a1 : Int32) {mem : Mm} {r : Int32} {m2 : Mm} (h : f_S_hours N a1 mem = some (r, m2)) : CtI l E 7 y_S_hours prog_1_method_14_code 2 (some .int) [.ref (eb E + 0), .int a1] SH mem r m2 := by
  refine mk_CtI ⟨by decide, (Nat.le_of_ble_eq_true rfl)⟩ (fun X S hl hR => ?_)
  have S : Std X E prog_1_method_14_code R5 2 7 := S
  show J X E 2 0 [(0, .ref (eb E + 0)), (1, .int a1)] [] SH mem
  unfold f_S_hours at h
  refine j_iload_n S D_S_hours_0 1 rfl rfl ?_
  refine j_iconst S D_S_hours_1 ci_1 ?_
  refine j_bipush S D_S_hours_2 cb_100 ?_
  obtain ⟨r_4, e_4, h⟩ := bpE h
  refine j_callSI (As := [.int a1, .int 1, .int 100]) S D_S_hours_4 ms_R5_70 (c_S_within (cxL X) E a1 1 100 (mem := mem) e_4) (by decide) rfl rfl (Nat.le_of_ble_eq_true rfl) ?_
  refine j_if_ne S D_S_hours_7 (fun c_7 => ?_) (fun c_7 => ?_)
  · have h := ifF c_7 h
    refine j_aload_n S D_S_hours_13 0 rfl rfl ?_
    refine j_getR S D_S_hours_14 fl_R5_52 sh_Sand rfl ?_
    refine j_iload_n S D_S_hours_17 1 rfl rfl ?_
    refine j_sipush S D_S_hours_18 cs_9999 ?_
    refine j_aload_n S D_S_hours_21 0 rfl rfl ?_
    refine j_getR S D_S_hours_22 fl_R5_52 sh_Sand rfl ?_
    refine j_getI S D_S_hours_25 fl_R5_149 sh_P38 rfl ?_
    refine j_isub S D_S_hours_28 ?_
    refine j_mmin S D_S_hours_29 (by decide) mm_R5_138 (Nat.le_of_ble_eq_true rfl) ?_
    obtain ⟨r_32, m_32, e_32, h⟩ := bdE h
    refine j_callVI (As := [.int (if (9999 - (mem 38 15)) < a1 then 9999 - (mem 38 15) else a1)]) S D_S_hours_32 mv_R5_152 (c_P_passHours (cxL X) E N 38 pic_38 (if (9999 - (mem 38 15)) < a1 then 9999 - (mem 38 15) else a1) e_32) (by decide) sh_P38 rfl rfl rfl rfl (Nat.le_of_ble_eq_true rfl) ?_
    exact rtM hR h _ _ D_S_hours_35
  · have h := ifT c_7 h
    refine j_ldc S D_S_hours_10 co_R5_77 ?_
    exact rtM hR h _ _ D_S_hours_12

def y_S_sum : MethodName := ⟨"SandPicture", "sum", "([I)I"⟩
theorem D_S_sum_0 : decode prog_1_method_51_code 0 = .ok (.iconst 0, 1) ∧ 0 + 1 = 1 := by decide +kernel
theorem D_S_sum_1 : decode prog_1_method_51_code 1 = .ok (.istore_n 1, 1) ∧ 1 + 1 = 2 := by decide +kernel
theorem D_S_sum_2 : decode prog_1_method_51_code 2 = .ok (.aload_n 0, 1) ∧ 2 + 1 = 3 := by decide +kernel
theorem D_S_sum_3 : decode prog_1_method_51_code 3 = .ok (.astore_n 2, 1) ∧ 3 + 1 = 4 := by decide +kernel
theorem D_S_sum_4 : decode prog_1_method_51_code 4 = .ok (.aload_n 2, 1) ∧ 4 + 1 = 5 := by decide +kernel
theorem D_S_sum_5 : decode prog_1_method_51_code 5 = .ok (.arraylength, 1) ∧ 5 + 1 = 6 := by decide +kernel
theorem D_S_sum_6 : decode prog_1_method_51_code 6 = .ok (.istore_n 3, 1) ∧ 6 + 1 = 7 := by decide +kernel
theorem D_S_sum_7 : decode prog_1_method_51_code 7 = .ok (.iconst 0, 1) ∧ 7 + 1 = 8 := by decide +kernel
theorem D_S_sum_8 : decode prog_1_method_51_code 8 = .ok (.istore 4, 2) ∧ 8 + 2 = 10 := by decide +kernel
theorem D_S_sum_10 : decode prog_1_method_51_code 10 = .ok (.iload 4, 2) ∧ 10 + 2 = 12 := by decide +kernel
theorem D_S_sum_12 : decode prog_1_method_51_code 12 = .ok (.iload_n 3, 1) ∧ 12 + 1 = 13 := by decide +kernel
theorem D_S_sum_13 : decode prog_1_method_51_code 13 = .ok (.if_icmp .ge 20, 3) ∧ ((13 : Nat) : Int) + 20 = ((33 : Nat) : Int) ∧ 13 + 3 = 16 := by decide +kernel
theorem D_S_sum_16 : decode prog_1_method_51_code 16 = .ok (.aload_n 2, 1) ∧ 16 + 1 = 17 := by decide +kernel
theorem D_S_sum_17 : decode prog_1_method_51_code 17 = .ok (.iload 4, 2) ∧ 17 + 2 = 19 := by decide +kernel
theorem D_S_sum_19 : decode prog_1_method_51_code 19 = .ok (.iaload, 1) ∧ 19 + 1 = 20 := by decide +kernel
theorem D_S_sum_20 : decode prog_1_method_51_code 20 = .ok (.istore 5, 2) ∧ 20 + 2 = 22 := by decide +kernel
theorem D_S_sum_22 : decode prog_1_method_51_code 22 = .ok (.iload_n 1, 1) ∧ 22 + 1 = 23 := by decide +kernel
theorem D_S_sum_23 : decode prog_1_method_51_code 23 = .ok (.iload 5, 2) ∧ 23 + 2 = 25 := by decide +kernel
theorem D_S_sum_25 : decode prog_1_method_51_code 25 = .ok (.iadd, 1) ∧ 25 + 1 = 26 := by decide +kernel
theorem D_S_sum_26 : decode prog_1_method_51_code 26 = .ok (.istore_n 1, 1) ∧ 26 + 1 = 27 := by decide +kernel
theorem D_S_sum_27 : decode prog_1_method_51_code 27 = .ok (.iinc 4 1, 3) ∧ 27 + 3 = 30 := by decide +kernel
theorem D_S_sum_30 : decode prog_1_method_51_code 30 = .ok (.goto (-20), 3) ∧ ((30 : Nat) : Int) + (-20) = ((10 : Nat) : Int) := by decide +kernel
theorem D_S_sum_33 : decode prog_1_method_51_code 33 = .ok (.iload_n 1, 1) ∧ 33 + 1 = 34 := by decide +kernel
theorem D_S_sum_34 : decode prog_1_method_51_code 34 = .ok (.ireturn, 1) := by decide +kernel
def f_S_sum_L10 (o1 n1 : Nat) : Nat → Int32 → Int32 → Int32 → Mm → Option (Int32 × Int32)
  | 0, _, _, _, _ => none
  | n + 1, b1, b3, b4, mem => if b3 ≤ b4 then some (b1, b4) else if inb b4 n1 = true then lt (mem o1 (ix b4)) fun x_20 => lt (b1 + x_20) fun x_26 => f_S_sum_L10 o1 n1 n x_26 b3 (b4 + 1) mem else none
def f_S_sum (N : Nat) (o1 n1 : Nat) (mem : Mm) : Option (Int32) := lt (Int32.ofNat n1) fun x_6 => bp (f_S_sum_L10 o1 n1 N 0 x_6 0 mem) fun y_10 => some y_10.1
theorem L_S_sum_10 {X : Cx} {E : En} (S : Std X E prog_1_method_51_code R5 6 0) (o1 n1 : Nat) (ho1 : SH[o1]? = some (.inr (.inl (0, n1)))) {mem : Mm} : ∀ (n : Nat) (b1 : Int32) (b3 : Int32) (b4 : Int32) (z : Int32 × Int32), f_S_sum_L10 o1 n1 n b1 b3 b4 mem = some z → J X E 6 33 [(0, .ref (eb E + o1)), (1, .int z.1), (2, .ref (eb E + o1)), (3, .int b3), (4, .int z.2)] [] SH mem → J X E 6 10 [(0, .ref (eb E + o1)), (1, .int b1), (2, .ref (eb E + o1)), (3, .int b3), (4, .int b4)] [] SH mem := by
  intro n
  induction n with
  | zero =>
    intro b1 b3 b4 z h hk; cases h
  | succ n ih =>
    intro b1 b3 b4 z h hk
    rw [f_S_sum_L10] at h
    refine j_iload S D_S_sum_10 4 rfl ?_
    refine j_iload_n S D_S_sum_12 3 rfl rfl ?_
    refine j_icmp_ge S D_S_sum_13 (fun c_13 => ?_) (fun c_13 => ?_)
    · have h := ifT c_13 h
      cases h
      exact j_locals [0, 1, 2, 3, 4] rfl hk
    · have h := ifF c_13 h
      refine j_aload_n S D_S_sum_16 2 rfl rfl ?_
      refine j_iload S D_S_sum_17 4 rfl ?_
      obtain ⟨g_19, h⟩ := gdE h
      refine j_iald S D_S_sum_19 ho1 g_19 ?_
      obtain ⟨x_20, hx_20, h⟩ := ltE h
      refine j_nm hx_20 ?_
      refine j_istore S D_S_sum_20 (lv := [(5, .int x_20), (0, .ref (eb E + o1)), (1, .int b1), (2, .ref (eb E + o1)), (3, .int b3), (4, .int b4)]) rfl (Nat.le_of_ble_eq_true rfl) ?_
      refine j_iload_n S D_S_sum_22 2 rfl rfl ?_
      refine j_iload S D_S_sum_23 0 rfl ?_
      refine j_iadd S D_S_sum_25 ?_
      obtain ⟨x_26, hx_26, h⟩ := ltE h
      refine j_nm hx_26 ?_
      refine j_istore_n S D_S_sum_26 (lv := [(1, .int x_26), (5, .int x_20), (0, .ref (eb E + o1)), (2, .ref (eb E + o1)), (3, .int b3), (4, .int b4)]) rfl ⟨rfl, (Nat.le_of_ble_eq_true rfl)⟩ ?_
      refine j_iinc S D_S_sum_27 5 rfl (congrArg (fun z => b4 + z) ci_1) (lv := [(4, .int (b4 + 1)), (1, .int x_26), (5, .int x_20), (0, .ref (eb E + o1)), (2, .ref (eb E + o1)), (3, .int b3)]) rfl (Nat.le_of_ble_eq_true rfl) ?_
      refine j_goto S D_S_sum_30 ?_
      refine j_locals [3, 1, 4, 5, 0] rfl (ih x_26 b3 (b4 + 1) _ h hk)
theorem c_S_sum (l : Launch) (E : En) (N : Nat) (o1 n1 : Nat) (ho1 : SH[o1]? = some (.inr (.inl (0, n1)))) {mem : Mm} {r : Int32} (h : f_S_sum N o1 n1 mem = some r) : CtI l E 0 y_S_sum prog_1_method_51_code 6 (some .int) [.ref (eb E + o1)] SH mem r mem := by
  refine mk_CtI ⟨by decide, (Nat.le_of_ble_eq_true rfl)⟩ (fun X S hl hR => ?_)
  have S : Std X E prog_1_method_51_code R5 6 0 := S
  show J X E 6 0 [(0, .ref (eb E + o1))] [] SH mem
  unfold f_S_sum at h
  refine j_iconst S D_S_sum_0 ci_0 ?_
  refine j_istore_n S D_S_sum_1 (lv := [(1, .int 0), (0, .ref (eb E + o1))]) rfl ⟨rfl, (Nat.le_of_ble_eq_true rfl)⟩ ?_
  refine j_aload_n S D_S_sum_2 1 rfl rfl ?_
  refine j_astore_n S D_S_sum_3 (lv := [(2, .ref (eb E + o1)), (1, .int 0), (0, .ref (eb E + o1))]) rfl ⟨rfl, (Nat.le_of_ble_eq_true rfl)⟩ ?_
  refine j_aload_n S D_S_sum_4 0 rfl rfl ?_
  refine j_alen S D_S_sum_5 ho1 rfl ?_
  obtain ⟨x_6, hx_6, h⟩ := ltE h
  refine j_nm hx_6 ?_
  refine j_istore_n S D_S_sum_6 (lv := [(3, .int x_6), (2, .ref (eb E + o1)), (1, .int 0), (0, .ref (eb E + o1))]) rfl ⟨rfl, (Nat.le_of_ble_eq_true rfl)⟩ ?_
  refine j_iconst S D_S_sum_7 ci_0 ?_
  refine j_istore S D_S_sum_8 (lv := [(4, .int 0), (3, .int x_6), (2, .ref (eb E + o1)), (1, .int 0), (0, .ref (eb E + o1))]) rfl (Nat.le_of_ble_eq_true rfl) ?_
  refine j_locals [4, 3, 2, 1, 0] rfl ?_
  obtain ⟨y_10, e_10, h⟩ := bpE h
  refine L_S_sum_10 S o1 n1 ho1 N 0 x_6 0 _ e_10 ?_
  refine j_iload_n S D_S_sum_33 1 rfl rfl ?_
  exact rtI hR h _ _ D_S_sum_34

def y_S_grains : MethodName := ⟨"SandPicture", "grains", "(I)I"⟩
theorem D_S_grains_0 : decode prog_1_method_15_code 0 = .ok (.iload_n 1, 1) ∧ 0 + 1 = 1 := by decide +kernel
theorem D_S_grains_1 : decode prog_1_method_15_code 1 = .ok (.tableswitch 126 0 7 #[47, 55, 66, 76, 86, 96, 107, 118], 47) := by decide +kernel
theorem D_S_grains_48 : decode prog_1_method_15_code 48 = .ok (.aload_n 0, 1) ∧ 48 + 1 = 49 := by decide +kernel
theorem D_S_grains_49 : decode prog_1_method_15_code 49 = .ok (.getfield 52, 3) ∧ 49 + 3 = 52 := by decide +kernel
theorem D_S_grains_52 : decode prog_1_method_15_code 52 = .ok (.getfield 156, 3) ∧ 52 + 3 = 55 := by decide +kernel
theorem D_S_grains_55 : decode prog_1_method_15_code 55 = .ok (.ireturn, 1) := by decide +kernel
theorem D_S_grains_56 : decode prog_1_method_15_code 56 = .ok (.aload_n 0, 1) ∧ 56 + 1 = 57 := by decide +kernel
theorem D_S_grains_57 : decode prog_1_method_15_code 57 = .ok (.getfield 52, 3) ∧ 57 + 3 = 60 := by decide +kernel
theorem D_S_grains_60 : decode prog_1_method_15_code 60 = .ok (.getfield 119, 3) ∧ 60 + 3 = 63 := by decide +kernel
theorem D_S_grains_63 : decode prog_1_method_15_code 63 = .ok (.invokestatic 159, 3) ∧ 63 + 3 = 66 := by decide +kernel
theorem D_S_grains_66 : decode prog_1_method_15_code 66 = .ok (.ireturn, 1) := by decide +kernel
theorem D_S_grains_67 : decode prog_1_method_15_code 67 = .ok (.aload_n 0, 1) ∧ 67 + 1 = 68 := by decide +kernel
theorem D_S_grains_68 : decode prog_1_method_15_code 68 = .ok (.getfield 52, 3) ∧ 68 + 3 = 71 := by decide +kernel
theorem D_S_grains_71 : decode prog_1_method_15_code 71 = .ok (.getfield 132, 3) ∧ 71 + 3 = 74 := by decide +kernel
theorem D_S_grains_74 : decode prog_1_method_15_code 74 = .ok (.iconst 0, 1) ∧ 74 + 1 = 75 := by decide +kernel
theorem D_S_grains_75 : decode prog_1_method_15_code 75 = .ok (.iaload, 1) ∧ 75 + 1 = 76 := by decide +kernel
theorem D_S_grains_76 : decode prog_1_method_15_code 76 = .ok (.ireturn, 1) := by decide +kernel
theorem D_S_grains_77 : decode prog_1_method_15_code 77 = .ok (.aload_n 0, 1) ∧ 77 + 1 = 78 := by decide +kernel
theorem D_S_grains_78 : decode prog_1_method_15_code 78 = .ok (.getfield 52, 3) ∧ 78 + 3 = 81 := by decide +kernel
theorem D_S_grains_81 : decode prog_1_method_15_code 81 = .ok (.getfield 132, 3) ∧ 81 + 3 = 84 := by decide +kernel
theorem D_S_grains_84 : decode prog_1_method_15_code 84 = .ok (.iconst 1, 1) ∧ 84 + 1 = 85 := by decide +kernel
theorem D_S_grains_85 : decode prog_1_method_15_code 85 = .ok (.iaload, 1) ∧ 85 + 1 = 86 := by decide +kernel
theorem D_S_grains_86 : decode prog_1_method_15_code 86 = .ok (.ireturn, 1) := by decide +kernel
theorem D_S_grains_87 : decode prog_1_method_15_code 87 = .ok (.aload_n 0, 1) ∧ 87 + 1 = 88 := by decide +kernel
theorem D_S_grains_88 : decode prog_1_method_15_code 88 = .ok (.getfield 52, 3) ∧ 88 + 3 = 91 := by decide +kernel
theorem D_S_grains_91 : decode prog_1_method_15_code 91 = .ok (.getfield 132, 3) ∧ 91 + 3 = 94 := by decide +kernel
theorem D_S_grains_94 : decode prog_1_method_15_code 94 = .ok (.iconst 2, 1) ∧ 94 + 1 = 95 := by decide +kernel
theorem D_S_grains_95 : decode prog_1_method_15_code 95 = .ok (.iaload, 1) ∧ 95 + 1 = 96 := by decide +kernel
theorem D_S_grains_96 : decode prog_1_method_15_code 96 = .ok (.ireturn, 1) := by decide +kernel
theorem D_S_grains_97 : decode prog_1_method_15_code 97 = .ok (.aload_n 0, 1) ∧ 97 + 1 = 98 := by decide +kernel
theorem D_S_grains_98 : decode prog_1_method_15_code 98 = .ok (.getfield 52, 3) ∧ 98 + 3 = 101 := by decide +kernel
theorem D_S_grains_101 : decode prog_1_method_15_code 101 = .ok (.getfield 122, 3) ∧ 101 + 3 = 104 := by decide +kernel
theorem D_S_grains_104 : decode prog_1_method_15_code 104 = .ok (.invokestatic 159, 3) ∧ 104 + 3 = 107 := by decide +kernel
theorem D_S_grains_107 : decode prog_1_method_15_code 107 = .ok (.ireturn, 1) := by decide +kernel
theorem D_S_grains_108 : decode prog_1_method_15_code 108 = .ok (.aload_n 0, 1) ∧ 108 + 1 = 109 := by decide +kernel
theorem D_S_grains_109 : decode prog_1_method_15_code 109 = .ok (.getfield 52, 3) ∧ 109 + 3 = 112 := by decide +kernel
theorem D_S_grains_112 : decode prog_1_method_15_code 112 = .ok (.getfield 125, 3) ∧ 112 + 3 = 115 := by decide +kernel
theorem D_S_grains_115 : decode prog_1_method_15_code 115 = .ok (.invokestatic 159, 3) ∧ 115 + 3 = 118 := by decide +kernel
theorem D_S_grains_118 : decode prog_1_method_15_code 118 = .ok (.ireturn, 1) := by decide +kernel
theorem D_S_grains_119 : decode prog_1_method_15_code 119 = .ok (.aload_n 0, 1) ∧ 119 + 1 = 120 := by decide +kernel
theorem D_S_grains_120 : decode prog_1_method_15_code 120 = .ok (.getfield 52, 3) ∧ 120 + 3 = 123 := by decide +kernel
theorem D_S_grains_123 : decode prog_1_method_15_code 123 = .ok (.getfield 163, 3) ∧ 123 + 3 = 126 := by decide +kernel
theorem D_S_grains_126 : decode prog_1_method_15_code 126 = .ok (.ireturn, 1) := by decide +kernel
theorem D_S_grains_127 : decode prog_1_method_15_code 127 = .ok (.ldc 77, 2) ∧ 127 + 2 = 129 := by decide +kernel
theorem D_S_grains_129 : decode prog_1_method_15_code 129 = .ok (.ireturn, 1) := by decide +kernel
theorem D_S_grains_1o : decode prog_1_method_15_code 1 = .ok (.tableswitch 126 0 7 #[47, 55, 66, 76, 86, 96, 107, 118], 47) ∧ ((1 : Nat) : Int) + 126 = ((127 : Nat) : Int) := by decide +kernel
def f_S_grains (N : Nat) (a1 : Int32) (mem : Mm) : Option (Int32) := if a1 = 0 then some (mem 38 14) else if a1 = 1 then bp (f_S_sum N 44 6 mem) fun r_63 => some r_63 else if a1 = 2 then some (mem 47 (ix 0)) else if a1 = 3 then some (mem 47 (ix 1)) else if a1 = 4 then some (mem 47 (ix 2)) else if a1 = 5 then bp (f_S_sum N 45 6 mem) fun r_104 => some r_104 else if a1 = 6 then bp (f_S_sum N 46 6 mem) fun r_115 => some r_115 else if a1 = 7 then some (mem 38 16) else some (-1000000001)
theorem c_S_grains (l : Launch) (E : En) (N : Nat) (a1 : Int32) {mem : Mm} {r : Int32} (h : f_S_grains N a1 mem = some r) : CtI l E 1 y_S_grains prog_1_method_15_code 2 (some .int) [.ref (eb E + 0), .int a1] SH mem r mem := by
  refine mk_CtI ⟨by decide, (Nat.le_of_ble_eq_true rfl)⟩ (fun X S hl hR => ?_)
  have S : Std X E prog_1_method_15_code R5 2 1 := S
  show J X E 2 0 [(0, .ref (eb E + 0)), (1, .int a1)] [] SH mem
  unfold f_S_grains at h
  refine j_iload_n S D_S_grains_0 1 rfl rfl ?_
  by_cases c_1_0 : a1 = 0
  · have h := ifT c_1_0 h
    refine j_tabIn (tg := 48) (off := 47) S D_S_grains_1 0 c_1_0 (by decide +kernel) ?_
    refine j_aload_n S D_S_grains_48 0 rfl rfl ?_
    refine j_getR S D_S_grains_49 fl_R5_52 sh_Sand rfl ?_
    refine j_getI S D_S_grains_52 fl_R5_156 sh_P38 rfl ?_
    exact rtI hR h _ _ D_S_grains_55
  · have h := ifF c_1_0 h
    by_cases c_1_1 : a1 = 1
    · have h := ifT c_1_1 h
      refine j_tabIn (tg := 56) (off := 55) S D_S_grains_1 1 c_1_1 (by decide +kernel) ?_
      refine j_aload_n S D_S_grains_56 0 rfl rfl ?_
      refine j_getR S D_S_grains_57 fl_R5_52 sh_Sand rfl ?_
      refine j_getR S D_S_grains_60 fl_R5_119 sh_P38 rfl ?_
      obtain ⟨r_63, e_63, h⟩ := bpE h
      refine j_callSI (As := [.ref (eb E + 44)]) S D_S_grains_63 ms_R5_159 (c_S_sum (cxL X) E N 44 6 sh_44 e_63) (by decide) rfl rfl (Nat.le_of_ble_eq_true rfl) ?_
      exact rtI hR h _ _ D_S_grains_66
    · have h := ifF c_1_1 h
      by_cases c_1_2 : a1 = 2
      · have h := ifT c_1_2 h
        refine j_tabIn (tg := 67) (off := 66) S D_S_grains_1 2 c_1_2 (by decide +kernel) ?_
        refine j_aload_n S D_S_grains_67 0 rfl rfl ?_
        refine j_getR S D_S_grains_68 fl_R5_52 sh_Sand rfl ?_
        refine j_getR S D_S_grains_71 fl_R5_132 sh_P38 rfl ?_
        refine j_iconst S D_S_grains_74 ci_0 ?_
        refine j_iald S D_S_grains_75 sh_47 inbc_0_3 ?_
        exact rtI hR h _ _ D_S_grains_76
      · have h := ifF c_1_2 h
        by_cases c_1_3 : a1 = 3
        · have h := ifT c_1_3 h
          refine j_tabIn (tg := 77) (off := 76) S D_S_grains_1 3 c_1_3 (by decide +kernel) ?_
          refine j_aload_n S D_S_grains_77 0 rfl rfl ?_
          refine j_getR S D_S_grains_78 fl_R5_52 sh_Sand rfl ?_
          refine j_getR S D_S_grains_81 fl_R5_132 sh_P38 rfl ?_
          refine j_iconst S D_S_grains_84 ci_1 ?_
          refine j_iald S D_S_grains_85 sh_47 inbc_1_3 ?_
          exact rtI hR h _ _ D_S_grains_86
        · have h := ifF c_1_3 h
          by_cases c_1_4 : a1 = 4
          · have h := ifT c_1_4 h
            refine j_tabIn (tg := 87) (off := 86) S D_S_grains_1 4 c_1_4 (by decide +kernel) ?_
            refine j_aload_n S D_S_grains_87 0 rfl rfl ?_
            refine j_getR S D_S_grains_88 fl_R5_52 sh_Sand rfl ?_
            refine j_getR S D_S_grains_91 fl_R5_132 sh_P38 rfl ?_
            refine j_iconst S D_S_grains_94 ci_2 ?_
            refine j_iald S D_S_grains_95 sh_47 inbc_2_3 ?_
            exact rtI hR h _ _ D_S_grains_96
          · have h := ifF c_1_4 h
            by_cases c_1_5 : a1 = 5
            · have h := ifT c_1_5 h
              refine j_tabIn (tg := 97) (off := 96) S D_S_grains_1 5 c_1_5 (by decide +kernel) ?_
              refine j_aload_n S D_S_grains_97 0 rfl rfl ?_
              refine j_getR S D_S_grains_98 fl_R5_52 sh_Sand rfl ?_
              refine j_getR S D_S_grains_101 fl_R5_122 sh_P38 rfl ?_
              obtain ⟨r_104, e_104, h⟩ := bpE h
              refine j_callSI (As := [.ref (eb E + 45)]) S D_S_grains_104 ms_R5_159 (c_S_sum (cxL X) E N 45 6 sh_45 e_104) (by decide) rfl rfl (Nat.le_of_ble_eq_true rfl) ?_
              exact rtI hR h _ _ D_S_grains_107
            · have h := ifF c_1_5 h
              by_cases c_1_6 : a1 = 6
              · have h := ifT c_1_6 h
                refine j_tabIn (tg := 108) (off := 107) S D_S_grains_1 6 c_1_6 (by decide +kernel) ?_
                refine j_aload_n S D_S_grains_108 0 rfl rfl ?_
                refine j_getR S D_S_grains_109 fl_R5_52 sh_Sand rfl ?_
                refine j_getR S D_S_grains_112 fl_R5_125 sh_P38 rfl ?_
                obtain ⟨r_115, e_115, h⟩ := bpE h
                refine j_callSI (As := [.ref (eb E + 46)]) S D_S_grains_115 ms_R5_159 (c_S_sum (cxL X) E N 46 6 sh_46 e_115) (by decide) rfl rfl (Nat.le_of_ble_eq_true rfl) ?_
                exact rtI hR h _ _ D_S_grains_118
              · have h := ifF c_1_6 h
                by_cases c_1_7 : a1 = 7
                · have h := ifT c_1_7 h
                  refine j_tabIn (tg := 119) (off := 118) S D_S_grains_1 7 c_1_7 (by decide +kernel) ?_
                  refine j_aload_n S D_S_grains_119 0 rfl rfl ?_
                  refine j_getR S D_S_grains_120 fl_R5_52 sh_Sand rfl ?_
                  refine j_getI S D_S_grains_123 fl_R5_163 sh_P38 rfl ?_
                  exact rtI hR h _ _ D_S_grains_126
                · have h := ifF c_1_7 h
                  refine j_tabOut S D_S_grains_1o (tout_0_7 c_1_0 c_1_1 c_1_2 c_1_3 c_1_4 c_1_5 c_1_6 c_1_7) ?_
                  refine j_ldc S D_S_grains_127 co_R5_77 ?_
                  exact rtI hR h _ _ D_S_grains_129

def y_S_sneeze : MethodName := ⟨"SandPicture", "sneeze", "(I)I"⟩
theorem D_S_sneeze_0 : decode prog_1_method_16_code 0 = .ok (.iload_n 1, 1) ∧ 0 + 1 = 1 := by decide +kernel
theorem D_S_sneeze_1 : decode prog_1_method_16_code 1 = .ok (.invokestatic 74, 3) ∧ 1 + 3 = 4 := by decide +kernel
theorem D_S_sneeze_4 : decode prog_1_method_16_code 4 = .ok (.ifCond .ne 6, 3) ∧ ((4 : Nat) : Int) + 6 = ((10 : Nat) : Int) ∧ 4 + 3 = 7 := by decide +kernel
theorem D_S_sneeze_10 : decode prog_1_method_16_code 10 = .ok (.aload_n 0, 1) ∧ 10 + 1 = 11 := by decide +kernel
theorem D_S_sneeze_11 : decode prog_1_method_16_code 11 = .ok (.getfield 52, 3) ∧ 11 + 3 = 14 := by decide +kernel
theorem D_S_sneeze_14 : decode prog_1_method_16_code 14 = .ok (.getfield 119, 3) ∧ 14 + 3 = 17 := by decide +kernel
theorem D_S_sneeze_17 : decode prog_1_method_16_code 17 = .ok (.iload_n 1, 1) ∧ 17 + 1 = 18 := by decide +kernel
theorem D_S_sneeze_18 : decode prog_1_method_16_code 18 = .ok (.iaload, 1) ∧ 18 + 1 = 19 := by decide +kernel
theorem D_S_sneeze_19 : decode prog_1_method_16_code 19 = .ok (.istore_n 2, 1) ∧ 19 + 1 = 20 := by decide +kernel
theorem D_S_sneeze_20 : decode prog_1_method_16_code 20 = .ok (.aload_n 0, 1) ∧ 20 + 1 = 21 := by decide +kernel
theorem D_S_sneeze_21 : decode prog_1_method_16_code 21 = .ok (.getfield 52, 3) ∧ 21 + 3 = 24 := by decide +kernel
theorem D_S_sneeze_24 : decode prog_1_method_16_code 24 = .ok (.getfield 119, 3) ∧ 24 + 3 = 27 := by decide +kernel
theorem D_S_sneeze_27 : decode prog_1_method_16_code 27 = .ok (.iload_n 1, 1) ∧ 27 + 1 = 28 := by decide +kernel
theorem D_S_sneeze_28 : decode prog_1_method_16_code 28 = .ok (.iconst 0, 1) ∧ 28 + 1 = 29 := by decide +kernel
theorem D_S_sneeze_29 : decode prog_1_method_16_code 29 = .ok (.iastore, 1) ∧ 29 + 1 = 30 := by decide +kernel
theorem D_S_sneeze_30 : decode prog_1_method_16_code 30 = .ok (.aload_n 0, 1) ∧ 30 + 1 = 31 := by decide +kernel
theorem D_S_sneeze_31 : decode prog_1_method_16_code 31 = .ok (.getfield 52, 3) ∧ 31 + 3 = 34 := by decide +kernel
theorem D_S_sneeze_34 : decode prog_1_method_16_code 34 = .ok (.dup, 1) ∧ 34 + 1 = 35 := by decide +kernel
theorem D_S_sneeze_35 : decode prog_1_method_16_code 35 = .ok (.getfield 156, 3) ∧ 35 + 3 = 38 := by decide +kernel
theorem D_S_sneeze_38 : decode prog_1_method_16_code 38 = .ok (.iload_n 2, 1) ∧ 38 + 1 = 39 := by decide +kernel
theorem D_S_sneeze_39 : decode prog_1_method_16_code 39 = .ok (.iadd, 1) ∧ 39 + 1 = 40 := by decide +kernel
theorem D_S_sneeze_40 : decode prog_1_method_16_code 40 = .ok (.putfield 156, 3) ∧ 40 + 3 = 43 := by decide +kernel
theorem D_S_sneeze_43 : decode prog_1_method_16_code 43 = .ok (.iload_n 2, 1) ∧ 43 + 1 = 44 := by decide +kernel
theorem D_S_sneeze_44 : decode prog_1_method_16_code 44 = .ok (.ireturn, 1) := by decide +kernel
theorem D_S_sneeze_7 : decode prog_1_method_16_code 7 = .ok (.ldc 77, 2) ∧ 7 + 2 = 9 := by decide +kernel
theorem D_S_sneeze_9 : decode prog_1_method_16_code 9 = .ok (.ireturn, 1) := by decide +kernel
def f_S_sneeze (a1 : Int32) (mem : Mm) : Option (Int32 × Mm) := bp (f_S_isTable a1) fun r_1 => if r_1 = 0 then some ((-1000000001), mem) else if inb a1 6 = true then lt (mem 44 (ix a1)) fun x_19 => lt (mst mem 44 (ix a1) 0) fun m_29 => lt (mst m_29 38 14 ((m_29 38 14) + x_19)) fun m_40 => some (x_19, m_40) else none
theorem c_S_sneeze (l : Launch) (E : En) (a1 : Int32) {mem : Mm} {r : Int32} {m2 : Mm} (h : f_S_sneeze a1 mem = some (r, m2)) : CtI l E 2 y_S_sneeze prog_1_method_16_code 3 (some .int) [.ref (eb E + 0), .int a1] SH mem r m2 := by
  refine mk_CtI ⟨by decide, (Nat.le_of_ble_eq_true rfl)⟩ (fun X S hl hR => ?_)
  have S : Std X E prog_1_method_16_code R5 3 2 := S
  show J X E 3 0 [(0, .ref (eb E + 0)), (1, .int a1)] [] SH mem
  unfold f_S_sneeze at h
  refine j_iload_n S D_S_sneeze_0 1 rfl rfl ?_
  obtain ⟨r_1, e_1, h⟩ := bpE h
  refine j_callSI (As := [.int a1]) S D_S_sneeze_1 ms_R5_74 (c_S_isTable (cxL X) E a1 (mem := mem) e_1) (by decide) rfl rfl (Nat.le_of_ble_eq_true rfl) ?_
  refine j_if_ne S D_S_sneeze_4 (fun c_4 => ?_) (fun c_4 => ?_)
  · have h := ifF c_4 h
    refine j_aload_n S D_S_sneeze_10 0 rfl rfl ?_
    refine j_getR S D_S_sneeze_11 fl_R5_52 sh_Sand rfl ?_
    refine j_getR S D_S_sneeze_14 fl_R5_119 sh_P38 rfl ?_
    refine j_iload_n S D_S_sneeze_17 1 rfl rfl ?_
    obtain ⟨g_18, h⟩ := gdE h
    refine j_iald S D_S_sneeze_18 sh_44 g_18 ?_
    obtain ⟨x_19, hx_19, h⟩ := ltE h
    refine j_nm hx_19 ?_
    refine j_istore_n S D_S_sneeze_19 (lv := [(2, .int x_19), (0, .ref (eb E + 0)), (1, .int a1)]) rfl ⟨rfl, (Nat.le_of_ble_eq_true rfl)⟩ ?_
    refine j_aload_n S D_S_sneeze_20 1 rfl rfl ?_
    refine j_getR S D_S_sneeze_21 fl_R5_52 sh_Sand rfl ?_
    refine j_getR S D_S_sneeze_24 fl_R5_119 sh_P38 rfl ?_
    refine j_iload_n S D_S_sneeze_27 2 rfl rfl ?_
    refine j_iconst S D_S_sneeze_28 ci_0 ?_
    obtain ⟨m_29, hm_29, h⟩ := ltE h
    refine j_iast S D_S_sneeze_29 sh_44 g_18 ?_
    refine j_mem hm_29 ?_
    refine j_aload_n S D_S_sneeze_30 1 rfl rfl ?_
    refine j_getR S D_S_sneeze_31 fl_R5_52 sh_Sand rfl ?_
    refine j_dup S D_S_sneeze_34 rfl ?_
    refine j_getI S D_S_sneeze_35 fl_R5_156 sh_P38 rfl ?_
    refine j_iload_n S D_S_sneeze_38 0 rfl rfl ?_
    refine j_iadd S D_S_sneeze_39 ?_
    obtain ⟨m_40, hm_40, h⟩ := ltE h
    refine j_putI S D_S_sneeze_40 fp_R5_156 sh_P38 rfl ?_
    refine j_mem hm_40 ?_
    refine j_iload_n S D_S_sneeze_43 0 rfl rfl ?_
    exact rtM hR h _ _ D_S_sneeze_44
  · have h := ifT c_4 h
    refine j_ldc S D_S_sneeze_7 co_R5_77 ?_
    exact rtM hR h _ _ D_S_sneeze_9

def y_S_behind : MethodName := ⟨"SandPicture", "behind", "(II)I"⟩
theorem D_S_behind_0 : decode prog_1_method_17_code 0 = .ok (.iload_n 1, 1) ∧ 0 + 1 = 1 := by decide +kernel
theorem D_S_behind_1 : decode prog_1_method_17_code 1 = .ok (.iconst 0, 1) ∧ 1 + 1 = 2 := by decide +kernel
theorem D_S_behind_2 : decode prog_1_method_17_code 2 = .ok (.bipush 100, 2) ∧ 2 + 2 = 4 := by decide +kernel
theorem D_S_behind_4 : decode prog_1_method_17_code 4 = .ok (.invokestatic 70, 3) ∧ 4 + 3 = 7 := by decide +kernel
theorem D_S_behind_7 : decode prog_1_method_17_code 7 = .ok (.ifCond .eq 12, 3) ∧ ((7 : Nat) : Int) + 12 = ((19 : Nat) : Int) ∧ 7 + 3 = 10 := by decide +kernel
theorem D_S_behind_19 : decode prog_1_method_17_code 19 = .ok (.ldc 77, 2) ∧ 19 + 2 = 21 := by decide +kernel
theorem D_S_behind_21 : decode prog_1_method_17_code 21 = .ok (.ireturn, 1) := by decide +kernel
theorem D_S_behind_10 : decode prog_1_method_17_code 10 = .ok (.iload_n 2, 1) ∧ 10 + 1 = 11 := by decide +kernel
theorem D_S_behind_11 : decode prog_1_method_17_code 11 = .ok (.iconst 0, 1) ∧ 11 + 1 = 12 := by decide +kernel
theorem D_S_behind_12 : decode prog_1_method_17_code 12 = .ok (.iconst 3, 1) ∧ 12 + 1 = 13 := by decide +kernel
theorem D_S_behind_13 : decode prog_1_method_17_code 13 = .ok (.invokestatic 70, 3) ∧ 13 + 3 = 16 := by decide +kernel
theorem D_S_behind_16 : decode prog_1_method_17_code 16 = .ok (.ifCond .ne 6, 3) ∧ ((16 : Nat) : Int) + 6 = ((22 : Nat) : Int) ∧ 16 + 3 = 19 := by decide +kernel
theorem D_S_behind_22 : decode prog_1_method_17_code 22 = .ok (.aload_n 0, 1) ∧ 22 + 1 = 23 := by decide +kernel
theorem D_S_behind_23 : decode prog_1_method_17_code 23 = .ok (.getfield 59, 3) ∧ 23 + 3 = 26 := by decide +kernel
theorem D_S_behind_26 : decode prog_1_method_17_code 26 = .ok (.aload_n 0, 1) ∧ 26 + 1 = 27 := by decide +kernel
theorem D_S_behind_27 : decode prog_1_method_17_code 27 = .ok (.getfield 52, 3) ∧ 27 + 3 = 30 := by decide +kernel
theorem D_S_behind_30 : decode prog_1_method_17_code 30 = .ok (.invokevirtual 166, 3) ∧ 30 + 3 = 33 := by decide +kernel
theorem D_S_behind_33 : decode prog_1_method_17_code 33 = .ok (.aload_n 0, 1) ∧ 33 + 1 = 34 := by decide +kernel
theorem D_S_behind_34 : decode prog_1_method_17_code 34 = .ok (.getfield 59, 3) ∧ 34 + 3 = 37 := by decide +kernel
theorem D_S_behind_37 : decode prog_1_method_17_code 37 = .ok (.iload_n 1, 1) ∧ 37 + 1 = 38 := by decide +kernel
theorem D_S_behind_38 : decode prog_1_method_17_code 38 = .ok (.invokevirtual 152, 3) ∧ 38 + 3 = 41 := by decide +kernel
theorem D_S_behind_41 : decode prog_1_method_17_code 41 = .ok (.pop, 1) ∧ 41 + 1 = 42 := by decide +kernel
theorem D_S_behind_42 : decode prog_1_method_17_code 42 = .ok (.iload_n 2, 1) ∧ 42 + 1 = 43 := by decide +kernel
theorem D_S_behind_43 : decode prog_1_method_17_code 43 = .ok (.tableswitch 55 0 2 #[25, 36, 47], 25) := by decide +kernel
theorem D_S_behind_68 : decode prog_1_method_17_code 68 = .ok (.aload_n 0, 1) ∧ 68 + 1 = 69 := by decide +kernel
theorem D_S_behind_69 : decode prog_1_method_17_code 69 = .ok (.getfield 59, 3) ∧ 69 + 3 = 72 := by decide +kernel
theorem D_S_behind_72 : decode prog_1_method_17_code 72 = .ok (.getfield 125, 3) ∧ 72 + 3 = 75 := by decide +kernel
theorem D_S_behind_75 : decode prog_1_method_17_code 75 = .ok (.invokestatic 159, 3) ∧ 75 + 3 = 78 := by decide +kernel
theorem D_S_behind_78 : decode prog_1_method_17_code 78 = .ok (.ireturn, 1) := by decide +kernel
theorem D_S_behind_79 : decode prog_1_method_17_code 79 = .ok (.aload_n 0, 1) ∧ 79 + 1 = 80 := by decide +kernel
theorem D_S_behind_80 : decode prog_1_method_17_code 80 = .ok (.getfield 59, 3) ∧ 80 + 3 = 83 := by decide +kernel
theorem D_S_behind_83 : decode prog_1_method_17_code 83 = .ok (.getfield 122, 3) ∧ 83 + 3 = 86 := by decide +kernel
theorem D_S_behind_86 : decode prog_1_method_17_code 86 = .ok (.invokestatic 159, 3) ∧ 86 + 3 = 89 := by decide +kernel
theorem D_S_behind_89 : decode prog_1_method_17_code 89 = .ok (.ireturn, 1) := by decide +kernel
theorem D_S_behind_90 : decode prog_1_method_17_code 90 = .ok (.aload_n 0, 1) ∧ 90 + 1 = 91 := by decide +kernel
theorem D_S_behind_91 : decode prog_1_method_17_code 91 = .ok (.getfield 59, 3) ∧ 91 + 3 = 94 := by decide +kernel
theorem D_S_behind_94 : decode prog_1_method_17_code 94 = .ok (.getfield 156, 3) ∧ 94 + 3 = 97 := by decide +kernel
theorem D_S_behind_97 : decode prog_1_method_17_code 97 = .ok (.ireturn, 1) := by decide +kernel
theorem D_S_behind_98 : decode prog_1_method_17_code 98 = .ok (.aload_n 0, 1) ∧ 98 + 1 = 99 := by decide +kernel
theorem D_S_behind_99 : decode prog_1_method_17_code 99 = .ok (.getfield 59, 3) ∧ 99 + 3 = 102 := by decide +kernel
theorem D_S_behind_102 : decode prog_1_method_17_code 102 = .ok (.getfield 163, 3) ∧ 102 + 3 = 105 := by decide +kernel
theorem D_S_behind_105 : decode prog_1_method_17_code 105 = .ok (.ireturn, 1) := by decide +kernel
theorem D_S_behind_43o : decode prog_1_method_17_code 43 = .ok (.tableswitch 55 0 2 #[25, 36, 47], 25) ∧ ((43 : Nat) : Int) + 55 = ((98 : Nat) : Int) := by decide +kernel
def f_S_behind (N : Nat) (a1 : Int32) (a2 : Int32) (mem : Mm) : Option (Int32 × Mm) := bp (f_S_within a1 0 100) fun r_4 => if r_4 = 0 then some ((-1000000001), mem) else bp (f_S_within a2 0 3) fun r_13 => if r_13 = 0 then some ((-1000000001), mem) else bp (f_P_become 58 38 mem) fun m_30 => bd (f_P_passHours N 58 a1 m_30) fun r_38 m_38 => if a2 = 0 then bp (f_S_sum N 66 6 m_38) fun r_75 => some (r_75, m_38) else if a2 = 1 then bp (f_S_sum N 65 6 m_38) fun r_86 => some (r_86, m_38) else if a2 = 2 then some (m_38 58 14, m_38) else some (m_38 58 16, m_38)
theorem c_S_behind (l : Launch) (E : En) (N : Nat) (a1 : Int32) (a2 : Int32) {mem : Mm} {r : Int32} {m2 : Mm} (h : f_S_behind N a1 a2 mem = some (r, m2)) : CtI l E 7 y_S_behind prog_1_method_17_code 3 (some .int) [.ref (eb E + 0), .int a1, .int a2] SH mem r m2 := by
  refine mk_CtI ⟨by decide, (Nat.le_of_ble_eq_true rfl)⟩ (fun X S hl hR => ?_)
  have S : Std X E prog_1_method_17_code R5 3 7 := S
  show J X E 3 0 [(0, .ref (eb E + 0)), (1, .int a1), (2, .int a2)] [] SH mem
  unfold f_S_behind at h
  refine j_iload_n S D_S_behind_0 1 rfl rfl ?_
  refine j_iconst S D_S_behind_1 ci_0 ?_
  refine j_bipush S D_S_behind_2 cb_100 ?_
  obtain ⟨r_4, e_4, h⟩ := bpE h
  refine j_callSI (As := [.int a1, .int 0, .int 100]) S D_S_behind_4 ms_R5_70 (c_S_within (cxL X) E a1 0 100 (mem := mem) e_4) (by decide) rfl rfl (Nat.le_of_ble_eq_true rfl) ?_
  refine j_if_eq S D_S_behind_7 (fun c_7 => ?_) (fun c_7 => ?_)
  · have h := ifT c_7 h
    refine j_ldc S D_S_behind_19 co_R5_77 ?_
    exact rtM hR h _ _ D_S_behind_21
  · have h := ifF c_7 h
    refine j_iload_n S D_S_behind_10 2 rfl rfl ?_
    refine j_iconst S D_S_behind_11 ci_0 ?_
    refine j_iconst S D_S_behind_12 ci_3 ?_
    obtain ⟨r_13, e_13, h⟩ := bpE h
    refine j_callSI (As := [.int a2, .int 0, .int 3]) S D_S_behind_13 ms_R5_70 (c_S_within (cxL X) E a2 0 3 (mem := mem) e_13) (by decide) rfl rfl (Nat.le_of_ble_eq_true rfl) ?_
    refine j_if_ne S D_S_behind_16 (fun c_16 => ?_) (fun c_16 => ?_)
    · have h := ifF c_16 h
      refine j_aload_n S D_S_behind_22 0 rfl rfl ?_
      refine j_getR S D_S_behind_23 fl_R5_59 sh_Sand rfl ?_
      refine j_aload_n S D_S_behind_26 0 rfl rfl ?_
      refine j_getR S D_S_behind_27 fl_R5_52 sh_Sand rfl ?_
      obtain ⟨m_30, e_30, h⟩ := bpE h
      refine j_callVV (As := [.ref (eb E + 38)]) S D_S_behind_30 mv_R5_166 (c_P_become (cxL X) E 58 pic_58 38 pic_38 e_30) (by decide) sh_P58 rfl rfl rfl rfl (Nat.le_of_ble_eq_true rfl) ?_
      refine j_aload_n S D_S_behind_33 0 rfl rfl ?_
      refine j_getR S D_S_behind_34 fl_R5_59 sh_Sand rfl ?_
      refine j_iload_n S D_S_behind_37 1 rfl rfl ?_
      obtain ⟨r_38, m_38, e_38, h⟩ := bdE h
      refine j_callVI (As := [.int a1]) S D_S_behind_38 mv_R5_152 (c_P_passHours (cxL X) E N 58 pic_58 a1 e_38) (by decide) sh_P58 rfl rfl rfl rfl (Nat.le_of_ble_eq_true rfl) ?_
      refine j_pop S D_S_behind_41 rfl ?_
      refine j_iload_n S D_S_behind_42 2 rfl rfl ?_
      by_cases c_43_0 : a2 = 0
      · have h := ifT c_43_0 h
        refine j_tabIn (tg := 68) (off := 25) S D_S_behind_43 0 c_43_0 (by decide +kernel) ?_
        refine j_aload_n S D_S_behind_68 0 rfl rfl ?_
        refine j_getR S D_S_behind_69 fl_R5_59 sh_Sand rfl ?_
        refine j_getR S D_S_behind_72 fl_R5_125 sh_P58 rfl ?_
        obtain ⟨r_75, e_75, h⟩ := bpE h
        refine j_callSI (As := [.ref (eb E + 66)]) S D_S_behind_75 ms_R5_159 (c_S_sum (cxL X) E N 66 6 sh_66 e_75) (by decide) rfl rfl (Nat.le_of_ble_eq_true rfl) ?_
        exact rtM hR h _ _ D_S_behind_78
      · have h := ifF c_43_0 h
        by_cases c_43_1 : a2 = 1
        · have h := ifT c_43_1 h
          refine j_tabIn (tg := 79) (off := 36) S D_S_behind_43 1 c_43_1 (by decide +kernel) ?_
          refine j_aload_n S D_S_behind_79 0 rfl rfl ?_
          refine j_getR S D_S_behind_80 fl_R5_59 sh_Sand rfl ?_
          refine j_getR S D_S_behind_83 fl_R5_122 sh_P58 rfl ?_
          obtain ⟨r_86, e_86, h⟩ := bpE h
          refine j_callSI (As := [.ref (eb E + 65)]) S D_S_behind_86 ms_R5_159 (c_S_sum (cxL X) E N 65 6 sh_65 e_86) (by decide) rfl rfl (Nat.le_of_ble_eq_true rfl) ?_
          exact rtM hR h _ _ D_S_behind_89
        · have h := ifF c_43_1 h
          by_cases c_43_2 : a2 = 2
          · have h := ifT c_43_2 h
            refine j_tabIn (tg := 90) (off := 47) S D_S_behind_43 2 c_43_2 (by decide +kernel) ?_
            refine j_aload_n S D_S_behind_90 0 rfl rfl ?_
            refine j_getR S D_S_behind_91 fl_R5_59 sh_Sand rfl ?_
            refine j_getI S D_S_behind_94 fl_R5_156 sh_P58 rfl ?_
            exact rtM hR h _ _ D_S_behind_97
          · have h := ifF c_43_2 h
            refine j_tabOut S D_S_behind_43o (tout_0_2 c_43_0 c_43_1 c_43_2) ?_
            refine j_aload_n S D_S_behind_98 0 rfl rfl ?_
            refine j_getR S D_S_behind_99 fl_R5_59 sh_Sand rfl ?_
            refine j_getI S D_S_behind_102 fl_R5_163 sh_P58 rfl ?_
            exact rtM hR h _ _ D_S_behind_105
    · have h := ifT c_16 h
      refine j_ldc S D_S_behind_19 co_R5_77 ?_
      exact rtM hR h _ _ D_S_behind_21

def y_S_lacks : MethodName := ⟨"SandPicture", "lacks", "(I)I"⟩
theorem D_S_lacks_0 : decode prog_1_method_18_code 0 = .ok (.iload_n 1, 1) ∧ 0 + 1 = 1 := by decide +kernel
theorem D_S_lacks_1 : decode prog_1_method_18_code 1 = .ok (.iconst 0, 1) ∧ 1 + 1 = 2 := by decide +kernel
theorem D_S_lacks_2 : decode prog_1_method_18_code 2 = .ok (.bipush 100, 2) ∧ 2 + 2 = 4 := by decide +kernel
theorem D_S_lacks_4 : decode prog_1_method_18_code 4 = .ok (.invokestatic 70, 3) ∧ 4 + 3 = 7 := by decide +kernel
theorem D_S_lacks_7 : decode prog_1_method_18_code 7 = .ok (.ifCond .ne 6, 3) ∧ ((7 : Nat) : Int) + 6 = ((13 : Nat) : Int) ∧ 7 + 3 = 10 := by decide +kernel
theorem D_S_lacks_13 : decode prog_1_method_18_code 13 = .ok (.aload_n 0, 1) ∧ 13 + 1 = 14 := by decide +kernel
theorem D_S_lacks_14 : decode prog_1_method_18_code 14 = .ok (.getfield 59, 3) ∧ 14 + 3 = 17 := by decide +kernel
theorem D_S_lacks_17 : decode prog_1_method_18_code 17 = .ok (.aload_n 0, 1) ∧ 17 + 1 = 18 := by decide +kernel
theorem D_S_lacks_18 : decode prog_1_method_18_code 18 = .ok (.getfield 52, 3) ∧ 18 + 3 = 21 := by decide +kernel
theorem D_S_lacks_21 : decode prog_1_method_18_code 21 = .ok (.invokevirtual 166, 3) ∧ 21 + 3 = 24 := by decide +kernel
theorem D_S_lacks_24 : decode prog_1_method_18_code 24 = .ok (.aload_n 0, 1) ∧ 24 + 1 = 25 := by decide +kernel
theorem D_S_lacks_25 : decode prog_1_method_18_code 25 = .ok (.getfield 59, 3) ∧ 25 + 3 = 28 := by decide +kernel
theorem D_S_lacks_28 : decode prog_1_method_18_code 28 = .ok (.iload_n 1, 1) ∧ 28 + 1 = 29 := by decide +kernel
theorem D_S_lacks_29 : decode prog_1_method_18_code 29 = .ok (.invokevirtual 152, 3) ∧ 29 + 3 = 32 := by decide +kernel
theorem D_S_lacks_32 : decode prog_1_method_18_code 32 = .ok (.pop, 1) ∧ 32 + 1 = 33 := by decide +kernel
theorem D_S_lacks_33 : decode prog_1_method_18_code 33 = .ok (.iconst 0, 1) ∧ 33 + 1 = 34 := by decide +kernel
theorem D_S_lacks_34 : decode prog_1_method_18_code 34 = .ok (.istore_n 2, 1) ∧ 34 + 1 = 35 := by decide +kernel
theorem D_S_lacks_35 : decode prog_1_method_18_code 35 = .ok (.iconst 0, 1) ∧ 35 + 1 = 36 := by decide +kernel
theorem D_S_lacks_36 : decode prog_1_method_18_code 36 = .ok (.istore_n 3, 1) ∧ 36 + 1 = 37 := by decide +kernel
theorem D_S_lacks_37 : decode prog_1_method_18_code 37 = .ok (.iload_n 3, 1) ∧ 37 + 1 = 38 := by decide +kernel
theorem D_S_lacks_38 : decode prog_1_method_18_code 38 = .ok (.bipush 6, 2) ∧ 38 + 2 = 40 := by decide +kernel
theorem D_S_lacks_40 : decode prog_1_method_18_code 40 = .ok (.if_icmp .ge 38, 3) ∧ ((40 : Nat) : Int) + 38 = ((78 : Nat) : Int) ∧ 40 + 3 = 43 := by decide +kernel
theorem D_S_lacks_43 : decode prog_1_method_18_code 43 = .ok (.aload_n 0, 1) ∧ 43 + 1 = 44 := by decide +kernel
theorem D_S_lacks_44 : decode prog_1_method_18_code 44 = .ok (.getfield 59, 3) ∧ 44 + 3 = 47 := by decide +kernel
theorem D_S_lacks_47 : decode prog_1_method_18_code 47 = .ok (.getfield 119, 3) ∧ 47 + 3 = 50 := by decide +kernel
theorem D_S_lacks_50 : decode prog_1_method_18_code 50 = .ok (.iload_n 3, 1) ∧ 50 + 1 = 51 := by decide +kernel
theorem D_S_lacks_51 : decode prog_1_method_18_code 51 = .ok (.iaload, 1) ∧ 51 + 1 = 52 := by decide +kernel
theorem D_S_lacks_52 : decode prog_1_method_18_code 52 = .ok (.aload_n 0, 1) ∧ 52 + 1 = 53 := by decide +kernel
theorem D_S_lacks_53 : decode prog_1_method_18_code 53 = .ok (.getfield 59, 3) ∧ 53 + 3 = 56 := by decide +kernel
theorem D_S_lacks_56 : decode prog_1_method_18_code 56 = .ok (.getfield 116, 3) ∧ 56 + 3 = 59 := by decide +kernel
theorem D_S_lacks_59 : decode prog_1_method_18_code 59 = .ok (.iload_n 3, 1) ∧ 59 + 1 = 60 := by decide +kernel
theorem D_S_lacks_60 : decode prog_1_method_18_code 60 = .ok (.iaload, 1) ∧ 60 + 1 = 61 := by decide +kernel
theorem D_S_lacks_61 : decode prog_1_method_18_code 61 = .ok (.iconst 2, 1) ∧ 61 + 1 = 62 := by decide +kernel
theorem D_S_lacks_62 : decode prog_1_method_18_code 62 = .ok (.idiv, 1) ∧ 62 + 1 = 63 := by decide +kernel
theorem D_S_lacks_63 : decode prog_1_method_18_code 63 = .ok (.if_icmp .ge 9, 3) ∧ ((63 : Nat) : Int) + 9 = ((72 : Nat) : Int) ∧ 63 + 3 = 66 := by decide +kernel
theorem D_S_lacks_72 : decode prog_1_method_18_code 72 = .ok (.iinc 3 1, 3) ∧ 72 + 3 = 75 := by decide +kernel
theorem D_S_lacks_75 : decode prog_1_method_18_code 75 = .ok (.goto (-38), 3) ∧ ((75 : Nat) : Int) + (-38) = ((37 : Nat) : Int) := by decide +kernel
theorem D_S_lacks_66 : decode prog_1_method_18_code 66 = .ok (.iload_n 2, 1) ∧ 66 + 1 = 67 := by decide +kernel
theorem D_S_lacks_67 : decode prog_1_method_18_code 67 = .ok (.iconst 1, 1) ∧ 67 + 1 = 68 := by decide +kernel
theorem D_S_lacks_68 : decode prog_1_method_18_code 68 = .ok (.iload_n 3, 1) ∧ 68 + 1 = 69 := by decide +kernel
theorem D_S_lacks_69 : decode prog_1_method_18_code 69 = .ok (.ishl, 1) ∧ 69 + 1 = 70 := by decide +kernel
theorem D_S_lacks_70 : decode prog_1_method_18_code 70 = .ok (.ior, 1) ∧ 70 + 1 = 71 := by decide +kernel
theorem D_S_lacks_71 : decode prog_1_method_18_code 71 = .ok (.istore_n 2, 1) ∧ 71 + 1 = 72 := by decide +kernel
theorem D_S_lacks_78 : decode prog_1_method_18_code 78 = .ok (.iload_n 2, 1) ∧ 78 + 1 = 79 := by decide +kernel
theorem D_S_lacks_79 : decode prog_1_method_18_code 79 = .ok (.ireturn, 1) := by decide +kernel
theorem D_S_lacks_10 : decode prog_1_method_18_code 10 = .ok (.ldc 77, 2) ∧ 10 + 2 = 12 := by decide +kernel
theorem D_S_lacks_12 : decode prog_1_method_18_code 12 = .ok (.ireturn, 1) := by decide +kernel
def f_S_lacks_L37  : Nat → Int32 → Int32 → Int32 → Mm → Option (Int32 × Int32)
  | 0, _, _, _, _ => none
  | n + 1, b1, b2, b3, mem => if 6 ≤ b3 then some (b2, b3) else if inb b3 6 = true then if ((mem 63 (ix b3)) / 2) ≤ mem 64 (ix b3) then f_S_lacks_L37 n b1 b2 (b3 + 1) mem else lt (b2 ||| (1 <<< (b3 &&& 31))) fun x_71 => f_S_lacks_L37 n b1 x_71 (b3 + 1) mem else none
def f_S_lacks (N : Nat) (a1 : Int32) (mem : Mm) : Option (Int32 × Mm) := bp (f_S_within a1 0 100) fun r_4 => if r_4 = 0 then some ((-1000000001), mem) else bp (f_P_become 58 38 mem) fun m_21 => bd (f_P_passHours N 58 a1 m_21) fun r_29 m_29 => bp (f_S_lacks_L37 N a1 0 0 m_29) fun y_37 => some (y_37.1, m_29)
theorem L_S_lacks_37 {X : Cx} {E : En} (S : Std X E prog_1_method_18_code R5 4 7)  {mem : Mm} : ∀ (n : Nat) (b1 : Int32) (b2 : Int32) (b3 : Int32) (z : Int32 × Int32), f_S_lacks_L37 n b1 b2 b3 mem = some z → J X E 4 78 [(0, .ref (eb E + 0)), (1, .int b1), (2, .int z.1), (3, .int z.2)] [] SH mem → J X E 4 37 [(0, .ref (eb E + 0)), (1, .int b1), (2, .int b2), (3, .int b3)] [] SH mem := by
  intro n
  induction n with
  | zero =>
    intro b1 b2 b3 z h hk; cases h
  | succ n ih =>
    intro b1 b2 b3 z h hk
    rw [f_S_lacks_L37] at h
    refine j_iload_n S D_S_lacks_37 3 rfl rfl ?_
    refine j_bipush S D_S_lacks_38 cb_6 ?_
    refine j_icmp_ge S D_S_lacks_40 (fun c_40 => ?_) (fun c_40 => ?_)
    · have h := ifT c_40 h
      cases h
      exact j_locals [0, 1, 2, 3] rfl hk
    · have h := ifF c_40 h
      refine j_aload_n S D_S_lacks_43 0 rfl rfl ?_
      refine j_getR S D_S_lacks_44 fl_R5_59 sh_Sand rfl ?_
      refine j_getR S D_S_lacks_47 fl_R5_119 sh_P58 rfl ?_
      refine j_iload_n S D_S_lacks_50 3 rfl rfl ?_
      obtain ⟨g_51, h⟩ := gdE h
      refine j_iald S D_S_lacks_51 sh_64 g_51 ?_
      refine j_aload_n S D_S_lacks_52 0 rfl rfl ?_
      refine j_getR S D_S_lacks_53 fl_R5_59 sh_Sand rfl ?_
      refine j_getR S D_S_lacks_56 fl_R5_116 sh_P58 rfl ?_
      refine j_iload_n S D_S_lacks_59 3 rfl rfl ?_
      refine j_iald S D_S_lacks_60 sh_63 g_51 ?_
      refine j_iconst S D_S_lacks_61 ci_2 ?_
      refine j_idiv S D_S_lacks_62 nz_2 ?_
      refine j_icmp_ge S D_S_lacks_63 (fun c_63 => ?_) (fun c_63 => ?_)
      · have h := ifT c_63 h
        refine j_iinc S D_S_lacks_72 3 rfl (congrArg (fun z => b3 + z) ci_1) (lv := [(3, .int (b3 + 1)), (0, .ref (eb E + 0)), (1, .int b1), (2, .int b2)]) rfl (Nat.le_of_ble_eq_true rfl) ?_
        refine j_goto S D_S_lacks_75 ?_
        refine j_locals [1, 2, 3, 0] rfl (ih b1 b2 (b3 + 1) _ h hk)
      · have h := ifF c_63 h
        refine j_iload_n S D_S_lacks_66 2 rfl rfl ?_
        refine j_iconst S D_S_lacks_67 ci_1 ?_
        refine j_iload_n S D_S_lacks_68 3 rfl rfl ?_
        refine j_ishl S D_S_lacks_69 ?_
        refine j_ior S D_S_lacks_70 ?_
        obtain ⟨x_71, hx_71, h⟩ := ltE h
        refine j_nm hx_71 ?_
        refine j_istore_n S D_S_lacks_71 (lv := [(2, .int x_71), (0, .ref (eb E + 0)), (1, .int b1), (3, .int b3)]) rfl ⟨rfl, (Nat.le_of_ble_eq_true rfl)⟩ ?_
        refine j_iinc S D_S_lacks_72 3 rfl (congrArg (fun z => b3 + z) ci_1) (lv := [(3, .int (b3 + 1)), (2, .int x_71), (0, .ref (eb E + 0)), (1, .int b1)]) rfl (Nat.le_of_ble_eq_true rfl) ?_
        refine j_goto S D_S_lacks_75 ?_
        refine j_locals [2, 3, 1, 0] rfl (ih b1 x_71 (b3 + 1) _ h hk)
theorem c_S_lacks (l : Launch) (E : En) (N : Nat) (a1 : Int32) {mem : Mm} {r : Int32} {m2 : Mm} (h : f_S_lacks N a1 mem = some (r, m2)) : CtI l E 7 y_S_lacks prog_1_method_18_code 4 (some .int) [.ref (eb E + 0), .int a1] SH mem r m2 := by
  refine mk_CtI ⟨by decide, (Nat.le_of_ble_eq_true rfl)⟩ (fun X S hl hR => ?_)
  have S : Std X E prog_1_method_18_code R5 4 7 := S
  show J X E 4 0 [(0, .ref (eb E + 0)), (1, .int a1)] [] SH mem
  unfold f_S_lacks at h
  refine j_iload_n S D_S_lacks_0 1 rfl rfl ?_
  refine j_iconst S D_S_lacks_1 ci_0 ?_
  refine j_bipush S D_S_lacks_2 cb_100 ?_
  obtain ⟨r_4, e_4, h⟩ := bpE h
  refine j_callSI (As := [.int a1, .int 0, .int 100]) S D_S_lacks_4 ms_R5_70 (c_S_within (cxL X) E a1 0 100 (mem := mem) e_4) (by decide) rfl rfl (Nat.le_of_ble_eq_true rfl) ?_
  refine j_if_ne S D_S_lacks_7 (fun c_7 => ?_) (fun c_7 => ?_)
  · have h := ifF c_7 h
    refine j_aload_n S D_S_lacks_13 0 rfl rfl ?_
    refine j_getR S D_S_lacks_14 fl_R5_59 sh_Sand rfl ?_
    refine j_aload_n S D_S_lacks_17 0 rfl rfl ?_
    refine j_getR S D_S_lacks_18 fl_R5_52 sh_Sand rfl ?_
    obtain ⟨m_21, e_21, h⟩ := bpE h
    refine j_callVV (As := [.ref (eb E + 38)]) S D_S_lacks_21 mv_R5_166 (c_P_become (cxL X) E 58 pic_58 38 pic_38 e_21) (by decide) sh_P58 rfl rfl rfl rfl (Nat.le_of_ble_eq_true rfl) ?_
    refine j_aload_n S D_S_lacks_24 0 rfl rfl ?_
    refine j_getR S D_S_lacks_25 fl_R5_59 sh_Sand rfl ?_
    refine j_iload_n S D_S_lacks_28 1 rfl rfl ?_
    obtain ⟨r_29, m_29, e_29, h⟩ := bdE h
    refine j_callVI (As := [.int a1]) S D_S_lacks_29 mv_R5_152 (c_P_passHours (cxL X) E N 58 pic_58 a1 e_29) (by decide) sh_P58 rfl rfl rfl rfl (Nat.le_of_ble_eq_true rfl) ?_
    refine j_pop S D_S_lacks_32 rfl ?_
    refine j_iconst S D_S_lacks_33 ci_0 ?_
    refine j_istore_n S D_S_lacks_34 (lv := [(2, .int 0), (0, .ref (eb E + 0)), (1, .int a1)]) rfl ⟨rfl, (Nat.le_of_ble_eq_true rfl)⟩ ?_
    refine j_iconst S D_S_lacks_35 ci_0 ?_
    refine j_istore_n S D_S_lacks_36 (lv := [(3, .int 0), (2, .int 0), (0, .ref (eb E + 0)), (1, .int a1)]) rfl ⟨rfl, (Nat.le_of_ble_eq_true rfl)⟩ ?_
    refine j_locals [2, 3, 1, 0] rfl ?_
    obtain ⟨y_37, e_37, h⟩ := bpE h
    refine L_S_lacks_37 S  N a1 0 0 _ e_37 ?_
    refine j_iload_n S D_S_lacks_78 2 rfl rfl ?_
    exact rtM hR h _ _ D_S_lacks_79
  · have h := ifT c_7 h
    refine j_ldc S D_S_lacks_10 co_R5_77 ?_
    exact rtM hR h _ _ D_S_lacks_12

def y_S_dry : MethodName := ⟨"SandPicture", "dry", "(I)I"⟩
theorem D_S_dry_0 : decode prog_1_method_19_code 0 = .ok (.iload_n 1, 1) ∧ 0 + 1 = 1 := by decide +kernel
theorem D_S_dry_1 : decode prog_1_method_19_code 1 = .ok (.invokestatic 128, 3) ∧ 1 + 3 = 4 := by decide +kernel
theorem D_S_dry_4 : decode prog_1_method_19_code 4 = .ok (.ifCond .ne 6, 3) ∧ ((4 : Nat) : Int) + 6 = ((10 : Nat) : Int) ∧ 4 + 3 = 7 := by decide +kernel
theorem D_S_dry_10 : decode prog_1_method_19_code 10 = .ok (.aload_n 0, 1) ∧ 10 + 1 = 11 := by decide +kernel
theorem D_S_dry_11 : decode prog_1_method_19_code 11 = .ok (.getfield 59, 3) ∧ 11 + 3 = 14 := by decide +kernel
theorem D_S_dry_14 : decode prog_1_method_19_code 14 = .ok (.aload_n 0, 1) ∧ 14 + 1 = 15 := by decide +kernel
theorem D_S_dry_15 : decode prog_1_method_19_code 15 = .ok (.getfield 52, 3) ∧ 15 + 3 = 18 := by decide +kernel
theorem D_S_dry_18 : decode prog_1_method_19_code 18 = .ok (.invokevirtual 166, 3) ∧ 18 + 3 = 21 := by decide +kernel
theorem D_S_dry_21 : decode prog_1_method_19_code 21 = .ok (.iconst 0, 1) ∧ 21 + 1 = 22 := by decide +kernel
theorem D_S_dry_22 : decode prog_1_method_19_code 22 = .ok (.istore_n 2, 1) ∧ 22 + 1 = 23 := by decide +kernel
theorem D_S_dry_23 : decode prog_1_method_19_code 23 = .ok (.iload_n 2, 1) ∧ 23 + 1 = 24 := by decide +kernel
theorem D_S_dry_24 : decode prog_1_method_19_code 24 = .ok (.sipush 300, 3) ∧ 24 + 3 = 27 := by decide +kernel
theorem D_S_dry_27 : decode prog_1_method_19_code 27 = .ok (.if_icmp .ge 31, 3) ∧ ((27 : Nat) : Int) + 31 = ((58 : Nat) : Int) ∧ 27 + 3 = 30 := by decide +kernel
theorem D_S_dry_58 : decode prog_1_method_19_code 58 = .ok (.aload_n 0, 1) ∧ 58 + 1 = 59 := by decide +kernel
theorem D_S_dry_59 : decode prog_1_method_19_code 59 = .ok (.getfield 59, 3) ∧ 59 + 3 = 62 := by decide +kernel
theorem D_S_dry_62 : decode prog_1_method_19_code 62 = .ok (.getfield 132, 3) ∧ 62 + 3 = 65 := by decide +kernel
theorem D_S_dry_65 : decode prog_1_method_19_code 65 = .ok (.iload_n 1, 1) ∧ 65 + 1 = 66 := by decide +kernel
theorem D_S_dry_66 : decode prog_1_method_19_code 66 = .ok (.iaload, 1) ∧ 66 + 1 = 67 := by decide +kernel
theorem D_S_dry_76 : decode prog_1_method_19_code 76 = .ok (.ldc 174, 2) ∧ 76 + 2 = 78 := by decide +kernel
theorem D_S_dry_70 : decode prog_1_method_19_code 70 = .ok (.sipush 300, 3) ∧ 70 + 3 = 73 := by decide +kernel
theorem D_S_dry_73 : decode prog_1_method_19_code 73 = .ok (.goto 5, 3) ∧ ((73 : Nat) : Int) + 5 = ((78 : Nat) : Int) := by decide +kernel
theorem D_S_dry_67 : decode prog_1_method_19_code 67 = .ok (.ifCond .ne 9, 3) ∧ ((67 : Nat) : Int) + 9 = ((76 : Nat) : Int) ∧ 67 + 3 = 70 := by decide +kernel
theorem D_S_dry_78 : decode prog_1_method_19_code 78 = .ok (.ireturn, 1) := by decide +kernel
theorem D_S_dry_30 : decode prog_1_method_19_code 30 = .ok (.aload_n 0, 1) ∧ 30 + 1 = 31 := by decide +kernel
theorem D_S_dry_31 : decode prog_1_method_19_code 31 = .ok (.getfield 59, 3) ∧ 31 + 3 = 34 := by decide +kernel
theorem D_S_dry_34 : decode prog_1_method_19_code 34 = .ok (.getfield 132, 3) ∧ 34 + 3 = 37 := by decide +kernel
theorem D_S_dry_37 : decode prog_1_method_19_code 37 = .ok (.iload_n 1, 1) ∧ 37 + 1 = 38 := by decide +kernel
theorem D_S_dry_38 : decode prog_1_method_19_code 38 = .ok (.iaload, 1) ∧ 38 + 1 = 39 := by decide +kernel
theorem D_S_dry_39 : decode prog_1_method_19_code 39 = .ok (.ifCond .ne 5, 3) ∧ ((39 : Nat) : Int) + 5 = ((44 : Nat) : Int) ∧ 39 + 3 = 42 := by decide +kernel
theorem D_S_dry_44 : decode prog_1_method_19_code 44 = .ok (.aload_n 0, 1) ∧ 44 + 1 = 45 := by decide +kernel
theorem D_S_dry_45 : decode prog_1_method_19_code 45 = .ok (.getfield 59, 3) ∧ 45 + 3 = 48 := by decide +kernel
theorem D_S_dry_48 : decode prog_1_method_19_code 48 = .ok (.invokevirtual 170, 3) ∧ 48 + 3 = 51 := by decide +kernel
theorem D_S_dry_51 : decode prog_1_method_19_code 51 = .ok (.pop, 1) ∧ 51 + 1 = 52 := by decide +kernel
theorem D_S_dry_52 : decode prog_1_method_19_code 52 = .ok (.iinc 2 1, 3) ∧ 52 + 3 = 55 := by decide +kernel
theorem D_S_dry_55 : decode prog_1_method_19_code 55 = .ok (.goto (-32), 3) ∧ ((55 : Nat) : Int) + (-32) = ((23 : Nat) : Int) := by decide +kernel
theorem D_S_dry_42 : decode prog_1_method_19_code 42 = .ok (.iload_n 2, 1) ∧ 42 + 1 = 43 := by decide +kernel
theorem D_S_dry_43 : decode prog_1_method_19_code 43 = .ok (.ireturn, 1) := by decide +kernel
theorem D_S_dry_7 : decode prog_1_method_19_code 7 = .ok (.ldc 77, 2) ∧ 7 + 2 = 9 := by decide +kernel
theorem D_S_dry_9 : decode prog_1_method_19_code 9 = .ok (.ireturn, 1) := by decide +kernel
def f_S_dry_L23 (N : Nat)  : Nat → Int32 → Int32 → Mm → Option (Int32 × Mm)
  | 0, _, _, _ => none
  | n + 1, b1, b2, mem => if 300 ≤ b2 then if inb b1 3 = true then some (if mem 67 (ix b1) = 0 then (300 : Int32) else (-1000000005), mem) else none else if inb b1 3 = true then if mem 67 (ix b1) = 0 then some (b2, mem) else bd (f_P_passHour N 58 mem) fun r_48 m_48 => f_S_dry_L23 N n b1 (b2 + 1) m_48 else none
def f_S_dry (N : Nat) (a1 : Int32) (mem : Mm) : Option (Int32 × Mm) := bp (f_S_isRiver a1) fun r_1 => if r_1 = 0 then some ((-1000000001), mem) else bp (f_P_become 58 38 mem) fun m_18 => f_S_dry_L23 N N a1 0 m_18
theorem L_S_dry_23 {X : Cx} {E : En} (S : Std X E prog_1_method_19_code R5 3 6) (N : Nat)  {r : Int32} {m2 : Mm} (hR : RetI X E prog_1_method_19_code 3 SH r m2) : ∀ (n : Nat) (b1 : Int32) (b2 : Int32) (mem : Mm), f_S_dry_L23 N n b1 b2 mem = some (r, m2) → J X E 3 23 [(0, .ref (eb E + 0)), (1, .int b1), (2, .int b2)] [] SH mem := by
  intro n
  induction n with
  | zero =>
    intro b1 b2 mem h; cases h
  | succ n ih =>
    intro b1 b2 mem h
    rw [f_S_dry_L23] at h
    refine j_iload_n S D_S_dry_23 2 rfl rfl ?_
    refine j_sipush S D_S_dry_24 cs_300 ?_
    refine j_icmp_ge S D_S_dry_27 (fun c_27 => ?_) (fun c_27 => ?_)
    · have h := ifT c_27 h
      refine j_aload_n S D_S_dry_58 0 rfl rfl ?_
      refine j_getR S D_S_dry_59 fl_R5_59 sh_Sand rfl ?_
      refine j_getR S D_S_dry_62 fl_R5_132 sh_P58 rfl ?_
      refine j_iload_n S D_S_dry_65 1 rfl rfl ?_
      obtain ⟨g_66, h⟩ := gdE h
      refine j_iald S D_S_dry_66 sh_67 g_66 ?_
      refine j_dia (P := J X E 3 78 [(0, .ref (eb E + 0)), (1, .int b1), (2, .int b2)] [.int (if mem 67 (ix b1) = 0 then (300 : Int32) else (-1000000005))] SH mem) (fun hj => ?_) ?_
      · refine j_if_ne S D_S_dry_67 (fun c_67 => ?_) (fun c_67 => ?_)
        · refine j_ldc S D_S_dry_76 co_R5_174 ?_
          exact j_jnF hj c_67
        · refine j_sipush S D_S_dry_70 cs_300 ?_
          refine j_goto S D_S_dry_73 ?_
          exact j_jnT hj c_67
      exact rtM hR h _ _ D_S_dry_78
    · have h := ifF c_27 h
      refine j_aload_n S D_S_dry_30 0 rfl rfl ?_
      refine j_getR S D_S_dry_31 fl_R5_59 sh_Sand rfl ?_
      refine j_getR S D_S_dry_34 fl_R5_132 sh_P58 rfl ?_
      refine j_iload_n S D_S_dry_37 1 rfl rfl ?_
      obtain ⟨g_38, h⟩ := gdE h
      refine j_iald S D_S_dry_38 sh_67 g_38 ?_
      refine j_if_ne S D_S_dry_39 (fun c_39 => ?_) (fun c_39 => ?_)
      · have h := ifF c_39 h
        refine j_aload_n S D_S_dry_44 0 rfl rfl ?_
        refine j_getR S D_S_dry_45 fl_R5_59 sh_Sand rfl ?_
        obtain ⟨r_48, m_48, e_48, h⟩ := bdE h
        refine j_callVI (As := []) S D_S_dry_48 mv_R5_170 (c_P_passHour (cxL X) E N 58 pic_58 e_48) (by decide) sh_P58 rfl rfl rfl rfl (Nat.le_of_ble_eq_true rfl) ?_
        refine j_pop S D_S_dry_51 rfl ?_
        refine j_iinc S D_S_dry_52 2 rfl (congrArg (fun z => b2 + z) ci_1) (lv := [(2, .int (b2 + 1)), (0, .ref (eb E + 0)), (1, .int b1)]) rfl (Nat.le_of_ble_eq_true rfl) ?_
        refine j_goto S D_S_dry_55 ?_
        refine j_locals [1, 2, 0] rfl (ih b1 (b2 + 1) m_48 h)
      · have h := ifT c_39 h
        refine j_iload_n S D_S_dry_42 2 rfl rfl ?_
        exact rtM hR h _ _ D_S_dry_43
theorem c_S_dry (l : Launch) (E : En) (N : Nat) (a1 : Int32) {mem : Mm} {r : Int32} {m2 : Mm} (h : f_S_dry N a1 mem = some (r, m2)) : CtI l E 6 y_S_dry prog_1_method_19_code 3 (some .int) [.ref (eb E + 0), .int a1] SH mem r m2 := by
  refine mk_CtI ⟨by decide, (Nat.le_of_ble_eq_true rfl)⟩ (fun X S hl hR => ?_)
  have S : Std X E prog_1_method_19_code R5 3 6 := S
  show J X E 3 0 [(0, .ref (eb E + 0)), (1, .int a1)] [] SH mem
  unfold f_S_dry at h
  refine j_iload_n S D_S_dry_0 1 rfl rfl ?_
  obtain ⟨r_1, e_1, h⟩ := bpE h
  refine j_callSI (As := [.int a1]) S D_S_dry_1 ms_R5_128 (c_S_isRiver (cxL X) E a1 (mem := mem) e_1) (by decide) rfl rfl (Nat.le_of_ble_eq_true rfl) ?_
  refine j_if_ne S D_S_dry_4 (fun c_4 => ?_) (fun c_4 => ?_)
  · have h := ifF c_4 h
    refine j_aload_n S D_S_dry_10 0 rfl rfl ?_
    refine j_getR S D_S_dry_11 fl_R5_59 sh_Sand rfl ?_
    refine j_aload_n S D_S_dry_14 0 rfl rfl ?_
    refine j_getR S D_S_dry_15 fl_R5_52 sh_Sand rfl ?_
    obtain ⟨m_18, e_18, h⟩ := bpE h
    refine j_callVV (As := [.ref (eb E + 38)]) S D_S_dry_18 mv_R5_166 (c_P_become (cxL X) E 58 pic_58 38 pic_38 e_18) (by decide) sh_P58 rfl rfl rfl rfl (Nat.le_of_ble_eq_true rfl) ?_
    refine j_iconst S D_S_dry_21 ci_0 ?_
    refine j_istore_n S D_S_dry_22 (lv := [(2, .int 0), (0, .ref (eb E + 0)), (1, .int a1)]) rfl ⟨rfl, (Nat.le_of_ble_eq_true rfl)⟩ ?_
    refine j_locals [1, 2, 0] rfl ?_
    exact L_S_dry_23 S N hR N a1 0 m_18 h
  · have h := ifT c_4 h
    refine j_ldc S D_S_dry_7 co_R5_77 ?_
    exact rtM hR h _ _ D_S_dry_9

def y_S_goes : MethodName := ⟨"SandPicture", "goes", "(III)I"⟩
theorem D_S_goes_0 : decode prog_1_method_20_code 0 = .ok (.aload_n 0, 1) ∧ 0 + 1 = 1 := by decide +kernel
theorem D_S_goes_1 : decode prog_1_method_20_code 1 = .ok (.iload_n 1, 1) ∧ 1 + 1 = 2 := by decide +kernel
theorem D_S_goes_2 : decode prog_1_method_20_code 2 = .ok (.invokevirtual 86, 3) ∧ 2 + 3 = 5 := by decide +kernel
theorem D_S_goes_5 : decode prog_1_method_20_code 5 = .ok (.ifCond .eq 22, 3) ∧ ((5 : Nat) : Int) + 22 = ((27 : Nat) : Int) ∧ 5 + 3 = 8 := by decide +kernel
theorem D_S_goes_27 : decode prog_1_method_20_code 27 = .ok (.ldc 77, 2) ∧ 27 + 2 = 29 := by decide +kernel
theorem D_S_goes_29 : decode prog_1_method_20_code 29 = .ok (.ireturn, 1) := by decide +kernel
theorem D_S_goes_8 : decode prog_1_method_20_code 8 = .ok (.iload_n 2, 1) ∧ 8 + 1 = 9 := by decide +kernel
theorem D_S_goes_9 : decode prog_1_method_20_code 9 = .ok (.iconst 1, 1) ∧ 9 + 1 = 10 := by decide +kernel
theorem D_S_goes_10 : decode prog_1_method_20_code 10 = .ok (.bipush 60, 2) ∧ 10 + 2 = 12 := by decide +kernel
theorem D_S_goes_12 : decode prog_1_method_20_code 12 = .ok (.invokestatic 70, 3) ∧ 12 + 3 = 15 := by decide +kernel
theorem D_S_goes_15 : decode prog_1_method_20_code 15 = .ok (.ifCond .eq 12, 3) ∧ ((15 : Nat) : Int) + 12 = ((27 : Nat) : Int) ∧ 15 + 3 = 18 := by decide +kernel
theorem D_S_goes_18 : decode prog_1_method_20_code 18 = .ok (.iload_n 3, 1) ∧ 18 + 1 = 19 := by decide +kernel
theorem D_S_goes_19 : decode prog_1_method_20_code 19 = .ok (.iconst 0, 1) ∧ 19 + 1 = 20 := by decide +kernel
theorem D_S_goes_20 : decode prog_1_method_20_code 20 = .ok (.iconst 1, 1) ∧ 20 + 1 = 21 := by decide +kernel
theorem D_S_goes_21 : decode prog_1_method_20_code 21 = .ok (.invokestatic 70, 3) ∧ 21 + 3 = 24 := by decide +kernel
theorem D_S_goes_24 : decode prog_1_method_20_code 24 = .ok (.ifCond .ne 6, 3) ∧ ((24 : Nat) : Int) + 6 = ((30 : Nat) : Int) ∧ 24 + 3 = 27 := by decide +kernel
theorem D_S_goes_30 : decode prog_1_method_20_code 30 = .ok (.iconst 0, 1) ∧ 30 + 1 = 31 := by decide +kernel
theorem D_S_goes_31 : decode prog_1_method_20_code 31 = .ok (.istore 4, 2) ∧ 31 + 2 = 33 := by decide +kernel
theorem D_S_goes_33 : decode prog_1_method_20_code 33 = .ok (.iconst (-1), 1) ∧ 33 + 1 = 34 := by decide +kernel
theorem D_S_goes_34 : decode prog_1_method_20_code 34 = .ok (.istore 5, 2) ∧ 34 + 2 = 36 := by decide +kernel
theorem D_S_goes_36 : decode prog_1_method_20_code 36 = .ok (.iconst 0, 1) ∧ 36 + 1 = 37 := by decide +kernel
theorem D_S_goes_37 : decode prog_1_method_20_code 37 = .ok (.istore 6, 2) ∧ 37 + 2 = 39 := by decide +kernel
theorem D_S_goes_39 : decode prog_1_method_20_code 39 = .ok (.iload 6, 2) ∧ 39 + 2 = 41 := by decide +kernel
theorem D_S_goes_41 : decode prog_1_method_20_code 41 = .ok (.bipush 6, 2) ∧ 41 + 2 = 43 := by decide +kernel
theorem D_S_goes_43 : decode prog_1_method_20_code 43 = .ok (.if_icmp .ge 67, 3) ∧ ((43 : Nat) : Int) + 67 = ((110 : Nat) : Int) ∧ 43 + 3 = 46 := by decide +kernel
theorem D_S_goes_46 : decode prog_1_method_20_code 46 = .ok (.aload_n 0, 1) ∧ 46 + 1 = 47 := by decide +kernel
theorem D_S_goes_47 : decode prog_1_method_20_code 47 = .ok (.getfield 59, 3) ∧ 47 + 3 = 50 := by decide +kernel
theorem D_S_goes_50 : decode prog_1_method_20_code 50 = .ok (.aload_n 0, 1) ∧ 50 + 1 = 51 := by decide +kernel
theorem D_S_goes_51 : decode prog_1_method_20_code 51 = .ok (.getfield 52, 3) ∧ 51 + 3 = 54 := by decide +kernel
theorem D_S_goes_54 : decode prog_1_method_20_code 54 = .ok (.invokevirtual 166, 3) ∧ 54 + 3 = 57 := by decide +kernel
theorem D_S_goes_57 : decode prog_1_method_20_code 57 = .ok (.aload_n 0, 1) ∧ 57 + 1 = 58 := by decide +kernel
theorem D_S_goes_58 : decode prog_1_method_20_code 58 = .ok (.getfield 59, 3) ∧ 58 + 3 = 61 := by decide +kernel
theorem D_S_goes_61 : decode prog_1_method_20_code 61 = .ok (.getfield 95, 3) ∧ 61 + 3 = 64 := by decide +kernel
theorem D_S_goes_64 : decode prog_1_method_20_code 64 = .ok (.iload_n 1, 1) ∧ 64 + 1 = 65 := by decide +kernel
theorem D_S_goes_65 : decode prog_1_method_20_code 65 = .ok (.iload 6, 2) ∧ 65 + 2 = 67 := by decide +kernel
theorem D_S_goes_67 : decode prog_1_method_20_code 67 = .ok (.iastore, 1) ∧ 67 + 1 = 68 := by decide +kernel
theorem D_S_goes_68 : decode prog_1_method_20_code 68 = .ok (.aload_n 0, 1) ∧ 68 + 1 = 69 := by decide +kernel
theorem D_S_goes_69 : decode prog_1_method_20_code 69 = .ok (.getfield 59, 3) ∧ 69 + 3 = 72 := by decide +kernel
theorem D_S_goes_72 : decode prog_1_method_20_code 72 = .ok (.iload_n 2, 1) ∧ 72 + 1 = 73 := by decide +kernel
theorem D_S_goes_73 : decode prog_1_method_20_code 73 = .ok (.invokevirtual 152, 3) ∧ 73 + 3 = 76 := by decide +kernel
theorem D_S_goes_76 : decode prog_1_method_20_code 76 = .ok (.pop, 1) ∧ 76 + 1 = 77 := by decide +kernel
theorem D_S_goes_77 : decode prog_1_method_20_code 77 = .ok (.aload_n 0, 1) ∧ 77 + 1 = 78 := by decide +kernel
theorem D_S_goes_78 : decode prog_1_method_20_code 78 = .ok (.getfield 59, 3) ∧ 78 + 3 = 81 := by decide +kernel
theorem D_S_goes_81 : decode prog_1_method_20_code 81 = .ok (.getfield 125, 3) ∧ 81 + 3 = 84 := by decide +kernel
theorem D_S_goes_84 : decode prog_1_method_20_code 84 = .ok (.invokestatic 159, 3) ∧ 84 + 3 = 87 := by decide +kernel
theorem D_S_goes_87 : decode prog_1_method_20_code 87 = .ok (.istore 7, 2) ∧ 87 + 2 = 89 := by decide +kernel
theorem D_S_goes_89 : decode prog_1_method_20_code 89 = .ok (.iload 7, 2) ∧ 89 + 2 = 91 := by decide +kernel
theorem D_S_goes_91 : decode prog_1_method_20_code 91 = .ok (.iload 5, 2) ∧ 91 + 2 = 93 := by decide +kernel
theorem D_S_goes_93 : decode prog_1_method_20_code 93 = .ok (.if_icmp .le 11, 3) ∧ ((93 : Nat) : Int) + 11 = ((104 : Nat) : Int) ∧ 93 + 3 = 96 := by decide +kernel
theorem D_S_goes_104 : decode prog_1_method_20_code 104 = .ok (.iinc 6 1, 3) ∧ 104 + 3 = 107 := by decide +kernel
theorem D_S_goes_107 : decode prog_1_method_20_code 107 = .ok (.goto (-68), 3) ∧ ((107 : Nat) : Int) + (-68) = ((39 : Nat) : Int) := by decide +kernel
theorem D_S_goes_96 : decode prog_1_method_20_code 96 = .ok (.iload 6, 2) ∧ 96 + 2 = 98 := by decide +kernel
theorem D_S_goes_98 : decode prog_1_method_20_code 98 = .ok (.istore 4, 2) ∧ 98 + 2 = 100 := by decide +kernel
theorem D_S_goes_100 : decode prog_1_method_20_code 100 = .ok (.iload 7, 2) ∧ 100 + 2 = 102 := by decide +kernel
theorem D_S_goes_102 : decode prog_1_method_20_code 102 = .ok (.istore 5, 2) ∧ 102 + 2 = 104 := by decide +kernel
theorem D_S_goes_110 : decode prog_1_method_20_code 110 = .ok (.iload_n 3, 1) ∧ 110 + 1 = 111 := by decide +kernel
theorem D_S_goes_119 : decode prog_1_method_20_code 119 = .ok (.iload 5, 2) ∧ 119 + 2 = 121 := by decide +kernel
theorem D_S_goes_114 : decode prog_1_method_20_code 114 = .ok (.iload 4, 2) ∧ 114 + 2 = 116 := by decide +kernel
theorem D_S_goes_116 : decode prog_1_method_20_code 116 = .ok (.goto 5, 3) ∧ ((116 : Nat) : Int) + 5 = ((121 : Nat) : Int) := by decide +kernel
theorem D_S_goes_111 : decode prog_1_method_20_code 111 = .ok (.ifCond .ne 8, 3) ∧ ((111 : Nat) : Int) + 8 = ((119 : Nat) : Int) ∧ 111 + 3 = 114 := by decide +kernel
theorem D_S_goes_121 : decode prog_1_method_20_code 121 = .ok (.ireturn, 1) := by decide +kernel
def f_S_goes_L39 (N : Nat)  : Nat → Int32 → Int32 → Int32 → Int32 → Int32 → Int32 → Mm → Option ((Int32 × Int32 × Int32) × Mm)
  | 0, _, _, _, _, _, _, _ => none
  | n + 1, b1, b2, b3, b4, b5, b6, mem => if 6 ≤ b6 then some ((b4, b5, b6), mem) else bp (f_P_become 58 38 mem) fun m_54 => if inb b1 10 = true then lt (mst m_54 62 (ix b1) b6) fun m_67 => bd (f_P_passHours N 58 b2 m_67) fun r_73 m_73 => bp (f_S_sum N 66 6 m_73) fun r_84 => if r_84 ≤ b5 then f_S_goes_L39 N n b1 b2 b3 b4 b5 (b6 + 1) m_73 else f_S_goes_L39 N n b1 b2 b3 b6 r_84 (b6 + 1) m_73 else none
def f_S_goes (N : Nat) (a1 : Int32) (a2 : Int32) (a3 : Int32) (mem : Mm) : Option (Int32 × Mm) := bp (f_S_isMonk a1 mem) fun r_2 => if r_2 = 0 then some ((-1000000001), mem) else bp (f_S_within a2 1 60) fun r_12 => if r_12 = 0 then some ((-1000000001), mem) else bp (f_S_within a3 0 1) fun r_21 => if r_21 = 0 then some ((-1000000001), mem) else bd (f_S_goes_L39 N N a1 a2 a3 0 (-1) 0 mem) fun y_39 m_39 => some (if a3 = 0 then y_39.1 else y_39.2.1, m_39)
theorem L_S_goes_39 {X : Cx} {E : En} (S : Std X E prog_1_method_20_code R5 8 7) (N : Nat)  : ∀ (n : Nat) (b1 : Int32) (b2 : Int32) (b3 : Int32) (b4 : Int32) (b5 : Int32) (b6 : Int32) (mem : Mm) (z : Int32 × Int32 × Int32) (m2 : Mm), f_S_goes_L39 N n b1 b2 b3 b4 b5 b6 mem = some (z, m2) → J X E 8 110 [(0, .ref (eb E + 0)), (1, .int b1), (2, .int b2), (3, .int b3), (4, .int z.1), (5, .int z.2.1), (6, .int z.2.2)] [] SH m2 → J X E 8 39 [(0, .ref (eb E + 0)), (1, .int b1), (2, .int b2), (3, .int b3), (4, .int b4), (5, .int b5), (6, .int b6)] [] SH mem := by
  intro n
  induction n with
  | zero =>
    intro b1 b2 b3 b4 b5 b6 mem z m2 h hk; cases h
  | succ n ih =>
    intro b1 b2 b3 b4 b5 b6 mem z m2 h hk
    rw [f_S_goes_L39] at h
    refine j_iload S D_S_goes_39 6 rfl ?_
    refine j_bipush S D_S_goes_41 cb_6 ?_
    refine j_icmp_ge S D_S_goes_43 (fun c_43 => ?_) (fun c_43 => ?_)
    · have h := ifT c_43 h
      cases h
      exact j_locals [0, 1, 2, 3, 4, 5, 6] rfl hk
    · have h := ifF c_43 h
      refine j_aload_n S D_S_goes_46 0 rfl rfl ?_
      refine j_getR S D_S_goes_47 fl_R5_59 sh_Sand rfl ?_
      refine j_aload_n S D_S_goes_50 0 rfl rfl ?_
      refine j_getR S D_S_goes_51 fl_R5_52 sh_Sand rfl ?_
      obtain ⟨m_54, e_54, h⟩ := bpE h
      refine j_callVV (As := [.ref (eb E + 38)]) S D_S_goes_54 mv_R5_166 (c_P_become (cxL X) E 58 pic_58 38 pic_38 e_54) (by decide) sh_P58 rfl rfl rfl rfl (Nat.le_of_ble_eq_true rfl) ?_
      refine j_aload_n S D_S_goes_57 0 rfl rfl ?_
      refine j_getR S D_S_goes_58 fl_R5_59 sh_Sand rfl ?_
      refine j_getR S D_S_goes_61 fl_R5_95 sh_P58 rfl ?_
      refine j_iload_n S D_S_goes_64 1 rfl rfl ?_
      refine j_iload S D_S_goes_65 6 rfl ?_
      obtain ⟨g_67, h⟩ := gdE h
      obtain ⟨m_67, hm_67, h⟩ := ltE h
      refine j_iast S D_S_goes_67 sh_62 g_67 ?_
      refine j_mem hm_67 ?_
      refine j_aload_n S D_S_goes_68 0 rfl rfl ?_
      refine j_getR S D_S_goes_69 fl_R5_59 sh_Sand rfl ?_
      refine j_iload_n S D_S_goes_72 2 rfl rfl ?_
      obtain ⟨r_73, m_73, e_73, h⟩ := bdE h
      refine j_callVI (As := [.int b2]) S D_S_goes_73 mv_R5_152 (c_P_passHours (cxL X) E N 58 pic_58 b2 e_73) (by decide) sh_P58 rfl rfl rfl rfl (Nat.le_of_ble_eq_true rfl) ?_
      refine j_pop S D_S_goes_76 rfl ?_
      refine j_aload_n S D_S_goes_77 0 rfl rfl ?_
      refine j_getR S D_S_goes_78 fl_R5_59 sh_Sand rfl ?_
      refine j_getR S D_S_goes_81 fl_R5_125 sh_P58 rfl ?_
      obtain ⟨r_84, e_84, h⟩ := bpE h
      refine j_callSI (As := [.ref (eb E + 66)]) S D_S_goes_84 ms_R5_159 (c_S_sum (cxL X) E N 66 6 sh_66 e_84) (by decide) rfl rfl (Nat.le_of_ble_eq_true rfl) ?_
      refine j_istore S D_S_goes_87 (lv := [(7, .int r_84), (0, .ref (eb E + 0)), (1, .int b1), (2, .int b2), (3, .int b3), (4, .int b4), (5, .int b5), (6, .int b6)]) rfl (Nat.le_of_ble_eq_true rfl) ?_
      refine j_iload S D_S_goes_89 0 rfl ?_
      refine j_iload S D_S_goes_91 6 rfl ?_
      refine j_icmp_le S D_S_goes_93 (fun c_93 => ?_) (fun c_93 => ?_)
      · have h := ifT c_93 h
        refine j_iinc S D_S_goes_104 7 rfl (congrArg (fun z => b6 + z) ci_1) (lv := [(6, .int (b6 + 1)), (7, .int r_84), (0, .ref (eb E + 0)), (1, .int b1), (2, .int b2), (3, .int b3), (4, .int b4), (5, .int b5)]) rfl (Nat.le_of_ble_eq_true rfl) ?_
        refine j_goto S D_S_goes_107 ?_
        refine j_locals [2, 3, 4, 5, 6, 7, 0] rfl (ih b1 b2 b3 b4 b5 (b6 + 1) m_73 _ _ h hk)
      · have h := ifF c_93 h
        refine j_iload S D_S_goes_96 7 rfl ?_
        refine j_istore S D_S_goes_98 (lv := [(4, .int b6), (7, .int r_84), (0, .ref (eb E + 0)), (1, .int b1), (2, .int b2), (3, .int b3), (5, .int b5), (6, .int b6)]) rfl (Nat.le_of_ble_eq_true rfl) ?_
        refine j_iload S D_S_goes_100 1 rfl ?_
        refine j_istore S D_S_goes_102 (lv := [(5, .int r_84), (4, .int b6), (7, .int r_84), (0, .ref (eb E + 0)), (1, .int b1), (2, .int b2), (3, .int b3), (6, .int b6)]) rfl (Nat.le_of_ble_eq_true rfl) ?_
        refine j_iinc S D_S_goes_104 7 rfl (congrArg (fun z => b6 + z) ci_1) (lv := [(6, .int (b6 + 1)), (5, .int r_84), (4, .int b6), (7, .int r_84), (0, .ref (eb E + 0)), (1, .int b1), (2, .int b2), (3, .int b3)]) rfl (Nat.le_of_ble_eq_true rfl) ?_
        refine j_goto S D_S_goes_107 ?_
        refine j_locals [4, 5, 6, 7, 2, 1, 0] rfl (ih b1 b2 b3 b6 r_84 (b6 + 1) m_73 _ _ h hk)
theorem c_S_goes (l : Launch) (E : En) (N : Nat) (a1 : Int32) (a2 : Int32) (a3 : Int32) {mem : Mm} {r : Int32} {m2 : Mm} (h : f_S_goes N a1 a2 a3 mem = some (r, m2)) : CtI l E 7 y_S_goes prog_1_method_20_code 8 (some .int) [.ref (eb E + 0), .int a1, .int a2, .int a3] SH mem r m2 := by
  refine mk_CtI ⟨by decide, (Nat.le_of_ble_eq_true rfl)⟩ (fun X S hl hR => ?_)
  have S : Std X E prog_1_method_20_code R5 8 7 := S
  show J X E 8 0 [(0, .ref (eb E + 0)), (1, .int a1), (2, .int a2), (3, .int a3)] [] SH mem
  unfold f_S_goes at h
  refine j_aload_n S D_S_goes_0 0 rfl rfl ?_
  refine j_iload_n S D_S_goes_1 1 rfl rfl ?_
  obtain ⟨r_2, e_2, h⟩ := bpE h
  refine j_callVI (As := [.int a1]) S D_S_goes_2 mv_R5_86 (c_S_isMonk (cxL X) E a1 e_2) (by decide) sh_Sand rfl rfl rfl rfl (Nat.le_of_ble_eq_true rfl) ?_
  refine j_if_eq S D_S_goes_5 (fun c_5 => ?_) (fun c_5 => ?_)
  · have h := ifT c_5 h
    refine j_ldc S D_S_goes_27 co_R5_77 ?_
    exact rtM hR h _ _ D_S_goes_29
  · have h := ifF c_5 h
    refine j_iload_n S D_S_goes_8 2 rfl rfl ?_
    refine j_iconst S D_S_goes_9 ci_1 ?_
    refine j_bipush S D_S_goes_10 cb_60 ?_
    obtain ⟨r_12, e_12, h⟩ := bpE h
    refine j_callSI (As := [.int a2, .int 1, .int 60]) S D_S_goes_12 ms_R5_70 (c_S_within (cxL X) E a2 1 60 (mem := mem) e_12) (by decide) rfl rfl (Nat.le_of_ble_eq_true rfl) ?_
    refine j_if_eq S D_S_goes_15 (fun c_15 => ?_) (fun c_15 => ?_)
    · have h := ifT c_15 h
      refine j_ldc S D_S_goes_27 co_R5_77 ?_
      exact rtM hR h _ _ D_S_goes_29
    · have h := ifF c_15 h
      refine j_iload_n S D_S_goes_18 3 rfl rfl ?_
      refine j_iconst S D_S_goes_19 ci_0 ?_
      refine j_iconst S D_S_goes_20 ci_1 ?_
      obtain ⟨r_21, e_21, h⟩ := bpE h
      refine j_callSI (As := [.int a3, .int 0, .int 1]) S D_S_goes_21 ms_R5_70 (c_S_within (cxL X) E a3 0 1 (mem := mem) e_21) (by decide) rfl rfl (Nat.le_of_ble_eq_true rfl) ?_
      refine j_if_ne S D_S_goes_24 (fun c_24 => ?_) (fun c_24 => ?_)
      · have h := ifF c_24 h
        refine j_iconst S D_S_goes_30 ci_0 ?_
        refine j_istore S D_S_goes_31 (lv := [(4, .int 0), (0, .ref (eb E + 0)), (1, .int a1), (2, .int a2), (3, .int a3)]) rfl (Nat.le_of_ble_eq_true rfl) ?_
        refine j_iconst S D_S_goes_33 ci_m1 ?_
        refine j_istore S D_S_goes_34 (lv := [(5, .int (-1)), (4, .int 0), (0, .ref (eb E + 0)), (1, .int a1), (2, .int a2), (3, .int a3)]) rfl (Nat.le_of_ble_eq_true rfl) ?_
        refine j_iconst S D_S_goes_36 ci_0 ?_
        refine j_istore S D_S_goes_37 (lv := [(6, .int 0), (5, .int (-1)), (4, .int 0), (0, .ref (eb E + 0)), (1, .int a1), (2, .int a2), (3, .int a3)]) rfl (Nat.le_of_ble_eq_true rfl) ?_
        refine j_locals [3, 4, 5, 6, 2, 1, 0] rfl ?_
        obtain ⟨y_39, m_39, e_39, h⟩ := bdE h
        refine L_S_goes_39 S N N a1 a2 a3 0 (-1) 0 mem _ _ e_39 ?_
        refine j_iload_n S D_S_goes_110 3 rfl rfl ?_
        refine j_dia (P := J X E 8 121 [(0, .ref (eb E + 0)), (1, .int a1), (2, .int a2), (3, .int a3), (4, .int y_39.1), (5, .int y_39.2.1), (6, .int y_39.2.2)] [.int (if a3 = 0 then y_39.1 else y_39.2.1)] SH m_39) (fun hj => ?_) ?_
        · refine j_if_ne S D_S_goes_111 (fun c_111 => ?_) (fun c_111 => ?_)
          · refine j_iload S D_S_goes_119 5 rfl ?_
            exact j_jnF hj c_111
          · refine j_iload S D_S_goes_114 4 rfl ?_
            refine j_goto S D_S_goes_116 ?_
            exact j_jnT hj c_111
        exact rtM hR h _ _ D_S_goes_121
      · have h := ifT c_24 h
        refine j_ldc S D_S_goes_27 co_R5_77 ?_
        exact rtM hR h _ _ D_S_goes_29

def y_S_blamed : MethodName := ⟨"SandPicture", "blamed", "(I)I"⟩
theorem D_S_blamed_0 : decode prog_1_method_21_code 0 = .ok (.iload_n 1, 1) ∧ 0 + 1 = 1 := by decide +kernel
theorem D_S_blamed_1 : decode prog_1_method_21_code 1 = .ok (.iconst 1, 1) ∧ 1 + 1 = 2 := by decide +kernel
theorem D_S_blamed_2 : decode prog_1_method_21_code 2 = .ok (.bipush 60, 2) ∧ 2 + 2 = 4 := by decide +kernel
theorem D_S_blamed_4 : decode prog_1_method_21_code 4 = .ok (.invokestatic 70, 3) ∧ 4 + 3 = 7 := by decide +kernel
theorem D_S_blamed_7 : decode prog_1_method_21_code 7 = .ok (.ifCond .ne 6, 3) ∧ ((7 : Nat) : Int) + 6 = ((13 : Nat) : Int) ∧ 7 + 3 = 10 := by decide +kernel
theorem D_S_blamed_13 : decode prog_1_method_21_code 13 = .ok (.ldc 174, 2) ∧ 13 + 2 = 15 := by decide +kernel
theorem D_S_blamed_15 : decode prog_1_method_21_code 15 = .ok (.istore_n 2, 1) ∧ 15 + 1 = 16 := by decide +kernel
theorem D_S_blamed_16 : decode prog_1_method_21_code 16 = .ok (.iconst 0, 1) ∧ 16 + 1 = 17 := by decide +kernel
theorem D_S_blamed_17 : decode prog_1_method_21_code 17 = .ok (.istore_n 3, 1) ∧ 17 + 1 = 18 := by decide +kernel
theorem D_S_blamed_18 : decode prog_1_method_21_code 18 = .ok (.iconst 0, 1) ∧ 18 + 1 = 19 := by decide +kernel
theorem D_S_blamed_19 : decode prog_1_method_21_code 19 = .ok (.istore 4, 2) ∧ 19 + 2 = 21 := by decide +kernel
theorem D_S_blamed_21 : decode prog_1_method_21_code 21 = .ok (.iload 4, 2) ∧ 21 + 2 = 23 := by decide +kernel
theorem D_S_blamed_23 : decode prog_1_method_21_code 23 = .ok (.aload_n 0, 1) ∧ 23 + 1 = 24 := by decide +kernel
theorem D_S_blamed_24 : decode prog_1_method_21_code 24 = .ok (.getfield 52, 3) ∧ 24 + 3 = 27 := by decide +kernel
theorem D_S_blamed_27 : decode prog_1_method_21_code 27 = .ok (.getfield 78, 3) ∧ 27 + 3 = 30 := by decide +kernel
theorem D_S_blamed_30 : decode prog_1_method_21_code 30 = .ok (.if_icmp .ge 76, 3) ∧ ((30 : Nat) : Int) + 76 = ((106 : Nat) : Int) ∧ 30 + 3 = 33 := by decide +kernel
theorem D_S_blamed_33 : decode prog_1_method_21_code 33 = .ok (.aload_n 0, 1) ∧ 33 + 1 = 34 := by decide +kernel
theorem D_S_blamed_34 : decode prog_1_method_21_code 34 = .ok (.getfield 59, 3) ∧ 34 + 3 = 37 := by decide +kernel
theorem D_S_blamed_37 : decode prog_1_method_21_code 37 = .ok (.aload_n 0, 1) ∧ 37 + 1 = 38 := by decide +kernel
theorem D_S_blamed_38 : decode prog_1_method_21_code 38 = .ok (.getfield 52, 3) ∧ 38 + 3 = 41 := by decide +kernel
theorem D_S_blamed_41 : decode prog_1_method_21_code 41 = .ok (.invokevirtual 166, 3) ∧ 41 + 3 = 44 := by decide +kernel
theorem D_S_blamed_44 : decode prog_1_method_21_code 44 = .ok (.aload_n 0, 1) ∧ 44 + 1 = 45 := by decide +kernel
theorem D_S_blamed_45 : decode prog_1_method_21_code 45 = .ok (.getfield 59, 3) ∧ 45 + 3 = 48 := by decide +kernel
theorem D_S_blamed_48 : decode prog_1_method_21_code 48 = .ok (.iload 4, 2) ∧ 48 + 2 = 50 := by decide +kernel
theorem D_S_blamed_50 : decode prog_1_method_21_code 50 = .ok (.putfield 175, 3) ∧ 50 + 3 = 53 := by decide +kernel
theorem D_S_blamed_53 : decode prog_1_method_21_code 53 = .ok (.aload_n 0, 1) ∧ 53 + 1 = 54 := by decide +kernel
theorem D_S_blamed_54 : decode prog_1_method_21_code 54 = .ok (.getfield 59, 3) ∧ 54 + 3 = 57 := by decide +kernel
theorem D_S_blamed_57 : decode prog_1_method_21_code 57 = .ok (.iload_n 1, 1) ∧ 57 + 1 = 58 := by decide +kernel
theorem D_S_blamed_58 : decode prog_1_method_21_code 58 = .ok (.invokevirtual 152, 3) ∧ 58 + 3 = 61 := by decide +kernel
theorem D_S_blamed_61 : decode prog_1_method_21_code 61 = .ok (.pop, 1) ∧ 61 + 1 = 62 := by decide +kernel
theorem D_S_blamed_62 : decode prog_1_method_21_code 62 = .ok (.aload_n 0, 1) ∧ 62 + 1 = 63 := by decide +kernel
theorem D_S_blamed_63 : decode prog_1_method_21_code 63 = .ok (.getfield 59, 3) ∧ 63 + 3 = 66 := by decide +kernel
theorem D_S_blamed_66 : decode prog_1_method_21_code 66 = .ok (.getfield 122, 3) ∧ 66 + 3 = 69 := by decide +kernel
theorem D_S_blamed_69 : decode prog_1_method_21_code 69 = .ok (.invokestatic 159, 3) ∧ 69 + 3 = 72 := by decide +kernel
theorem D_S_blamed_72 : decode prog_1_method_21_code 72 = .ok (.aload_n 0, 1) ∧ 72 + 1 = 73 := by decide +kernel
theorem D_S_blamed_73 : decode prog_1_method_21_code 73 = .ok (.getfield 59, 3) ∧ 73 + 3 = 76 := by decide +kernel
theorem D_S_blamed_76 : decode prog_1_method_21_code 76 = .ok (.getfield 156, 3) ∧ 76 + 3 = 79 := by decide +kernel
theorem D_S_blamed_79 : decode prog_1_method_21_code 79 = .ok (.iadd, 1) ∧ 79 + 1 = 80 := by decide +kernel
theorem D_S_blamed_80 : decode prog_1_method_21_code 80 = .ok (.istore 5, 2) ∧ 80 + 2 = 82 := by decide +kernel
theorem D_S_blamed_82 : decode prog_1_method_21_code 82 = .ok (.iload_n 2, 1) ∧ 82 + 1 = 83 := by decide +kernel
theorem D_S_blamed_83 : decode prog_1_method_21_code 83 = .ok (.ldc 174, 2) ∧ 83 + 2 = 85 := by decide +kernel
theorem D_S_blamed_85 : decode prog_1_method_21_code 85 = .ok (.if_icmp .eq 9, 3) ∧ ((85 : Nat) : Int) + 9 = ((94 : Nat) : Int) ∧ 85 + 3 = 88 := by decide +kernel
theorem D_S_blamed_94 : decode prog_1_method_21_code 94 = .ok (.iload 4, 2) ∧ 94 + 2 = 96 := by decide +kernel
theorem D_S_blamed_96 : decode prog_1_method_21_code 96 = .ok (.istore_n 2, 1) ∧ 96 + 1 = 97 := by decide +kernel
theorem D_S_blamed_97 : decode prog_1_method_21_code 97 = .ok (.iload 5, 2) ∧ 97 + 2 = 99 := by decide +kernel
theorem D_S_blamed_99 : decode prog_1_method_21_code 99 = .ok (.istore_n 3, 1) ∧ 99 + 1 = 100 := by decide +kernel
theorem D_S_blamed_100 : decode prog_1_method_21_code 100 = .ok (.iinc 4 1, 3) ∧ 100 + 3 = 103 := by decide +kernel
theorem D_S_blamed_103 : decode prog_1_method_21_code 103 = .ok (.goto (-82), 3) ∧ ((103 : Nat) : Int) + (-82) = ((21 : Nat) : Int) := by decide +kernel
theorem D_S_blamed_88 : decode prog_1_method_21_code 88 = .ok (.iload 5, 2) ∧ 88 + 2 = 90 := by decide +kernel
theorem D_S_blamed_90 : decode prog_1_method_21_code 90 = .ok (.iload_n 3, 1) ∧ 90 + 1 = 91 := by decide +kernel
theorem D_S_blamed_91 : decode prog_1_method_21_code 91 = .ok (.if_icmp .ge 9, 3) ∧ ((91 : Nat) : Int) + 9 = ((100 : Nat) : Int) ∧ 91 + 3 = 94 := by decide +kernel
theorem D_S_blamed_106 : decode prog_1_method_21_code 106 = .ok (.iload_n 2, 1) ∧ 106 + 1 = 107 := by decide +kernel
theorem D_S_blamed_107 : decode prog_1_method_21_code 107 = .ok (.ireturn, 1) := by decide +kernel
theorem D_S_blamed_10 : decode prog_1_method_21_code 10 = .ok (.ldc 77, 2) ∧ 10 + 2 = 12 := by decide +kernel
theorem D_S_blamed_12 : decode prog_1_method_21_code 12 = .ok (.ireturn, 1) := by decide +kernel
def f_S_blamed_L21 (N : Nat)  : Nat → Int32 → Int32 → Int32 → Int32 → Mm → Option ((Int32 × Int32 × Int32) × Mm)
  | 0, _, _, _, _, _ => none
  | n + 1, b1, b2, b3, b4, mem => if mem 38 4 ≤ b4 then some ((b2, b3, b4), mem) else bp (f_P_become 58 38 mem) fun m_41 => lt (mst m_41 58 18 b4) fun m_50 => bd (f_P_passHours N 58 b1 m_50) fun r_58 m_58 => bp (f_S_sum N 65 6 m_58) fun r_69 => lt (r_69 + (m_58 58 14)) fun x_80 => if b2 = (-1000000005) then f_S_blamed_L21 N n b1 b4 x_80 (b4 + 1) m_58 else if b3 ≤ x_80 then f_S_blamed_L21 N n b1 b2 b3 (b4 + 1) m_58 else f_S_blamed_L21 N n b1 b4 x_80 (b4 + 1) m_58
def f_S_blamed (N : Nat) (a1 : Int32) (mem : Mm) : Option (Int32 × Mm) := bp (f_S_within a1 1 60) fun r_4 => if r_4 = 0 then some ((-1000000001), mem) else bd (f_S_blamed_L21 N N a1 (-1000000005) 0 0 mem) fun y_21 m_21 => some (y_21.1, m_21)
theorem L_S_blamed_21 {X : Cx} {E : En} (S : Std X E prog_1_method_21_code R5 6 7) (N : Nat)  : ∀ (n : Nat) (b1 : Int32) (b2 : Int32) (b3 : Int32) (b4 : Int32) (mem : Mm) (z : Int32 × Int32 × Int32) (m2 : Mm), f_S_blamed_L21 N n b1 b2 b3 b4 mem = some (z, m2) → J X E 6 106 [(0, .ref (eb E + 0)), (1, .int b1), (2, .int z.1), (3, .int z.2.1), (4, .int z.2.2)] [] SH m2 → J X E 6 21 [(0, .ref (eb E + 0)), (1, .int b1), (2, .int b2), (3, .int b3), (4, .int b4)] [] SH mem := by
  intro n
  induction n with
  | zero =>
    intro b1 b2 b3 b4 mem z m2 h hk; cases h
  | succ n ih =>
    intro b1 b2 b3 b4 mem z m2 h hk
    rw [f_S_blamed_L21] at h
    refine j_iload S D_S_blamed_21 4 rfl ?_
    refine j_aload_n S D_S_blamed_23 0 rfl rfl ?_
    refine j_getR S D_S_blamed_24 fl_R5_52 sh_Sand rfl ?_
    refine j_getI S D_S_blamed_27 fl_R5_78 sh_P38 rfl ?_
    refine j_icmp_ge S D_S_blamed_30 (fun c_30 => ?_) (fun c_30 => ?_)
    · have h := ifT c_30 h
      cases h
      exact j_locals [0, 1, 2, 3, 4] rfl hk
    · have h := ifF c_30 h
      refine j_aload_n S D_S_blamed_33 0 rfl rfl ?_
      refine j_getR S D_S_blamed_34 fl_R5_59 sh_Sand rfl ?_
      refine j_aload_n S D_S_blamed_37 0 rfl rfl ?_
      refine j_getR S D_S_blamed_38 fl_R5_52 sh_Sand rfl ?_
      obtain ⟨m_41, e_41, h⟩ := bpE h
      refine j_callVV (As := [.ref (eb E + 38)]) S D_S_blamed_41 mv_R5_166 (c_P_become (cxL X) E 58 pic_58 38 pic_38 e_41) (by decide) sh_P58 rfl rfl rfl rfl (Nat.le_of_ble_eq_true rfl) ?_
      refine j_aload_n S D_S_blamed_44 0 rfl rfl ?_
      refine j_getR S D_S_blamed_45 fl_R5_59 sh_Sand rfl ?_
      refine j_iload S D_S_blamed_48 4 rfl ?_
      obtain ⟨m_50, hm_50, h⟩ := ltE h
      refine j_putI S D_S_blamed_50 fp_R5_175 sh_P58 rfl ?_
      refine j_mem hm_50 ?_
      refine j_aload_n S D_S_blamed_53 0 rfl rfl ?_
      refine j_getR S D_S_blamed_54 fl_R5_59 sh_Sand rfl ?_
      refine j_iload_n S D_S_blamed_57 1 rfl rfl ?_
      obtain ⟨r_58, m_58, e_58, h⟩ := bdE h
      refine j_callVI (As := [.int b1]) S D_S_blamed_58 mv_R5_152 (c_P_passHours (cxL X) E N 58 pic_58 b1 e_58) (by decide) sh_P58 rfl rfl rfl rfl (Nat.le_of_ble_eq_true rfl) ?_
      refine j_pop S D_S_blamed_61 rfl ?_
      refine j_aload_n S D_S_blamed_62 0 rfl rfl ?_
      refine j_getR S D_S_blamed_63 fl_R5_59 sh_Sand rfl ?_
      refine j_getR S D_S_blamed_66 fl_R5_122 sh_P58 rfl ?_
      obtain ⟨r_69, e_69, h⟩ := bpE h
      refine j_callSI (As := [.ref (eb E + 65)]) S D_S_blamed_69 ms_R5_159 (c_S_sum (cxL X) E N 65 6 sh_65 e_69) (by decide) rfl rfl (Nat.le_of_ble_eq_true rfl) ?_
      refine j_aload_n S D_S_blamed_72 0 rfl rfl ?_
      refine j_getR S D_S_blamed_73 fl_R5_59 sh_Sand rfl ?_
      refine j_getI S D_S_blamed_76 fl_R5_156 sh_P58 rfl ?_
      refine j_iadd S D_S_blamed_79 ?_
      obtain ⟨x_80, hx_80, h⟩ := ltE h
      refine j_nm hx_80 ?_
      refine j_istore S D_S_blamed_80 (lv := [(5, .int x_80), (0, .ref (eb E + 0)), (1, .int b1), (2, .int b2), (3, .int b3), (4, .int b4)]) rfl (Nat.le_of_ble_eq_true rfl) ?_
      refine j_iload_n S D_S_blamed_82 3 rfl rfl ?_
      refine j_ldc S D_S_blamed_83 co_R5_174 ?_
      refine j_icmp_eq S D_S_blamed_85 (fun c_85 => ?_) (fun c_85 => ?_)
      · have h := ifT c_85 h
        refine j_iload S D_S_blamed_94 5 rfl ?_
        refine j_istore_n S D_S_blamed_96 (lv := [(2, .int b4), (5, .int x_80), (0, .ref (eb E + 0)), (1, .int b1), (3, .int b3), (4, .int b4)]) rfl ⟨rfl, (Nat.le_of_ble_eq_true rfl)⟩ ?_
        refine j_iload S D_S_blamed_97 1 rfl ?_
        refine j_istore_n S D_S_blamed_99 (lv := [(3, .int x_80), (2, .int b4), (5, .int x_80), (0, .ref (eb E + 0)), (1, .int b1), (4, .int b4)]) rfl ⟨rfl, (Nat.le_of_ble_eq_true rfl)⟩ ?_
        refine j_iinc S D_S_blamed_100 5 rfl (congrArg (fun z => b4 + z) ci_1) (lv := [(4, .int (b4 + 1)), (3, .int x_80), (2, .int b4), (5, .int x_80), (0, .ref (eb E + 0)), (1, .int b1)]) rfl (Nat.le_of_ble_eq_true rfl) ?_
        refine j_goto S D_S_blamed_103 ?_
        refine j_locals [4, 5, 2, 1, 0] rfl (ih b1 b4 x_80 (b4 + 1) m_58 _ _ h hk)
      · have h := ifF c_85 h
        refine j_iload S D_S_blamed_88 0 rfl ?_
        refine j_iload_n S D_S_blamed_90 4 rfl rfl ?_
        refine j_icmp_ge S D_S_blamed_91 (fun c_91 => ?_) (fun c_91 => ?_)
        · have h := ifT c_91 h
          refine j_iinc S D_S_blamed_100 5 rfl (congrArg (fun z => b4 + z) ci_1) (lv := [(4, .int (b4 + 1)), (5, .int x_80), (0, .ref (eb E + 0)), (1, .int b1), (2, .int b2), (3, .int b3)]) rfl (Nat.le_of_ble_eq_true rfl) ?_
          refine j_goto S D_S_blamed_103 ?_
          refine j_locals [2, 3, 4, 5, 0] rfl (ih b1 b2 b3 (b4 + 1) m_58 _ _ h hk)
        · have h := ifF c_91 h
          refine j_iload S D_S_blamed_94 5 rfl ?_
          refine j_istore_n S D_S_blamed_96 (lv := [(2, .int b4), (5, .int x_80), (0, .ref (eb E + 0)), (1, .int b1), (3, .int b3), (4, .int b4)]) rfl ⟨rfl, (Nat.le_of_ble_eq_true rfl)⟩ ?_
          refine j_iload S D_S_blamed_97 1 rfl ?_
          refine j_istore_n S D_S_blamed_99 (lv := [(3, .int x_80), (2, .int b4), (5, .int x_80), (0, .ref (eb E + 0)), (1, .int b1), (4, .int b4)]) rfl ⟨rfl, (Nat.le_of_ble_eq_true rfl)⟩ ?_
          refine j_iinc S D_S_blamed_100 5 rfl (congrArg (fun z => b4 + z) ci_1) (lv := [(4, .int (b4 + 1)), (3, .int x_80), (2, .int b4), (5, .int x_80), (0, .ref (eb E + 0)), (1, .int b1)]) rfl (Nat.le_of_ble_eq_true rfl) ?_
          refine j_goto S D_S_blamed_103 ?_
          refine j_locals [4, 5, 2, 1, 0] rfl (ih b1 b4 x_80 (b4 + 1) m_58 _ _ h hk)
theorem c_S_blamed (l : Launch) (E : En) (N : Nat) (a1 : Int32) {mem : Mm} {r : Int32} {m2 : Mm} (h : f_S_blamed N a1 mem = some (r, m2)) : CtI l E 7 y_S_blamed prog_1_method_21_code 6 (some .int) [.ref (eb E + 0), .int a1] SH mem r m2 := by
  refine mk_CtI ⟨by decide, (Nat.le_of_ble_eq_true rfl)⟩ (fun X S hl hR => ?_)
  have S : Std X E prog_1_method_21_code R5 6 7 := S
  show J X E 6 0 [(0, .ref (eb E + 0)), (1, .int a1)] [] SH mem
  unfold f_S_blamed at h
  refine j_iload_n S D_S_blamed_0 1 rfl rfl ?_
  refine j_iconst S D_S_blamed_1 ci_1 ?_
  refine j_bipush S D_S_blamed_2 cb_60 ?_
  obtain ⟨r_4, e_4, h⟩ := bpE h
  refine j_callSI (As := [.int a1, .int 1, .int 60]) S D_S_blamed_4 ms_R5_70 (c_S_within (cxL X) E a1 1 60 (mem := mem) e_4) (by decide) rfl rfl (Nat.le_of_ble_eq_true rfl) ?_
  refine j_if_ne S D_S_blamed_7 (fun c_7 => ?_) (fun c_7 => ?_)
  · have h := ifF c_7 h
    refine j_ldc S D_S_blamed_13 co_R5_174 ?_
    refine j_istore_n S D_S_blamed_15 (lv := [(2, .int (-1000000005)), (0, .ref (eb E + 0)), (1, .int a1)]) rfl ⟨rfl, (Nat.le_of_ble_eq_true rfl)⟩ ?_
    refine j_iconst S D_S_blamed_16 ci_0 ?_
    refine j_istore_n S D_S_blamed_17 (lv := [(3, .int 0), (2, .int (-1000000005)), (0, .ref (eb E + 0)), (1, .int a1)]) rfl ⟨rfl, (Nat.le_of_ble_eq_true rfl)⟩ ?_
    refine j_iconst S D_S_blamed_18 ci_0 ?_
    refine j_istore S D_S_blamed_19 (lv := [(4, .int 0), (3, .int 0), (2, .int (-1000000005)), (0, .ref (eb E + 0)), (1, .int a1)]) rfl (Nat.le_of_ble_eq_true rfl) ?_
    refine j_locals [3, 4, 2, 1, 0] rfl ?_
    obtain ⟨y_21, m_21, e_21, h⟩ := bdE h
    refine L_S_blamed_21 S N N a1 (-1000000005) 0 0 mem _ _ e_21 ?_
    refine j_iload_n S D_S_blamed_106 2 rfl rfl ?_
    exact rtM hR h _ _ D_S_blamed_107
  · have h := ifT c_7 h
    refine j_ldc S D_S_blamed_10 co_R5_77 ?_
    exact rtM hR h _ _ D_S_blamed_12

def y_S_never : MethodName := ⟨"SandPicture", "never", "()I"⟩
theorem D_S_never_0 : decode prog_1_method_22_code 0 = .ok (.aload_n 0, 1) ∧ 0 + 1 = 1 := by decide +kernel
theorem D_S_never_1 : decode prog_1_method_22_code 1 = .ok (.getfield 59, 3) ∧ 1 + 3 = 4 := by decide +kernel
theorem D_S_never_4 : decode prog_1_method_22_code 4 = .ok (.aload_n 0, 1) ∧ 4 + 1 = 5 := by decide +kernel
theorem D_S_never_5 : decode prog_1_method_22_code 5 = .ok (.getfield 52, 3) ∧ 5 + 3 = 8 := by decide +kernel
theorem D_S_never_8 : decode prog_1_method_22_code 8 = .ok (.invokevirtual 166, 3) ∧ 8 + 3 = 11 := by decide +kernel
theorem D_S_never_11 : decode prog_1_method_22_code 11 = .ok (.iconst 1, 1) ∧ 11 + 1 = 12 := by decide +kernel
theorem D_S_never_12 : decode prog_1_method_22_code 12 = .ok (.istore_n 1, 1) ∧ 12 + 1 = 13 := by decide +kernel
theorem D_S_never_13 : decode prog_1_method_22_code 13 = .ok (.iload_n 1, 1) ∧ 13 + 1 = 14 := by decide +kernel
theorem D_S_never_14 : decode prog_1_method_22_code 14 = .ok (.sipush 300, 3) ∧ 14 + 3 = 17 := by decide +kernel
theorem D_S_never_17 : decode prog_1_method_22_code 17 = .ok (.if_icmp .gt 36, 3) ∧ ((17 : Nat) : Int) + 36 = ((53 : Nat) : Int) ∧ 17 + 3 = 20 := by decide +kernel
theorem D_S_never_53 : decode prog_1_method_22_code 53 = .ok (.ldc 174, 2) ∧ 53 + 2 = 55 := by decide +kernel
theorem D_S_never_55 : decode prog_1_method_22_code 55 = .ok (.ireturn, 1) := by decide +kernel
theorem D_S_never_20 : decode prog_1_method_22_code 20 = .ok (.aload_n 0, 1) ∧ 20 + 1 = 21 := by decide +kernel
theorem D_S_never_21 : decode prog_1_method_22_code 21 = .ok (.getfield 59, 3) ∧ 21 + 3 = 24 := by decide +kernel
theorem D_S_never_24 : decode prog_1_method_22_code 24 = .ok (.invokevirtual 170, 3) ∧ 24 + 3 = 27 := by decide +kernel
theorem D_S_never_27 : decode prog_1_method_22_code 27 = .ok (.pop, 1) ∧ 27 + 1 = 28 := by decide +kernel
theorem D_S_never_28 : decode prog_1_method_22_code 28 = .ok (.aload_n 0, 1) ∧ 28 + 1 = 29 := by decide +kernel
theorem D_S_never_29 : decode prog_1_method_22_code 29 = .ok (.getfield 59, 3) ∧ 29 + 3 = 32 := by decide +kernel
theorem D_S_never_32 : decode prog_1_method_22_code 32 = .ok (.getfield 163, 3) ∧ 32 + 3 = 35 := by decide +kernel
theorem D_S_never_35 : decode prog_1_method_22_code 35 = .ok (.aload_n 0, 1) ∧ 35 + 1 = 36 := by decide +kernel
theorem D_S_never_36 : decode prog_1_method_22_code 36 = .ok (.getfield 52, 3) ∧ 36 + 3 = 39 := by decide +kernel
theorem D_S_never_39 : decode prog_1_method_22_code 39 = .ok (.getfield 163, 3) ∧ 39 + 3 = 42 := by decide +kernel
theorem D_S_never_42 : decode prog_1_method_22_code 42 = .ok (.if_icmp .le 5, 3) ∧ ((42 : Nat) : Int) + 5 = ((47 : Nat) : Int) ∧ 42 + 3 = 45 := by decide +kernel
theorem D_S_never_47 : decode prog_1_method_22_code 47 = .ok (.iinc 1 1, 3) ∧ 47 + 3 = 50 := by decide +kernel
theorem D_S_never_50 : decode prog_1_method_22_code 50 = .ok (.goto (-37), 3) ∧ ((50 : Nat) : Int) + (-37) = ((13 : Nat) : Int) := by decide +kernel
theorem D_S_never_45 : decode prog_1_method_22_code 45 = .ok (.iload_n 1, 1) ∧ 45 + 1 = 46 := by decide +kernel
theorem D_S_never_46 : decode prog_1_method_22_code 46 = .ok (.ireturn, 1) := by decide +kernel
def f_S_never_L13 (N : Nat)  : Nat → Int32 → Mm → Option (Int32 × Mm)
  | 0, _, _ => none
  | n + 1, b1, mem => if 300 < b1 then some ((-1000000005), mem) else bd (f_P_passHour N 58 mem) fun r_24 m_24 => if m_24 58 16 ≤ m_24 38 16 then f_S_never_L13 N n (b1 + 1) m_24 else some (b1, m_24)
def f_S_never (N : Nat)  (mem : Mm) : Option (Int32 × Mm) := bp (f_P_become 58 38 mem) fun m_8 => f_S_never_L13 N N 1 m_8
theorem L_S_never_13 {X : Cx} {E : En} (S : Std X E prog_1_method_22_code R5 2 6) (N : Nat)  {r : Int32} {m2 : Mm} (hR : RetI X E prog_1_method_22_code 2 SH r m2) : ∀ (n : Nat) (b1 : Int32) (mem : Mm), f_S_never_L13 N n b1 mem = some (r, m2) → J X E 2 13 [(0, .ref (eb E + 0)), (1, .int b1)] [] SH mem := by
  intro n
  induction n with
  | zero =>
    intro b1 mem h; cases h
  | succ n ih =>
    intro b1 mem h
    rw [f_S_never_L13] at h
    refine j_iload_n S D_S_never_13 1 rfl rfl ?_
    refine j_sipush S D_S_never_14 cs_300 ?_
    refine j_icmp_gt S D_S_never_17 (fun c_17 => ?_) (fun c_17 => ?_)
    · have h := ifT c_17 h
      refine j_ldc S D_S_never_53 co_R5_174 ?_
      exact rtM hR h _ _ D_S_never_55
    · have h := ifF c_17 h
      refine j_aload_n S D_S_never_20 0 rfl rfl ?_
      refine j_getR S D_S_never_21 fl_R5_59 sh_Sand rfl ?_
      obtain ⟨r_24, m_24, e_24, h⟩ := bdE h
      refine j_callVI (As := []) S D_S_never_24 mv_R5_170 (c_P_passHour (cxL X) E N 58 pic_58 e_24) (by decide) sh_P58 rfl rfl rfl rfl (Nat.le_of_ble_eq_true rfl) ?_
      refine j_pop S D_S_never_27 rfl ?_
      refine j_aload_n S D_S_never_28 0 rfl rfl ?_
      refine j_getR S D_S_never_29 fl_R5_59 sh_Sand rfl ?_
      refine j_getI S D_S_never_32 fl_R5_163 sh_P58 rfl ?_
      refine j_aload_n S D_S_never_35 0 rfl rfl ?_
      refine j_getR S D_S_never_36 fl_R5_52 sh_Sand rfl ?_
      refine j_getI S D_S_never_39 fl_R5_163 sh_P38 rfl ?_
      refine j_icmp_le S D_S_never_42 (fun c_42 => ?_) (fun c_42 => ?_)
      · have h := ifT c_42 h
        refine j_iinc S D_S_never_47 1 rfl (congrArg (fun z => b1 + z) ci_1) (lv := [(1, .int (b1 + 1)), (0, .ref (eb E + 0))]) rfl (Nat.le_of_ble_eq_true rfl) ?_
        refine j_goto S D_S_never_50 ?_
        refine j_locals [1, 0] rfl (ih (b1 + 1) m_24 h)
      · have h := ifF c_42 h
        refine j_iload_n S D_S_never_45 1 rfl rfl ?_
        exact rtM hR h _ _ D_S_never_46
theorem c_S_never (l : Launch) (E : En) (N : Nat)  {mem : Mm} {r : Int32} {m2 : Mm} (h : f_S_never N mem = some (r, m2)) : CtI l E 6 y_S_never prog_1_method_22_code 2 (some .int) [.ref (eb E + 0)] SH mem r m2 := by
  refine mk_CtI ⟨by decide, (Nat.le_of_ble_eq_true rfl)⟩ (fun X S hl hR => ?_)
  have S : Std X E prog_1_method_22_code R5 2 6 := S
  show J X E 2 0 [(0, .ref (eb E + 0))] [] SH mem
  unfold f_S_never at h
  refine j_aload_n S D_S_never_0 0 rfl rfl ?_
  refine j_getR S D_S_never_1 fl_R5_59 sh_Sand rfl ?_
  refine j_aload_n S D_S_never_4 0 rfl rfl ?_
  refine j_getR S D_S_never_5 fl_R5_52 sh_Sand rfl ?_
  obtain ⟨m_8, e_8, h⟩ := bpE h
  refine j_callVV (As := [.ref (eb E + 38)]) S D_S_never_8 mv_R5_166 (c_P_become (cxL X) E 58 pic_58 38 pic_38 e_8) (by decide) sh_P58 rfl rfl rfl rfl (Nat.le_of_ble_eq_true rfl) ?_
  refine j_iconst S D_S_never_11 ci_1 ?_
  refine j_istore_n S D_S_never_12 (lv := [(1, .int 1), (0, .ref (eb E + 0))]) rfl ⟨rfl, (Nat.le_of_ble_eq_true rfl)⟩ ?_
  refine j_locals [1, 0] rfl ?_
  exact L_S_never_13 S N hR N 1 m_8 h

def y_S_slower : MethodName := ⟨"SandPicture", "slower", "(II)I"⟩
theorem D_S_slower_0 : decode prog_1_method_23_code 0 = .ok (.aload_n 0, 1) ∧ 0 + 1 = 1 := by decide +kernel
theorem D_S_slower_1 : decode prog_1_method_23_code 1 = .ok (.iload_n 1, 1) ∧ 1 + 1 = 2 := by decide +kernel
theorem D_S_slower_2 : decode prog_1_method_23_code 2 = .ok (.invokevirtual 86, 3) ∧ 2 + 3 = 5 := by decide +kernel
theorem D_S_slower_5 : decode prog_1_method_23_code 5 = .ok (.ifCond .eq 13, 3) ∧ ((5 : Nat) : Int) + 13 = ((18 : Nat) : Int) ∧ 5 + 3 = 8 := by decide +kernel
theorem D_S_slower_18 : decode prog_1_method_23_code 18 = .ok (.ldc 77, 2) ∧ 18 + 2 = 20 := by decide +kernel
theorem D_S_slower_20 : decode prog_1_method_23_code 20 = .ok (.ireturn, 1) := by decide +kernel
theorem D_S_slower_8 : decode prog_1_method_23_code 8 = .ok (.iload_n 2, 1) ∧ 8 + 1 = 9 := by decide +kernel
theorem D_S_slower_9 : decode prog_1_method_23_code 9 = .ok (.iconst 1, 1) ∧ 9 + 1 = 10 := by decide +kernel
theorem D_S_slower_10 : decode prog_1_method_23_code 10 = .ok (.bipush 20, 2) ∧ 10 + 2 = 12 := by decide +kernel
theorem D_S_slower_12 : decode prog_1_method_23_code 12 = .ok (.invokestatic 70, 3) ∧ 12 + 3 = 15 := by decide +kernel
theorem D_S_slower_15 : decode prog_1_method_23_code 15 = .ok (.ifCond .ne 6, 3) ∧ ((15 : Nat) : Int) + 6 = ((21 : Nat) : Int) ∧ 15 + 3 = 18 := by decide +kernel
theorem D_S_slower_21 : decode prog_1_method_23_code 21 = .ok (.bipush 99, 2) ∧ 21 + 2 = 23 := by decide +kernel
theorem D_S_slower_23 : decode prog_1_method_23_code 23 = .ok (.istore_n 3, 1) ∧ 23 + 1 = 24 := by decide +kernel
theorem D_S_slower_24 : decode prog_1_method_23_code 24 = .ok (.iload_n 3, 1) ∧ 24 + 1 = 25 := by decide +kernel
theorem D_S_slower_25 : decode prog_1_method_23_code 25 = .ok (.iconst 1, 1) ∧ 25 + 1 = 26 := by decide +kernel
theorem D_S_slower_26 : decode prog_1_method_23_code 26 = .ok (.if_icmp .lt 58, 3) ∧ ((26 : Nat) : Int) + 58 = ((84 : Nat) : Int) ∧ 26 + 3 = 29 := by decide +kernel
theorem D_S_slower_84 : decode prog_1_method_23_code 84 = .ok (.ldc 174, 2) ∧ 84 + 2 = 86 := by decide +kernel
theorem D_S_slower_86 : decode prog_1_method_23_code 86 = .ok (.ireturn, 1) := by decide +kernel
theorem D_S_slower_29 : decode prog_1_method_23_code 29 = .ok (.aload_n 0, 1) ∧ 29 + 1 = 30 := by decide +kernel
theorem D_S_slower_30 : decode prog_1_method_23_code 30 = .ok (.getfield 59, 3) ∧ 30 + 3 = 33 := by decide +kernel
theorem D_S_slower_33 : decode prog_1_method_23_code 33 = .ok (.aload_n 0, 1) ∧ 33 + 1 = 34 := by decide +kernel
theorem D_S_slower_34 : decode prog_1_method_23_code 34 = .ok (.getfield 52, 3) ∧ 34 + 3 = 37 := by decide +kernel
theorem D_S_slower_37 : decode prog_1_method_23_code 37 = .ok (.invokevirtual 166, 3) ∧ 37 + 3 = 40 := by decide +kernel
theorem D_S_slower_40 : decode prog_1_method_23_code 40 = .ok (.aload_n 0, 1) ∧ 40 + 1 = 41 := by decide +kernel
theorem D_S_slower_41 : decode prog_1_method_23_code 41 = .ok (.getfield 59, 3) ∧ 41 + 3 = 44 := by decide +kernel
theorem D_S_slower_44 : decode prog_1_method_23_code 44 = .ok (.getfield 92, 3) ∧ 44 + 3 = 47 := by decide +kernel
theorem D_S_slower_47 : decode prog_1_method_23_code 47 = .ok (.iload_n 1, 1) ∧ 47 + 1 = 48 := by decide +kernel
theorem D_S_slower_48 : decode prog_1_method_23_code 48 = .ok (.iload_n 3, 1) ∧ 48 + 1 = 49 := by decide +kernel
theorem D_S_slower_49 : decode prog_1_method_23_code 49 = .ok (.iastore, 1) ∧ 49 + 1 = 50 := by decide +kernel
theorem D_S_slower_50 : decode prog_1_method_23_code 50 = .ok (.aload_n 0, 1) ∧ 50 + 1 = 51 := by decide +kernel
theorem D_S_slower_51 : decode prog_1_method_23_code 51 = .ok (.getfield 59, 3) ∧ 51 + 3 = 54 := by decide +kernel
theorem D_S_slower_54 : decode prog_1_method_23_code 54 = .ok (.iload_n 2, 1) ∧ 54 + 1 = 55 := by decide +kernel
theorem D_S_slower_55 : decode prog_1_method_23_code 55 = .ok (.invokevirtual 152, 3) ∧ 55 + 3 = 58 := by decide +kernel
theorem D_S_slower_58 : decode prog_1_method_23_code 58 = .ok (.pop, 1) ∧ 58 + 1 = 59 := by decide +kernel
theorem D_S_slower_59 : decode prog_1_method_23_code 59 = .ok (.aload_n 0, 1) ∧ 59 + 1 = 60 := by decide +kernel
theorem D_S_slower_60 : decode prog_1_method_23_code 60 = .ok (.getfield 59, 3) ∧ 60 + 3 = 63 := by decide +kernel
theorem D_S_slower_63 : decode prog_1_method_23_code 63 = .ok (.getfield 163, 3) ∧ 63 + 3 = 66 := by decide +kernel
theorem D_S_slower_66 : decode prog_1_method_23_code 66 = .ok (.aload_n 0, 1) ∧ 66 + 1 = 67 := by decide +kernel
theorem D_S_slower_67 : decode prog_1_method_23_code 67 = .ok (.getfield 52, 3) ∧ 67 + 3 = 70 := by decide +kernel
theorem D_S_slower_70 : decode prog_1_method_23_code 70 = .ok (.getfield 163, 3) ∧ 70 + 3 = 73 := by decide +kernel
theorem D_S_slower_73 : decode prog_1_method_23_code 73 = .ok (.if_icmp .ne 5, 3) ∧ ((73 : Nat) : Int) + 5 = ((78 : Nat) : Int) ∧ 73 + 3 = 76 := by decide +kernel
theorem D_S_slower_78 : decode prog_1_method_23_code 78 = .ok (.iinc 3 (-1), 3) ∧ 78 + 3 = 81 := by decide +kernel
theorem D_S_slower_81 : decode prog_1_method_23_code 81 = .ok (.goto (-57), 3) ∧ ((81 : Nat) : Int) + (-57) = ((24 : Nat) : Int) := by decide +kernel
theorem D_S_slower_76 : decode prog_1_method_23_code 76 = .ok (.iload_n 3, 1) ∧ 76 + 1 = 77 := by decide +kernel
theorem D_S_slower_77 : decode prog_1_method_23_code 77 = .ok (.ireturn, 1) := by decide +kernel
def f_S_slower_L24 (N : Nat)  : Nat → Int32 → Int32 → Int32 → Mm → Option (Int32 × Mm)
  | 0, _, _, _, _ => none
  | n + 1, b1, b2, b3, mem => if b3 < 1 then some ((-1000000005), mem) else bp (f_P_become 58 38 mem) fun m_37 => if inb b1 10 = true then lt (mst m_37 61 (ix b1) b3) fun m_49 => bd (f_P_passHours N 58 b2 m_49) fun r_55 m_55 => if m_55 58 16 = m_55 38 16 then some (b3, m_55) else f_S_slower_L24 N n b1 b2 (b3 + (-1)) m_55 else none
def f_S_slower (N : Nat) (a1 : Int32) (a2 : Int32) (mem : Mm) : Option (Int32 × Mm) := bp (f_S_isMonk a1 mem) fun r_2 => if r_2 = 0 then some ((-1000000001), mem) else bp (f_S_within a2 1 20) fun r_12 => if r_12 = 0 then some ((-1000000001), mem) else f_S_slower_L24 N N a1 a2 99 mem
theorem L_S_slower_24 {X : Cx} {E : En} (S : Std X E prog_1_method_23_code R5 4 7) (N : Nat)  {r : Int32} {m2 : Mm} (hR : RetI X E prog_1_method_23_code 4 SH r m2) : ∀ (n : Nat) (b1 : Int32) (b2 : Int32) (b3 : Int32) (mem : Mm), f_S_slower_L24 N n b1 b2 b3 mem = some (r, m2) → J X E 4 24 [(0, .ref (eb E + 0)), (1, .int b1), (2, .int b2), (3, .int b3)] [] SH mem := by
  intro n
  induction n with
  | zero =>
    intro b1 b2 b3 mem h; cases h
  | succ n ih =>
    intro b1 b2 b3 mem h
    rw [f_S_slower_L24] at h
    refine j_iload_n S D_S_slower_24 3 rfl rfl ?_
    refine j_iconst S D_S_slower_25 ci_1 ?_
    refine j_icmp_lt S D_S_slower_26 (fun c_26 => ?_) (fun c_26 => ?_)
    · have h := ifT c_26 h
      refine j_ldc S D_S_slower_84 co_R5_174 ?_
      exact rtM hR h _ _ D_S_slower_86
    · have h := ifF c_26 h
      refine j_aload_n S D_S_slower_29 0 rfl rfl ?_
      refine j_getR S D_S_slower_30 fl_R5_59 sh_Sand rfl ?_
      refine j_aload_n S D_S_slower_33 0 rfl rfl ?_
      refine j_getR S D_S_slower_34 fl_R5_52 sh_Sand rfl ?_
      obtain ⟨m_37, e_37, h⟩ := bpE h
      refine j_callVV (As := [.ref (eb E + 38)]) S D_S_slower_37 mv_R5_166 (c_P_become (cxL X) E 58 pic_58 38 pic_38 e_37) (by decide) sh_P58 rfl rfl rfl rfl (Nat.le_of_ble_eq_true rfl) ?_
      refine j_aload_n S D_S_slower_40 0 rfl rfl ?_
      refine j_getR S D_S_slower_41 fl_R5_59 sh_Sand rfl ?_
      refine j_getR S D_S_slower_44 fl_R5_92 sh_P58 rfl ?_
      refine j_iload_n S D_S_slower_47 1 rfl rfl ?_
      refine j_iload_n S D_S_slower_48 3 rfl rfl ?_
      obtain ⟨g_49, h⟩ := gdE h
      obtain ⟨m_49, hm_49, h⟩ := ltE h
      refine j_iast S D_S_slower_49 sh_61 g_49 ?_
      refine j_mem hm_49 ?_
      refine j_aload_n S D_S_slower_50 0 rfl rfl ?_
      refine j_getR S D_S_slower_51 fl_R5_59 sh_Sand rfl ?_
      refine j_iload_n S D_S_slower_54 2 rfl rfl ?_
      obtain ⟨r_55, m_55, e_55, h⟩ := bdE h
      refine j_callVI (As := [.int b2]) S D_S_slower_55 mv_R5_152 (c_P_passHours (cxL X) E N 58 pic_58 b2 e_55) (by decide) sh_P58 rfl rfl rfl rfl (Nat.le_of_ble_eq_true rfl) ?_
      refine j_pop S D_S_slower_58 rfl ?_
      refine j_aload_n S D_S_slower_59 0 rfl rfl ?_
      refine j_getR S D_S_slower_60 fl_R5_59 sh_Sand rfl ?_
      refine j_getI S D_S_slower_63 fl_R5_163 sh_P58 rfl ?_
      refine j_aload_n S D_S_slower_66 0 rfl rfl ?_
      refine j_getR S D_S_slower_67 fl_R5_52 sh_Sand rfl ?_
      refine j_getI S D_S_slower_70 fl_R5_163 sh_P38 rfl ?_
      refine j_icmp_ne S D_S_slower_73 (fun c_73 => ?_) (fun c_73 => ?_)
      · have h := ifF c_73 h
        refine j_iinc S D_S_slower_78 3 rfl (congrArg (fun z => b3 + z) ci_m1) (lv := [(3, .int (b3 + (-1))), (0, .ref (eb E + 0)), (1, .int b1), (2, .int b2)]) rfl (Nat.le_of_ble_eq_true rfl) ?_
        refine j_goto S D_S_slower_81 ?_
        refine j_locals [1, 2, 3, 0] rfl (ih b1 b2 (b3 + (-1)) m_55 h)
      · have h := ifT c_73 h
        refine j_iload_n S D_S_slower_76 3 rfl rfl ?_
        exact rtM hR h _ _ D_S_slower_77
theorem c_S_slower (l : Launch) (E : En) (N : Nat) (a1 : Int32) (a2 : Int32) {mem : Mm} {r : Int32} {m2 : Mm} (h : f_S_slower N a1 a2 mem = some (r, m2)) : CtI l E 7 y_S_slower prog_1_method_23_code 4 (some .int) [.ref (eb E + 0), .int a1, .int a2] SH mem r m2 := by
  refine mk_CtI ⟨by decide, (Nat.le_of_ble_eq_true rfl)⟩ (fun X S hl hR => ?_)
  have S : Std X E prog_1_method_23_code R5 4 7 := S
  show J X E 4 0 [(0, .ref (eb E + 0)), (1, .int a1), (2, .int a2)] [] SH mem
  unfold f_S_slower at h
  refine j_aload_n S D_S_slower_0 0 rfl rfl ?_
  refine j_iload_n S D_S_slower_1 1 rfl rfl ?_
  obtain ⟨r_2, e_2, h⟩ := bpE h
  refine j_callVI (As := [.int a1]) S D_S_slower_2 mv_R5_86 (c_S_isMonk (cxL X) E a1 e_2) (by decide) sh_Sand rfl rfl rfl rfl (Nat.le_of_ble_eq_true rfl) ?_
  refine j_if_eq S D_S_slower_5 (fun c_5 => ?_) (fun c_5 => ?_)
  · have h := ifT c_5 h
    refine j_ldc S D_S_slower_18 co_R5_77 ?_
    exact rtM hR h _ _ D_S_slower_20
  · have h := ifF c_5 h
    refine j_iload_n S D_S_slower_8 2 rfl rfl ?_
    refine j_iconst S D_S_slower_9 ci_1 ?_
    refine j_bipush S D_S_slower_10 cb_20 ?_
    obtain ⟨r_12, e_12, h⟩ := bpE h
    refine j_callSI (As := [.int a2, .int 1, .int 20]) S D_S_slower_12 ms_R5_70 (c_S_within (cxL X) E a2 1 20 (mem := mem) e_12) (by decide) rfl rfl (Nat.le_of_ble_eq_true rfl) ?_
    refine j_if_ne S D_S_slower_15 (fun c_15 => ?_) (fun c_15 => ?_)
    · have h := ifF c_15 h
      refine j_bipush S D_S_slower_21 cb_99 ?_
      refine j_istore_n S D_S_slower_23 (lv := [(3, .int 99), (0, .ref (eb E + 0)), (1, .int a1), (2, .int a2)]) rfl ⟨rfl, (Nat.le_of_ble_eq_true rfl)⟩ ?_
      refine j_locals [1, 2, 3, 0] rfl ?_
      exact L_S_slower_24 S N hR N a1 a2 99 mem h
    · have h := ifT c_15 h
      refine j_ldc S D_S_slower_18 co_R5_77 ?_
      exact rtM hR h _ _ D_S_slower_20

def y_S_isSheet : MethodName := ⟨"SandPicture", "isSheet", "(I)Z"⟩
theorem D_S_isSheet_0 : decode prog_1_method_48_code 0 = .ok (.iload_n 0, 1) ∧ 0 + 1 = 1 := by decide +kernel
theorem D_S_isSheet_1 : decode prog_1_method_48_code 1 = .ok (.iconst 0, 1) ∧ 1 + 1 = 2 := by decide +kernel
theorem D_S_isSheet_2 : decode prog_1_method_48_code 2 = .ok (.iconst 3, 1) ∧ 2 + 1 = 3 := by decide +kernel
theorem D_S_isSheet_3 : decode prog_1_method_48_code 3 = .ok (.invokestatic 70, 3) ∧ 3 + 3 = 6 := by decide +kernel
theorem D_S_isSheet_6 : decode prog_1_method_48_code 6 = .ok (.ireturn, 1) := by decide +kernel
def f_S_isSheet (a1 : Int32) : Option (Int32) := bp (f_S_within a1 0 3) fun r_3 => if isb r_3 = true then some r_3 else none
theorem c_S_isSheet (l : Launch) (E : En) (a1 : Int32) {mem : Mm} {r : Int32} (h : f_S_isSheet a1 = some r) : CtI l E 1 y_S_isSheet prog_1_method_48_code 1 (some .boolean) [.int a1] SH mem r mem := by
  refine mk_CtZ ⟨by decide, (Nat.le_of_ble_eq_true rfl)⟩ (fun X S hl hR => ?_)
  have S : Std X E prog_1_method_48_code R5 1 1 := S
  show J X E 1 0 [(0, .int a1)] [] SH mem
  unfold f_S_isSheet at h
  refine j_iload_n S D_S_isSheet_0 0 rfl rfl ?_
  refine j_iconst S D_S_isSheet_1 ci_0 ?_
  refine j_iconst S D_S_isSheet_2 ci_3 ?_
  obtain ⟨r_3, e_3, h⟩ := bpE h
  refine j_callSI (As := [.int a1, .int 0, .int 3]) S D_S_isSheet_3 ms_R5_70 (c_S_within (cxL X) E a1 0 3 (mem := mem) e_3) (by decide) rfl rfl (Nat.le_of_ble_eq_true rfl) ?_
  obtain ⟨z_6, h⟩ := gdE h
  exact rtIZ hR h z_6 _ _ D_S_isSheet_6

def y_S_paced : MethodName := ⟨"SandPicture", "paced", "(III)I"⟩
theorem D_S_paced_0 : decode prog_1_method_24_code 0 = .ok (.iload_n 1, 1) ∧ 0 + 1 = 1 := by decide +kernel
theorem D_S_paced_1 : decode prog_1_method_24_code 1 = .ok (.invokestatic 178, 3) ∧ 1 + 3 = 4 := by decide +kernel
theorem D_S_paced_4 : decode prog_1_method_24_code 4 = .ok (.ifCond .eq 20, 3) ∧ ((4 : Nat) : Int) + 20 = ((24 : Nat) : Int) ∧ 4 + 3 = 7 := by decide +kernel
theorem D_S_paced_24 : decode prog_1_method_24_code 24 = .ok (.ldc 77, 2) ∧ 24 + 2 = 26 := by decide +kernel
theorem D_S_paced_26 : decode prog_1_method_24_code 26 = .ok (.ireturn, 1) := by decide +kernel
theorem D_S_paced_7 : decode prog_1_method_24_code 7 = .ok (.aload_n 0, 1) ∧ 7 + 1 = 8 := by decide +kernel
theorem D_S_paced_8 : decode prog_1_method_24_code 8 = .ok (.iload_n 2, 1) ∧ 8 + 1 = 9 := by decide +kernel
theorem D_S_paced_9 : decode prog_1_method_24_code 9 = .ok (.invokevirtual 86, 3) ∧ 9 + 3 = 12 := by decide +kernel
theorem D_S_paced_12 : decode prog_1_method_24_code 12 = .ok (.ifCond .eq 12, 3) ∧ ((12 : Nat) : Int) + 12 = ((24 : Nat) : Int) ∧ 12 + 3 = 15 := by decide +kernel
theorem D_S_paced_15 : decode prog_1_method_24_code 15 = .ok (.iload_n 3, 1) ∧ 15 + 1 = 16 := by decide +kernel
theorem D_S_paced_16 : decode prog_1_method_24_code 16 = .ok (.iconst 0, 1) ∧ 16 + 1 = 17 := by decide +kernel
theorem D_S_paced_17 : decode prog_1_method_24_code 17 = .ok (.iconst 1, 1) ∧ 17 + 1 = 18 := by decide +kernel
theorem D_S_paced_18 : decode prog_1_method_24_code 18 = .ok (.invokestatic 70, 3) ∧ 18 + 3 = 21 := by decide +kernel
theorem D_S_paced_21 : decode prog_1_method_24_code 21 = .ok (.ifCond .ne 6, 3) ∧ ((21 : Nat) : Int) + 6 = ((27 : Nat) : Int) ∧ 21 + 3 = 24 := by decide +kernel
theorem D_S_paced_27 : decode prog_1_method_24_code 27 = .ok (.aload_n 0, 1) ∧ 27 + 1 = 28 := by decide +kernel
theorem D_S_paced_28 : decode prog_1_method_24_code 28 = .ok (.getfield 28, 3) ∧ 28 + 3 = 31 := by decide +kernel
theorem D_S_paced_31 : decode prog_1_method_24_code 31 = .ok (.iload_n 1, 1) ∧ 31 + 1 = 32 := by decide +kernel
theorem D_S_paced_32 : decode prog_1_method_24_code 32 = .ok (.aaload, 1) ∧ 32 + 1 = 33 := by decide +kernel
theorem D_S_paced_33 : decode prog_1_method_24_code 33 = .ok (.getfield 181, 3) ∧ 33 + 3 = 36 := by decide +kernel
theorem D_S_paced_36 : decode prog_1_method_24_code 36 = .ok (.iconst (-1), 1) ∧ 36 + 1 = 37 := by decide +kernel
theorem D_S_paced_37 : decode prog_1_method_24_code 37 = .ok (.if_icmp .ne 6, 3) ∧ ((37 : Nat) : Int) + 6 = ((43 : Nat) : Int) ∧ 37 + 3 = 40 := by decide +kernel
theorem D_S_paced_43 : decode prog_1_method_24_code 43 = .ok (.ldc 174, 2) ∧ 43 + 2 = 45 := by decide +kernel
theorem D_S_paced_45 : decode prog_1_method_24_code 45 = .ok (.istore 4, 2) ∧ 45 + 2 = 47 := by decide +kernel
theorem D_S_paced_47 : decode prog_1_method_24_code 47 = .ok (.iconst 0, 1) ∧ 47 + 1 = 48 := by decide +kernel
theorem D_S_paced_48 : decode prog_1_method_24_code 48 = .ok (.istore 5, 2) ∧ 48 + 2 = 50 := by decide +kernel
theorem D_S_paced_50 : decode prog_1_method_24_code 50 = .ok (.iconst 1, 1) ∧ 50 + 1 = 51 := by decide +kernel
theorem D_S_paced_51 : decode prog_1_method_24_code 51 = .ok (.istore 6, 2) ∧ 51 + 2 = 53 := by decide +kernel
theorem D_S_paced_53 : decode prog_1_method_24_code 53 = .ok (.iload 6, 2) ∧ 53 + 2 = 55 := by decide +kernel
theorem D_S_paced_55 : decode prog_1_method_24_code 55 = .ok (.bipush 40, 2) ∧ 55 + 2 = 57 := by decide +kernel
theorem D_S_paced_57 : decode prog_1_method_24_code 57 = .ok (.if_icmp .gt 79, 3) ∧ ((57 : Nat) : Int) + 79 = ((136 : Nat) : Int) ∧ 57 + 3 = 60 := by decide +kernel
theorem D_S_paced_60 : decode prog_1_method_24_code 60 = .ok (.aload_n 0, 1) ∧ 60 + 1 = 61 := by decide +kernel
theorem D_S_paced_61 : decode prog_1_method_24_code 61 = .ok (.getfield 59, 3) ∧ 61 + 3 = 64 := by decide +kernel
theorem D_S_paced_64 : decode prog_1_method_24_code 64 = .ok (.aload_n 0, 1) ∧ 64 + 1 = 65 := by decide +kernel
theorem D_S_paced_65 : decode prog_1_method_24_code 65 = .ok (.getfield 52, 3) ∧ 65 + 3 = 68 := by decide +kernel
theorem D_S_paced_68 : decode prog_1_method_24_code 68 = .ok (.invokevirtual 166, 3) ∧ 68 + 3 = 71 := by decide +kernel
theorem D_S_paced_71 : decode prog_1_method_24_code 71 = .ok (.aload_n 0, 1) ∧ 71 + 1 = 72 := by decide +kernel
theorem D_S_paced_72 : decode prog_1_method_24_code 72 = .ok (.getfield 59, 3) ∧ 72 + 3 = 75 := by decide +kernel
theorem D_S_paced_75 : decode prog_1_method_24_code 75 = .ok (.getfield 92, 3) ∧ 75 + 3 = 78 := by decide +kernel
theorem D_S_paced_78 : decode prog_1_method_24_code 78 = .ok (.iload_n 2, 1) ∧ 78 + 1 = 79 := by decide +kernel
theorem D_S_paced_79 : decode prog_1_method_24_code 79 = .ok (.iload 6, 2) ∧ 79 + 2 = 81 := by decide +kernel
theorem D_S_paced_81 : decode prog_1_method_24_code 81 = .ok (.iastore, 1) ∧ 81 + 1 = 82 := by decide +kernel
theorem D_S_paced_82 : decode prog_1_method_24_code 82 = .ok (.aload_n 0, 1) ∧ 82 + 1 = 83 := by decide +kernel
theorem D_S_paced_83 : decode prog_1_method_24_code 83 = .ok (.getfield 59, 3) ∧ 83 + 3 = 86 := by decide +kernel
theorem D_S_paced_86 : decode prog_1_method_24_code 86 = .ok (.invokevirtual 170, 3) ∧ 86 + 3 = 89 := by decide +kernel
theorem D_S_paced_89 : decode prog_1_method_24_code 89 = .ok (.pop, 1) ∧ 89 + 1 = 90 := by decide +kernel
theorem D_S_paced_90 : decode prog_1_method_24_code 90 = .ok (.aload_n 0, 1) ∧ 90 + 1 = 91 := by decide +kernel
theorem D_S_paced_91 : decode prog_1_method_24_code 91 = .ok (.getfield 28, 3) ∧ 91 + 3 = 94 := by decide +kernel
theorem D_S_paced_94 : decode prog_1_method_24_code 94 = .ok (.iload_n 1, 1) ∧ 94 + 1 = 95 := by decide +kernel
theorem D_S_paced_95 : decode prog_1_method_24_code 95 = .ok (.aaload, 1) ∧ 95 + 1 = 96 := by decide +kernel
theorem D_S_paced_96 : decode prog_1_method_24_code 96 = .ok (.aload_n 0, 1) ∧ 96 + 1 = 97 := by decide +kernel
theorem D_S_paced_97 : decode prog_1_method_24_code 97 = .ok (.getfield 59, 3) ∧ 97 + 3 = 100 := by decide +kernel
theorem D_S_paced_100 : decode prog_1_method_24_code 100 = .ok (.getfield 119, 3) ∧ 100 + 3 = 103 := by decide +kernel
theorem D_S_paced_103 : decode prog_1_method_24_code 103 = .ok (.invokevirtual 185, 3) ∧ 103 + 3 = 106 := by decide +kernel
theorem D_S_paced_106 : decode prog_1_method_24_code 106 = .ok (.istore 7, 2) ∧ 106 + 2 = 108 := by decide +kernel
theorem D_S_paced_108 : decode prog_1_method_24_code 108 = .ok (.iload 4, 2) ∧ 108 + 2 = 110 := by decide +kernel
theorem D_S_paced_110 : decode prog_1_method_24_code 110 = .ok (.ldc 174, 2) ∧ 110 + 2 = 112 := by decide +kernel
theorem D_S_paced_112 : decode prog_1_method_24_code 112 = .ok (.if_icmp .eq 10, 3) ∧ ((112 : Nat) : Int) + 10 = ((122 : Nat) : Int) ∧ 112 + 3 = 115 := by decide +kernel
theorem D_S_paced_122 : decode prog_1_method_24_code 122 = .ok (.iload 6, 2) ∧ 122 + 2 = 124 := by decide +kernel
theorem D_S_paced_124 : decode prog_1_method_24_code 124 = .ok (.istore 4, 2) ∧ 124 + 2 = 126 := by decide +kernel
theorem D_S_paced_126 : decode prog_1_method_24_code 126 = .ok (.iload 7, 2) ∧ 126 + 2 = 128 := by decide +kernel
theorem D_S_paced_128 : decode prog_1_method_24_code 128 = .ok (.istore 5, 2) ∧ 128 + 2 = 130 := by decide +kernel
theorem D_S_paced_130 : decode prog_1_method_24_code 130 = .ok (.iinc 6 1, 3) ∧ 130 + 3 = 133 := by decide +kernel
theorem D_S_paced_133 : decode prog_1_method_24_code 133 = .ok (.goto (-80), 3) ∧ ((133 : Nat) : Int) + (-80) = ((53 : Nat) : Int) := by decide +kernel
theorem D_S_paced_115 : decode prog_1_method_24_code 115 = .ok (.iload 7, 2) ∧ 115 + 2 = 117 := by decide +kernel
theorem D_S_paced_117 : decode prog_1_method_24_code 117 = .ok (.iload 5, 2) ∧ 117 + 2 = 119 := by decide +kernel
theorem D_S_paced_119 : decode prog_1_method_24_code 119 = .ok (.if_icmp .ge 11, 3) ∧ ((119 : Nat) : Int) + 11 = ((130 : Nat) : Int) ∧ 119 + 3 = 122 := by decide +kernel
theorem D_S_paced_136 : decode prog_1_method_24_code 136 = .ok (.iload_n 3, 1) ∧ 136 + 1 = 137 := by decide +kernel
theorem D_S_paced_145 : decode prog_1_method_24_code 145 = .ok (.iload 5, 2) ∧ 145 + 2 = 147 := by decide +kernel
theorem D_S_paced_140 : decode prog_1_method_24_code 140 = .ok (.iload 4, 2) ∧ 140 + 2 = 142 := by decide +kernel
theorem D_S_paced_142 : decode prog_1_method_24_code 142 = .ok (.goto 5, 3) ∧ ((142 : Nat) : Int) + 5 = ((147 : Nat) : Int) := by decide +kernel
theorem D_S_paced_137 : decode prog_1_method_24_code 137 = .ok (.ifCond .ne 8, 3) ∧ ((137 : Nat) : Int) + 8 = ((145 : Nat) : Int) ∧ 137 + 3 = 140 := by decide +kernel
theorem D_S_paced_147 : decode prog_1_method_24_code 147 = .ok (.ireturn, 1) := by decide +kernel
theorem D_S_paced_40 : decode prog_1_method_24_code 40 = .ok (.ldc 184, 2) ∧ 40 + 2 = 42 := by decide +kernel
theorem D_S_paced_42 : decode prog_1_method_24_code 42 = .ok (.ireturn, 1) := by decide +kernel
def f_S_paced_L53 (N : Nat)  : Nat → Int32 → Int32 → Int32 → Int32 → Int32 → Int32 → Mm → Option ((Int32 × Int32 × Int32) × Mm)
  | 0, _, _, _, _, _, _, _ => none
  | n + 1, b1, b2, b3, b4, b5, b6, mem => if 40 < b6 then some ((b4, b5, b6), mem) else bp (f_P_become 58 38 mem) fun m_68 => if inb b2 10 = true then lt (mst m_68 61 (ix b2) b6) fun m_81 => bd (f_P_passHour N 58 m_81) fun r_86 m_86 => if inb b1 4 = true then bp (f_H_differsFrom N (68 + 2 * ix b1) 64 m_86) fun r_103 => if b4 = (-1000000005) then f_S_paced_L53 N n b1 b2 b3 b6 r_103 (b6 + 1) m_86 else if b5 ≤ r_103 then f_S_paced_L53 N n b1 b2 b3 b4 b5 (b6 + 1) m_86 else f_S_paced_L53 N n b1 b2 b3 b6 r_103 (b6 + 1) m_86 else none else none
def f_S_paced (N : Nat) (a1 : Int32) (a2 : Int32) (a3 : Int32) (mem : Mm) : Option (Int32 × Mm) := bp (f_S_isSheet a1) fun r_1 => if r_1 = 0 then some ((-1000000001), mem) else bp (f_S_isMonk a2 mem) fun r_9 => if r_9 = 0 then some ((-1000000001), mem) else bp (f_S_within a3 0 1) fun r_18 => if r_18 = 0 then some ((-1000000001), mem) else if inb a1 4 = true then if mem (68 + 2 * ix a1) 0 = (-1) then some ((-1000000011), mem) else bd (f_S_paced_L53 N N a1 a2 a3 (-1000000005) 0 1 mem) fun y_53 m_53 => some (if a3 = 0 then y_53.1 else y_53.2.1, m_53) else none
theorem L_S_paced_53 {X : Cx} {E : En} (S : Std X E prog_1_method_24_code R5 8 6) (N : Nat)  : ∀ (n : Nat) (b1 : Int32) (b2 : Int32) (b3 : Int32) (b4 : Int32) (b5 : Int32) (b6 : Int32) (mem : Mm) (z : Int32 × Int32 × Int32) (m2 : Mm), f_S_paced_L53 N n b1 b2 b3 b4 b5 b6 mem = some (z, m2) → J X E 8 136 [(0, .ref (eb E + 0)), (1, .int b1), (2, .int b2), (3, .int b3), (4, .int z.1), (5, .int z.2.1), (6, .int z.2.2)] [] SH m2 → J X E 8 53 [(0, .ref (eb E + 0)), (1, .int b1), (2, .int b2), (3, .int b3), (4, .int b4), (5, .int b5), (6, .int b6)] [] SH mem := by
  intro n
  induction n with
  | zero =>
    intro b1 b2 b3 b4 b5 b6 mem z m2 h hk; cases h
  | succ n ih =>
    intro b1 b2 b3 b4 b5 b6 mem z m2 h hk
    rw [f_S_paced_L53] at h
    refine j_iload S D_S_paced_53 6 rfl ?_
    refine j_bipush S D_S_paced_55 cb_40 ?_
    refine j_icmp_gt S D_S_paced_57 (fun c_57 => ?_) (fun c_57 => ?_)
    · have h := ifT c_57 h
      cases h
      exact j_locals [0, 1, 2, 3, 4, 5, 6] rfl hk
    · have h := ifF c_57 h
      refine j_aload_n S D_S_paced_60 0 rfl rfl ?_
      refine j_getR S D_S_paced_61 fl_R5_59 sh_Sand rfl ?_
      refine j_aload_n S D_S_paced_64 0 rfl rfl ?_
      refine j_getR S D_S_paced_65 fl_R5_52 sh_Sand rfl ?_
      obtain ⟨m_68, e_68, h⟩ := bpE h
      refine j_callVV (As := [.ref (eb E + 38)]) S D_S_paced_68 mv_R5_166 (c_P_become (cxL X) E 58 pic_58 38 pic_38 e_68) (by decide) sh_P58 rfl rfl rfl rfl (Nat.le_of_ble_eq_true rfl) ?_
      refine j_aload_n S D_S_paced_71 0 rfl rfl ?_
      refine j_getR S D_S_paced_72 fl_R5_59 sh_Sand rfl ?_
      refine j_getR S D_S_paced_75 fl_R5_92 sh_P58 rfl ?_
      refine j_iload_n S D_S_paced_78 2 rfl rfl ?_
      refine j_iload S D_S_paced_79 6 rfl ?_
      obtain ⟨g_81, h⟩ := gdE h
      obtain ⟨m_81, hm_81, h⟩ := ltE h
      refine j_iast S D_S_paced_81 sh_61 g_81 ?_
      refine j_mem hm_81 ?_
      refine j_aload_n S D_S_paced_82 0 rfl rfl ?_
      refine j_getR S D_S_paced_83 fl_R5_59 sh_Sand rfl ?_
      obtain ⟨r_86, m_86, e_86, h⟩ := bdE h
      refine j_callVI (As := []) S D_S_paced_86 mv_R5_170 (c_P_passHour (cxL X) E N 58 pic_58 e_86) (by decide) sh_P58 rfl rfl rfl rfl (Nat.le_of_ble_eq_true rfl) ?_
      refine j_pop S D_S_paced_89 rfl ?_
      refine j_aload_n S D_S_paced_90 0 rfl rfl ?_
      refine j_getR S D_S_paced_91 fl_R5_28 sh_Sand rfl ?_
      refine j_iload_n S D_S_paced_94 1 rfl rfl ?_
      obtain ⟨g_95, h⟩ := gdE h
      refine j_aald S D_S_paced_95 sh_4 rfl g_95 (el_sht g_95) ?_
      refine j_aload_n S D_S_paced_96 0 rfl rfl ?_
      refine j_getR S D_S_paced_97 fl_R5_59 sh_Sand rfl ?_
      refine j_getR S D_S_paced_100 fl_R5_119 sh_P58 rfl ?_
      obtain ⟨r_103, e_103, h⟩ := bpE h
      refine j_callVI (As := [.ref (eb E + 64)]) S D_S_paced_103 mv_R5_185 (c_H_differsFrom (cxL X) E N (68 + 2 * ix b1) (ro_sht g_95) 64 sh_64 e_103) (by decide) (sh_sht (ro_sht g_95)) rfl rfl rfl rfl (Nat.le_of_ble_eq_true rfl) ?_
      refine j_istore S D_S_paced_106 (lv := [(7, .int r_103), (0, .ref (eb E + 0)), (1, .int b1), (2, .int b2), (3, .int b3), (4, .int b4), (5, .int b5), (6, .int b6)]) rfl (Nat.le_of_ble_eq_true rfl) ?_
      refine j_iload S D_S_paced_108 5 rfl ?_
      refine j_ldc S D_S_paced_110 co_R5_174 ?_
      refine j_icmp_eq S D_S_paced_112 (fun c_112 => ?_) (fun c_112 => ?_)
      · have h := ifT c_112 h
        refine j_iload S D_S_paced_122 7 rfl ?_
        refine j_istore S D_S_paced_124 (lv := [(4, .int b6), (7, .int r_103), (0, .ref (eb E + 0)), (1, .int b1), (2, .int b2), (3, .int b3), (5, .int b5), (6, .int b6)]) rfl (Nat.le_of_ble_eq_true rfl) ?_
        refine j_iload S D_S_paced_126 1 rfl ?_
        refine j_istore S D_S_paced_128 (lv := [(5, .int r_103), (4, .int b6), (7, .int r_103), (0, .ref (eb E + 0)), (1, .int b1), (2, .int b2), (3, .int b3), (6, .int b6)]) rfl (Nat.le_of_ble_eq_true rfl) ?_
        refine j_iinc S D_S_paced_130 7 rfl (congrArg (fun z => b6 + z) ci_1) (lv := [(6, .int (b6 + 1)), (5, .int r_103), (4, .int b6), (7, .int r_103), (0, .ref (eb E + 0)), (1, .int b1), (2, .int b2), (3, .int b3)]) rfl (Nat.le_of_ble_eq_true rfl) ?_
        refine j_goto S D_S_paced_133 ?_
        refine j_locals [4, 5, 6, 7, 2, 1, 0] rfl (ih b1 b2 b3 b6 r_103 (b6 + 1) m_86 _ _ h hk)
      · have h := ifF c_112 h
        refine j_iload S D_S_paced_115 0 rfl ?_
        refine j_iload S D_S_paced_117 6 rfl ?_
        refine j_icmp_ge S D_S_paced_119 (fun c_119 => ?_) (fun c_119 => ?_)
        · have h := ifT c_119 h
          refine j_iinc S D_S_paced_130 7 rfl (congrArg (fun z => b6 + z) ci_1) (lv := [(6, .int (b6 + 1)), (7, .int r_103), (0, .ref (eb E + 0)), (1, .int b1), (2, .int b2), (3, .int b3), (4, .int b4), (5, .int b5)]) rfl (Nat.le_of_ble_eq_true rfl) ?_
          refine j_goto S D_S_paced_133 ?_
          refine j_locals [2, 3, 4, 5, 6, 7, 0] rfl (ih b1 b2 b3 b4 b5 (b6 + 1) m_86 _ _ h hk)
        · have h := ifF c_119 h
          refine j_iload S D_S_paced_122 7 rfl ?_
          refine j_istore S D_S_paced_124 (lv := [(4, .int b6), (7, .int r_103), (0, .ref (eb E + 0)), (1, .int b1), (2, .int b2), (3, .int b3), (5, .int b5), (6, .int b6)]) rfl (Nat.le_of_ble_eq_true rfl) ?_
          refine j_iload S D_S_paced_126 1 rfl ?_
          refine j_istore S D_S_paced_128 (lv := [(5, .int r_103), (4, .int b6), (7, .int r_103), (0, .ref (eb E + 0)), (1, .int b1), (2, .int b2), (3, .int b3), (6, .int b6)]) rfl (Nat.le_of_ble_eq_true rfl) ?_
          refine j_iinc S D_S_paced_130 7 rfl (congrArg (fun z => b6 + z) ci_1) (lv := [(6, .int (b6 + 1)), (5, .int r_103), (4, .int b6), (7, .int r_103), (0, .ref (eb E + 0)), (1, .int b1), (2, .int b2), (3, .int b3)]) rfl (Nat.le_of_ble_eq_true rfl) ?_
          refine j_goto S D_S_paced_133 ?_
          refine j_locals [4, 5, 6, 7, 2, 1, 0] rfl (ih b1 b2 b3 b6 r_103 (b6 + 1) m_86 _ _ h hk)
theorem c_S_paced (l : Launch) (E : En) (N : Nat) (a1 : Int32) (a2 : Int32) (a3 : Int32) {mem : Mm} {r : Int32} {m2 : Mm} (h : f_S_paced N a1 a2 a3 mem = some (r, m2)) : CtI l E 6 y_S_paced prog_1_method_24_code 8 (some .int) [.ref (eb E + 0), .int a1, .int a2, .int a3] SH mem r m2 := by
  refine mk_CtI ⟨by decide, (Nat.le_of_ble_eq_true rfl)⟩ (fun X S hl hR => ?_)
  have S : Std X E prog_1_method_24_code R5 8 6 := S
  show J X E 8 0 [(0, .ref (eb E + 0)), (1, .int a1), (2, .int a2), (3, .int a3)] [] SH mem
  unfold f_S_paced at h
  refine j_iload_n S D_S_paced_0 1 rfl rfl ?_
  obtain ⟨r_1, e_1, h⟩ := bpE h
  refine j_callSI (As := [.int a1]) S D_S_paced_1 ms_R5_178 (c_S_isSheet (cxL X) E a1 (mem := mem) e_1) (by decide) rfl rfl (Nat.le_of_ble_eq_true rfl) ?_
  refine j_if_eq S D_S_paced_4 (fun c_4 => ?_) (fun c_4 => ?_)
  · have h := ifT c_4 h
    refine j_ldc S D_S_paced_24 co_R5_77 ?_
    exact rtM hR h _ _ D_S_paced_26
  · have h := ifF c_4 h
    refine j_aload_n S D_S_paced_7 0 rfl rfl ?_
    refine j_iload_n S D_S_paced_8 2 rfl rfl ?_
    obtain ⟨r_9, e_9, h⟩ := bpE h
    refine j_callVI (As := [.int a2]) S D_S_paced_9 mv_R5_86 (c_S_isMonk (cxL X) E a2 e_9) (by decide) sh_Sand rfl rfl rfl rfl (Nat.le_of_ble_eq_true rfl) ?_
    refine j_if_eq S D_S_paced_12 (fun c_12 => ?_) (fun c_12 => ?_)
    · have h := ifT c_12 h
      refine j_ldc S D_S_paced_24 co_R5_77 ?_
      exact rtM hR h _ _ D_S_paced_26
    · have h := ifF c_12 h
      refine j_iload_n S D_S_paced_15 3 rfl rfl ?_
      refine j_iconst S D_S_paced_16 ci_0 ?_
      refine j_iconst S D_S_paced_17 ci_1 ?_
      obtain ⟨r_18, e_18, h⟩ := bpE h
      refine j_callSI (As := [.int a3, .int 0, .int 1]) S D_S_paced_18 ms_R5_70 (c_S_within (cxL X) E a3 0 1 (mem := mem) e_18) (by decide) rfl rfl (Nat.le_of_ble_eq_true rfl) ?_
      refine j_if_ne S D_S_paced_21 (fun c_21 => ?_) (fun c_21 => ?_)
      · have h := ifF c_21 h
        refine j_aload_n S D_S_paced_27 0 rfl rfl ?_
        refine j_getR S D_S_paced_28 fl_R5_28 sh_Sand rfl ?_
        refine j_iload_n S D_S_paced_31 1 rfl rfl ?_
        obtain ⟨g_32, h⟩ := gdE h
        refine j_aald S D_S_paced_32 sh_4 rfl g_32 (el_sht g_32) ?_
        refine j_getI S D_S_paced_33 fl_R5_181 (sh_sht (ro_sht g_32)) rfl ?_
        refine j_iconst S D_S_paced_36 ci_m1 ?_
        refine j_icmp_ne S D_S_paced_37 (fun c_37 => ?_) (fun c_37 => ?_)
        · have h := ifF c_37 h
          refine j_ldc S D_S_paced_43 co_R5_174 ?_
          refine j_istore S D_S_paced_45 (lv := [(4, .int (-1000000005)), (0, .ref (eb E + 0)), (1, .int a1), (2, .int a2), (3, .int a3)]) rfl (Nat.le_of_ble_eq_true rfl) ?_
          refine j_iconst S D_S_paced_47 ci_0 ?_
          refine j_istore S D_S_paced_48 (lv := [(5, .int 0), (4, .int (-1000000005)), (0, .ref (eb E + 0)), (1, .int a1), (2, .int a2), (3, .int a3)]) rfl (Nat.le_of_ble_eq_true rfl) ?_
          refine j_iconst S D_S_paced_50 ci_1 ?_
          refine j_istore S D_S_paced_51 (lv := [(6, .int 1), (5, .int 0), (4, .int (-1000000005)), (0, .ref (eb E + 0)), (1, .int a1), (2, .int a2), (3, .int a3)]) rfl (Nat.le_of_ble_eq_true rfl) ?_
          refine j_locals [3, 4, 5, 6, 2, 1, 0] rfl ?_
          obtain ⟨y_53, m_53, e_53, h⟩ := bdE h
          refine L_S_paced_53 S N N a1 a2 a3 (-1000000005) 0 1 mem _ _ e_53 ?_
          refine j_iload_n S D_S_paced_136 3 rfl rfl ?_
          refine j_dia (P := J X E 8 147 [(0, .ref (eb E + 0)), (1, .int a1), (2, .int a2), (3, .int a3), (4, .int y_53.1), (5, .int y_53.2.1), (6, .int y_53.2.2)] [.int (if a3 = 0 then y_53.1 else y_53.2.1)] SH m_53) (fun hj => ?_) ?_
          · refine j_if_ne S D_S_paced_137 (fun c_137 => ?_) (fun c_137 => ?_)
            · refine j_iload S D_S_paced_145 5 rfl ?_
              exact j_jnF hj c_137
            · refine j_iload S D_S_paced_140 4 rfl ?_
              refine j_goto S D_S_paced_142 ?_
              exact j_jnT hj c_137
          exact rtM hR h _ _ D_S_paced_147
        · have h := ifT c_37 h
          refine j_ldc S D_S_paced_40 co_R5_184 ?_
          exact rtM hR h _ _ D_S_paced_42
      · have h := ifT c_21 h
        refine j_ldc S D_S_paced_24 co_R5_77 ?_
        exact rtM hR h _ _ D_S_paced_26

def y_S_fine : MethodName := ⟨"SandPicture", "fine", "()I"⟩
theorem D_S_fine_0 : decode prog_1_method_25_code 0 = .ok (.aload_n 0, 1) ∧ 0 + 1 = 1 := by decide +kernel
theorem D_S_fine_1 : decode prog_1_method_25_code 1 = .ok (.getfield 52, 3) ∧ 1 + 3 = 4 := by decide +kernel
theorem D_S_fine_4 : decode prog_1_method_25_code 4 = .ok (.iconst 2, 1) ∧ 4 + 1 = 5 := by decide +kernel
theorem D_S_fine_5 : decode prog_1_method_25_code 5 = .ok (.aload_n 0, 1) ∧ 5 + 1 = 6 := by decide +kernel
theorem D_S_fine_6 : decode prog_1_method_25_code 6 = .ok (.getfield 52, 3) ∧ 6 + 3 = 9 := by decide +kernel
theorem D_S_fine_9 : decode prog_1_method_25_code 9 = .ok (.getfield 149, 3) ∧ 9 + 3 = 12 := by decide +kernel
theorem D_S_fine_12 : decode prog_1_method_25_code 12 = .ok (.aload_n 0, 1) ∧ 12 + 1 = 13 := by decide +kernel
theorem D_S_fine_13 : decode prog_1_method_25_code 13 = .ok (.getfield 52, 3) ∧ 13 + 3 = 16 := by decide +kernel
theorem D_S_fine_16 : decode prog_1_method_25_code 16 = .ok (.getfield 156, 3) ∧ 16 + 3 = 19 := by decide +kernel
theorem D_S_fine_19 : decode prog_1_method_25_code 19 = .ok (.iconst 0, 1) ∧ 19 + 1 = 20 := by decide +kernel
theorem D_S_fine_20 : decode prog_1_method_25_code 20 = .ok (.aload_n 0, 1) ∧ 20 + 1 = 21 := by decide +kernel
theorem D_S_fine_21 : decode prog_1_method_25_code 21 = .ok (.getfield 52, 3) ∧ 21 + 3 = 24 := by decide +kernel
theorem D_S_fine_24 : decode prog_1_method_25_code 24 = .ok (.getfield 156, 3) ∧ 24 + 3 = 27 := by decide +kernel
theorem D_S_fine_27 : decode prog_1_method_25_code 27 = .ok (.invokevirtual 188, 3) ∧ 27 + 3 = 30 := by decide +kernel
theorem D_S_fine_30 : decode prog_1_method_25_code 30 = .ok (.ireturn, 1) := by decide +kernel
def f_S_fine (N : Nat)  (mem : Mm) : Option (Int32 × Mm) := bd (f_P_lawGives N 38 2 (mem 38 15) (mem 38 14) 0 (mem 38 14) mem) fun r_27 m_27 => some (r_27, m_27)
theorem c_S_fine (l : Launch) (E : En) (N : Nat)  {mem : Mm} {r : Int32} {m2 : Mm} (h : f_S_fine N mem = some (r, m2)) : CtI l E 3 y_S_fine prog_1_method_25_code 1 (some .int) [.ref (eb E + 0)] SH mem r m2 := by
  refine mk_CtI ⟨by decide, (Nat.le_of_ble_eq_true rfl)⟩ (fun X S hl hR => ?_)
  have S : Std X E prog_1_method_25_code R5 1 3 := S
  show J X E 1 0 [(0, .ref (eb E + 0))] [] SH mem
  unfold f_S_fine at h
  refine j_aload_n S D_S_fine_0 0 rfl rfl ?_
  refine j_getR S D_S_fine_1 fl_R5_52 sh_Sand rfl ?_
  refine j_iconst S D_S_fine_4 ci_2 ?_
  refine j_aload_n S D_S_fine_5 0 rfl rfl ?_
  refine j_getR S D_S_fine_6 fl_R5_52 sh_Sand rfl ?_
  refine j_getI S D_S_fine_9 fl_R5_149 sh_P38 rfl ?_
  refine j_aload_n S D_S_fine_12 0 rfl rfl ?_
  refine j_getR S D_S_fine_13 fl_R5_52 sh_Sand rfl ?_
  refine j_getI S D_S_fine_16 fl_R5_156 sh_P38 rfl ?_
  refine j_iconst S D_S_fine_19 ci_0 ?_
  refine j_aload_n S D_S_fine_20 0 rfl rfl ?_
  refine j_getR S D_S_fine_21 fl_R5_52 sh_Sand rfl ?_
  refine j_getI S D_S_fine_24 fl_R5_156 sh_P38 rfl ?_
  obtain ⟨r_27, m_27, e_27, h⟩ := bdE h
  refine j_callVI (As := [.int 2, .int (mem 38 15), .int (mem 38 14), .int 0, .int (mem 38 14)]) S D_S_fine_27 mv_R5_188 (c_P_lawGives (cxL X) E N 38 pic_38 2 (mem 38 15) (mem 38 14) 0 (mem 38 14) e_27) (by decide) sh_P38 rfl rfl rfl rfl (Nat.le_of_ble_eq_true rfl) ?_
  exact rtM hR h _ _ D_S_fine_30

def y_S_feed : MethodName := ⟨"SandPicture", "feed", "(III)I"⟩
theorem D_S_feed_0 : decode prog_1_method_26_code 0 = .ok (.aload_n 0, 1) ∧ 0 + 1 = 1 := by decide +kernel
theorem D_S_feed_1 : decode prog_1_method_26_code 1 = .ok (.getfield 18, 3) ∧ 1 + 3 = 4 := by decide +kernel
theorem D_S_feed_4 : decode prog_1_method_26_code 4 = .ok (.getfield 192, 3) ∧ 4 + 3 = 7 := by decide +kernel
theorem D_S_feed_7 : decode prog_1_method_26_code 7 = .ok (.bipush 12, 2) ∧ 7 + 2 = 9 := by decide +kernel
theorem D_S_feed_9 : decode prog_1_method_26_code 9 = .ok (.iadd, 1) ∧ 9 + 1 = 10 := by decide +kernel
theorem D_S_feed_10 : decode prog_1_method_26_code 10 = .ok (.bipush 96, 2) ∧ 10 + 2 = 12 := by decide +kernel
theorem D_S_feed_12 : decode prog_1_method_26_code 12 = .ok (.if_icmp .le 6, 3) ∧ ((12 : Nat) : Int) + 6 = ((18 : Nat) : Int) ∧ 12 + 3 = 15 := by decide +kernel
theorem D_S_feed_18 : decode prog_1_method_26_code 18 = .ok (.aload_n 0, 1) ∧ 18 + 1 = 19 := by decide +kernel
theorem D_S_feed_19 : decode prog_1_method_26_code 19 = .ok (.getfield 18, 3) ∧ 19 + 3 = 22 := by decide +kernel
theorem D_S_feed_22 : decode prog_1_method_26_code 22 = .ok (.iload_n 1, 1) ∧ 22 + 1 = 23 := by decide +kernel
theorem D_S_feed_23 : decode prog_1_method_26_code 23 = .ok (.invokevirtual 195, 3) ∧ 23 + 3 = 26 := by decide +kernel
theorem D_S_feed_26 : decode prog_1_method_26_code 26 = .ok (.aload_n 0, 1) ∧ 26 + 1 = 27 := by decide +kernel
theorem D_S_feed_27 : decode prog_1_method_26_code 27 = .ok (.getfield 18, 3) ∧ 27 + 3 = 30 := by decide +kernel
theorem D_S_feed_30 : decode prog_1_method_26_code 30 = .ok (.iload_n 2, 1) ∧ 30 + 1 = 31 := by decide +kernel
theorem D_S_feed_31 : decode prog_1_method_26_code 31 = .ok (.invokevirtual 195, 3) ∧ 31 + 3 = 34 := by decide +kernel
theorem D_S_feed_34 : decode prog_1_method_26_code 34 = .ok (.aload_n 0, 1) ∧ 34 + 1 = 35 := by decide +kernel
theorem D_S_feed_35 : decode prog_1_method_26_code 35 = .ok (.getfield 18, 3) ∧ 35 + 3 = 38 := by decide +kernel
theorem D_S_feed_38 : decode prog_1_method_26_code 38 = .ok (.iload_n 3, 1) ∧ 38 + 1 = 39 := by decide +kernel
theorem D_S_feed_39 : decode prog_1_method_26_code 39 = .ok (.invokevirtual 195, 3) ∧ 39 + 3 = 42 := by decide +kernel
theorem D_S_feed_42 : decode prog_1_method_26_code 42 = .ok (.aload_n 0, 1) ∧ 42 + 1 = 43 := by decide +kernel
theorem D_S_feed_43 : decode prog_1_method_26_code 43 = .ok (.getfield 18, 3) ∧ 43 + 3 = 46 := by decide +kernel
theorem D_S_feed_46 : decode prog_1_method_26_code 46 = .ok (.getfield 192, 3) ∧ 46 + 3 = 49 := by decide +kernel
theorem D_S_feed_49 : decode prog_1_method_26_code 49 = .ok (.ireturn, 1) := by decide +kernel
theorem D_S_feed_15 : decode prog_1_method_26_code 15 = .ok (.ldc 81, 2) ∧ 15 + 2 = 17 := by decide +kernel
theorem D_S_feed_17 : decode prog_1_method_26_code 17 = .ok (.ireturn, 1) := by decide +kernel
def f_S_feed (N : Nat) (a1 : Int32) (a2 : Int32) (a3 : Int32) (mem : Mm) : Option (Int32 × Mm) := if (mem 2 0) + 12 ≤ 96 then bp (f_T_addBytes N a1 mem) fun m_23 => bp (f_T_addBytes N a2 m_23) fun m_31 => bp (f_T_addBytes N a3 m_31) fun m_39 => some (m_39 2 0, m_39) else some ((-1000000003), mem)
theorem c_S_feed (l : Launch) (E : En) (N : Nat) (a1 : Int32) (a2 : Int32) (a3 : Int32) {mem : Mm} {r : Int32} {m2 : Mm} (h : f_S_feed N a1 a2 a3 mem = some (r, m2)) : CtI l E 1 y_S_feed prog_1_method_26_code 4 (some .int) [.ref (eb E + 0), .int a1, .int a2, .int a3] SH mem r m2 := by
  refine mk_CtI ⟨by decide, (Nat.le_of_ble_eq_true rfl)⟩ (fun X S hl hR => ?_)
  have S : Std X E prog_1_method_26_code R5 4 1 := S
  show J X E 4 0 [(0, .ref (eb E + 0)), (1, .int a1), (2, .int a2), (3, .int a3)] [] SH mem
  unfold f_S_feed at h
  refine j_aload_n S D_S_feed_0 0 rfl rfl ?_
  refine j_getR S D_S_feed_1 fl_R5_18 sh_Sand rfl ?_
  refine j_getI S D_S_feed_4 fl_R5_192 sh_Tape rfl ?_
  refine j_bipush S D_S_feed_7 cb_12 ?_
  refine j_iadd S D_S_feed_9 ?_
  refine j_bipush S D_S_feed_10 cb_96 ?_
  refine j_icmp_le S D_S_feed_12 (fun c_12 => ?_) (fun c_12 => ?_)
  · have h := ifT c_12 h
    refine j_aload_n S D_S_feed_18 0 rfl rfl ?_
    refine j_getR S D_S_feed_19 fl_R5_18 sh_Sand rfl ?_
    refine j_iload_n S D_S_feed_22 1 rfl rfl ?_
    obtain ⟨m_23, e_23, h⟩ := bpE h
    refine j_callVV (As := [.int a1]) S D_S_feed_23 mv_R5_195 (c_T_addBytes (cxL X) E N a1 e_23) (by decide) sh_Tape rfl rfl rfl rfl (Nat.le_of_ble_eq_true rfl) ?_
    refine j_aload_n S D_S_feed_26 0 rfl rfl ?_
    refine j_getR S D_S_feed_27 fl_R5_18 sh_Sand rfl ?_
    refine j_iload_n S D_S_feed_30 2 rfl rfl ?_
    obtain ⟨m_31, e_31, h⟩ := bpE h
    refine j_callVV (As := [.int a2]) S D_S_feed_31 mv_R5_195 (c_T_addBytes (cxL X) E N a2 e_31) (by decide) sh_Tape rfl rfl rfl rfl (Nat.le_of_ble_eq_true rfl) ?_
    refine j_aload_n S D_S_feed_34 0 rfl rfl ?_
    refine j_getR S D_S_feed_35 fl_R5_18 sh_Sand rfl ?_
    refine j_iload_n S D_S_feed_38 3 rfl rfl ?_
    obtain ⟨m_39, e_39, h⟩ := bpE h
    refine j_callVV (As := [.int a3]) S D_S_feed_39 mv_R5_195 (c_T_addBytes (cxL X) E N a3 e_39) (by decide) sh_Tape rfl rfl rfl rfl (Nat.le_of_ble_eq_true rfl) ?_
    refine j_aload_n S D_S_feed_42 0 rfl rfl ?_
    refine j_getR S D_S_feed_43 fl_R5_18 sh_Sand rfl ?_
    refine j_getI S D_S_feed_46 fl_R5_192 sh_Tape rfl ?_
    exact rtM hR h _ _ D_S_feed_49
  · have h := ifF c_12 h
    refine j_ldc S D_S_feed_15 co_R5_81 ?_
    exact rtM hR h _ _ D_S_feed_17

def y_S_trim : MethodName := ⟨"SandPicture", "trim", "(I)I"⟩
theorem D_S_trim_0 : decode prog_1_method_27_code 0 = .ok (.iload_n 1, 1) ∧ 0 + 1 = 1 := by decide +kernel
theorem D_S_trim_1 : decode prog_1_method_27_code 1 = .ok (.iconst 0, 1) ∧ 1 + 1 = 2 := by decide +kernel
theorem D_S_trim_2 : decode prog_1_method_27_code 2 = .ok (.aload_n 0, 1) ∧ 2 + 1 = 3 := by decide +kernel
theorem D_S_trim_3 : decode prog_1_method_27_code 3 = .ok (.getfield 18, 3) ∧ 3 + 3 = 6 := by decide +kernel
theorem D_S_trim_6 : decode prog_1_method_27_code 6 = .ok (.getfield 192, 3) ∧ 6 + 3 = 9 := by decide +kernel
theorem D_S_trim_9 : decode prog_1_method_27_code 9 = .ok (.invokestatic 70, 3) ∧ 9 + 3 = 12 := by decide +kernel
theorem D_S_trim_12 : decode prog_1_method_27_code 12 = .ok (.ifCond .ne 6, 3) ∧ ((12 : Nat) : Int) + 6 = ((18 : Nat) : Int) ∧ 12 + 3 = 15 := by decide +kernel
theorem D_S_trim_18 : decode prog_1_method_27_code 18 = .ok (.aload_n 0, 1) ∧ 18 + 1 = 19 := by decide +kernel
theorem D_S_trim_19 : decode prog_1_method_27_code 19 = .ok (.getfield 18, 3) ∧ 19 + 3 = 22 := by decide +kernel
theorem D_S_trim_22 : decode prog_1_method_27_code 22 = .ok (.iload_n 1, 1) ∧ 22 + 1 = 23 := by decide +kernel
theorem D_S_trim_23 : decode prog_1_method_27_code 23 = .ok (.putfield 192, 3) ∧ 23 + 3 = 26 := by decide +kernel
theorem D_S_trim_26 : decode prog_1_method_27_code 26 = .ok (.iload_n 1, 1) ∧ 26 + 1 = 27 := by decide +kernel
theorem D_S_trim_27 : decode prog_1_method_27_code 27 = .ok (.ireturn, 1) := by decide +kernel
theorem D_S_trim_15 : decode prog_1_method_27_code 15 = .ok (.ldc 77, 2) ∧ 15 + 2 = 17 := by decide +kernel
theorem D_S_trim_17 : decode prog_1_method_27_code 17 = .ok (.ireturn, 1) := by decide +kernel
def f_S_trim (a1 : Int32) (mem : Mm) : Option (Int32 × Mm) := bp (f_S_within a1 0 (mem 2 0)) fun r_9 => if r_9 = 0 then some ((-1000000001), mem) else lt (mst mem 2 0 a1) fun m_23 => some (a1, m_23)
theorem c_S_trim (l : Launch) (E : En) (a1 : Int32) {mem : Mm} {r : Int32} {m2 : Mm} (h : f_S_trim a1 mem = some (r, m2)) : CtI l E 1 y_S_trim prog_1_method_27_code 2 (some .int) [.ref (eb E + 0), .int a1] SH mem r m2 := by
  refine mk_CtI ⟨by decide, (Nat.le_of_ble_eq_true rfl)⟩ (fun X S hl hR => ?_)
  have S : Std X E prog_1_method_27_code R5 2 1 := S
  show J X E 2 0 [(0, .ref (eb E + 0)), (1, .int a1)] [] SH mem
  unfold f_S_trim at h
  refine j_iload_n S D_S_trim_0 1 rfl rfl ?_
  refine j_iconst S D_S_trim_1 ci_0 ?_
  refine j_aload_n S D_S_trim_2 0 rfl rfl ?_
  refine j_getR S D_S_trim_3 fl_R5_18 sh_Sand rfl ?_
  refine j_getI S D_S_trim_6 fl_R5_192 sh_Tape rfl ?_
  obtain ⟨r_9, e_9, h⟩ := bpE h
  refine j_callSI (As := [.int a1, .int 0, .int (mem 2 0)]) S D_S_trim_9 ms_R5_70 (c_S_within (cxL X) E a1 0 (mem 2 0) (mem := mem) e_9) (by decide) rfl rfl (Nat.le_of_ble_eq_true rfl) ?_
  refine j_if_ne S D_S_trim_12 (fun c_12 => ?_) (fun c_12 => ?_)
  · have h := ifF c_12 h
    refine j_aload_n S D_S_trim_18 0 rfl rfl ?_
    refine j_getR S D_S_trim_19 fl_R5_18 sh_Sand rfl ?_
    refine j_iload_n S D_S_trim_22 1 rfl rfl ?_
    obtain ⟨m_23, hm_23, h⟩ := ltE h
    refine j_putI S D_S_trim_23 fp_R5_192 sh_Tape rfl ?_
    refine j_mem hm_23 ?_
    refine j_iload_n S D_S_trim_26 1 rfl rfl ?_
    exact rtM hR h _ _ D_S_trim_27
  · have h := ifT c_12 h
    refine j_ldc S D_S_trim_15 co_R5_77 ?_
    exact rtM hR h _ _ D_S_trim_17
