def y_M_isDone : MethodName := ⟨"SandPictureModel", "isDone", "(I)Z"⟩
theorem D_M_isDone_0 : decode prog_9_method_31_code 0 = .ok (.aload_n 0, 1) ∧ 0 + 1 = 1 := by decide +kernel
theorem D_M_isDone_1 : decode prog_9_method_31_code 1 = .ok (.iload_n 1, 1) ∧ 1 + 1 = 2 := by decide +kernel
theorem D_M_isDone_2 : decode prog_9_method_31_code 2 = .ok (.iconst 1, 1) ∧ 2 + 1 = 3 := by decide +kernel
theorem D_M_isDone_3 : decode prog_9_method_31_code 3 = .ok (.invokevirtual 107, 3) ∧ 3 + 3 = 6 := by decide +kernel
theorem D_M_isDone_6 : decode prog_9_method_31_code 6 = .ok (.aload_n 0, 1) ∧ 6 + 1 = 7 := by decide +kernel
theorem D_M_isDone_7 : decode prog_9_method_31_code 7 = .ok (.iload_n 1, 1) ∧ 7 + 1 = 8 := by decide +kernel
theorem D_M_isDone_8 : decode prog_9_method_31_code 8 = .ok (.iconst 0, 1) ∧ 8 + 1 = 9 := by decide +kernel
theorem D_M_isDone_9 : decode prog_9_method_31_code 9 = .ok (.invokevirtual 107, 3) ∧ 9 + 3 = 12 := by decide +kernel
theorem D_M_isDone_19 : decode prog_9_method_31_code 19 = .ok (.iconst 0, 1) ∧ 19 + 1 = 20 := by decide +kernel
theorem D_M_isDone_15 : decode prog_9_method_31_code 15 = .ok (.iconst 1, 1) ∧ 15 + 1 = 16 := by decide +kernel
theorem D_M_isDone_16 : decode prog_9_method_31_code 16 = .ok (.goto 4, 3) ∧ ((16 : Nat) : Int) + 4 = ((20 : Nat) : Int) := by decide +kernel
theorem D_M_isDone_12 : decode prog_9_method_31_code 12 = .ok (.if_icmp .lt 7, 3) ∧ ((12 : Nat) : Int) + 7 = ((19 : Nat) : Int) ∧ 12 + 3 = 15 := by decide +kernel
theorem D_M_isDone_20 : decode prog_9_method_31_code 20 = .ok (.ireturn, 1) := by decide +kernel
def f_M_isDone (a1 : Int32) (mem : Mm) : Option (Int32) := bp (f_M_at0 a1 1 mem) fun r_3 => bp (f_M_at0 a1 0 mem) fun r_9 => some (if r_3 < r_9 then (0 : Int32) else 1)
theorem c_M_isDone (l : Launch) (E : En) (a1 : Int32) {mem : Mm} {r : Int32} (h : f_M_isDone a1 mem = some r) : CtI l E 1 y_M_isDone prog_9_method_31_code 2 (some .boolean) [.ref (eb E + 91), .int a1] SH mem r mem := by
  refine mk_CtZ ⟨by decide, (Nat.le_of_ble_eq_true rfl)⟩ (fun X S hl hR => ?_)
  have S : Std X E prog_9_method_31_code R6 2 1 := S
  show J X E 2 0 [(0, .ref (eb E + 91)), (1, .int a1)] [] SH mem
  unfold f_M_isDone at h
  refine j_aload_n S D_M_isDone_0 0 rfl rfl ?_
  refine j_iload_n S D_M_isDone_1 1 rfl rfl ?_
  refine j_iconst S D_M_isDone_2 ci_1 ?_
  obtain ⟨r_3, e_3, h⟩ := bpE h
  refine j_callVI (As := [.int a1, .int 1]) S D_M_isDone_3 mv_R6_107 (c_M_at0 (cxL X) E a1 1 e_3) (by decide) sh_Mod rfl rfl rfl rfl (Nat.le_of_ble_eq_true rfl) ?_
  refine j_aload_n S D_M_isDone_6 0 rfl rfl ?_
  refine j_iload_n S D_M_isDone_7 1 rfl rfl ?_
  refine j_iconst S D_M_isDone_8 ci_0 ?_
  obtain ⟨r_9, e_9, h⟩ := bpE h
  refine j_callVI (As := [.int a1, .int 0]) S D_M_isDone_9 mv_R6_107 (c_M_at0 (cxL X) E a1 0 e_9) (by decide) sh_Mod rfl rfl rfl rfl (Nat.le_of_ble_eq_true rfl) ?_
  refine j_dia (P := J X E 2 20 [(0, .ref (eb E + 91)), (1, .int a1)] [.int (if r_3 < r_9 then (0 : Int32) else 1)] SH mem) (fun hj => ?_) ?_
  · refine j_icmp_lt S D_M_isDone_12 (fun c_12 => ?_) (fun c_12 => ?_)
    · refine j_iconst S D_M_isDone_19 ci_0 ?_
      exact j_jnT hj c_12
    · refine j_iconst S D_M_isDone_15 ci_1 ?_
      refine j_goto S D_M_isDone_16 ?_
      exact j_jnF hj c_12
  exact rtIZ hR h (isb_ite isb0 isb1) _ _ D_M_isDone_20

def y_M_wipes : MethodName := ⟨"SandPictureModel", "wipes", "(I)V"⟩
theorem D_M_wipes_0 : decode prog_9_method_32_code 0 = .ok (.aload_n 0, 1) ∧ 0 + 1 = 1 := by decide +kernel
theorem D_M_wipes_1 : decode prog_9_method_32_code 1 = .ok (.iload_n 1, 1) ∧ 1 + 1 = 2 := by decide +kernel
theorem D_M_wipes_2 : decode prog_9_method_32_code 2 = .ok (.iconst 1, 1) ∧ 2 + 1 = 3 := by decide +kernel
theorem D_M_wipes_3 : decode prog_9_method_32_code 3 = .ok (.invokevirtual 107, 3) ∧ 3 + 3 = 6 := by decide +kernel
theorem D_M_wipes_6 : decode prog_9_method_32_code 6 = .ok (.istore_n 2, 1) ∧ 6 + 1 = 7 := by decide +kernel
theorem D_M_wipes_7 : decode prog_9_method_32_code 7 = .ok (.aload_n 0, 1) ∧ 7 + 1 = 8 := by decide +kernel
theorem D_M_wipes_8 : decode prog_9_method_32_code 8 = .ok (.iconst 1, 1) ∧ 8 + 1 = 9 := by decide +kernel
theorem D_M_wipes_9 : decode prog_9_method_32_code 9 = .ok (.invokevirtual 104, 3) ∧ 9 + 3 = 12 := by decide +kernel
theorem D_M_wipes_12 : decode prog_9_method_32_code 12 = .ok (.istore_n 3, 1) ∧ 12 + 1 = 13 := by decide +kernel
theorem D_M_wipes_13 : decode prog_9_method_32_code 13 = .ok (.aload_n 0, 1) ∧ 13 + 1 = 14 := by decide +kernel
theorem D_M_wipes_14 : decode prog_9_method_32_code 14 = .ok (.getfield 49, 3) ∧ 14 + 3 = 17 := by decide +kernel
theorem D_M_wipes_17 : decode prog_9_method_32_code 17 = .ok (.iconst 0, 1) ∧ 17 + 1 = 18 := by decide +kernel
theorem D_M_wipes_18 : decode prog_9_method_32_code 18 = .ok (.iload_n 2, 1) ∧ 18 + 1 = 19 := by decide +kernel
theorem D_M_wipes_19 : decode prog_9_method_32_code 19 = .ok (.iastore, 1) ∧ 19 + 1 = 20 := by decide +kernel
theorem D_M_wipes_20 : decode prog_9_method_32_code 20 = .ok (.aload_n 0, 1) ∧ 20 + 1 = 21 := by decide +kernel
theorem D_M_wipes_21 : decode prog_9_method_32_code 21 = .ok (.getfield 49, 3) ∧ 21 + 3 = 24 := by decide +kernel
theorem D_M_wipes_24 : decode prog_9_method_32_code 24 = .ok (.iconst 1, 1) ∧ 24 + 1 = 25 := by decide +kernel
theorem D_M_wipes_25 : decode prog_9_method_32_code 25 = .ok (.aload_n 0, 1) ∧ 25 + 1 = 26 := by decide +kernel
theorem D_M_wipes_26 : decode prog_9_method_32_code 26 = .ok (.iload_n 1, 1) ∧ 26 + 1 = 27 := by decide +kernel
theorem D_M_wipes_27 : decode prog_9_method_32_code 27 = .ok (.iconst 2, 1) ∧ 27 + 1 = 28 := by decide +kernel
theorem D_M_wipes_28 : decode prog_9_method_32_code 28 = .ok (.invokevirtual 107, 3) ∧ 28 + 3 = 31 := by decide +kernel
theorem D_M_wipes_31 : decode prog_9_method_32_code 31 = .ok (.iastore, 1) ∧ 31 + 1 = 32 := by decide +kernel
theorem D_M_wipes_32 : decode prog_9_method_32_code 32 = .ok (.aload_n 0, 1) ∧ 32 + 1 = 33 := by decide +kernel
theorem D_M_wipes_33 : decode prog_9_method_32_code 33 = .ok (.getfield 49, 3) ∧ 33 + 3 = 36 := by decide +kernel
theorem D_M_wipes_36 : decode prog_9_method_32_code 36 = .ok (.iconst 2, 1) ∧ 36 + 1 = 37 := by decide +kernel
theorem D_M_wipes_37 : decode prog_9_method_32_code 37 = .ok (.aload_n 0, 1) ∧ 37 + 1 = 38 := by decide +kernel
theorem D_M_wipes_38 : decode prog_9_method_32_code 38 = .ok (.iload_n 1, 1) ∧ 38 + 1 = 39 := by decide +kernel
theorem D_M_wipes_39 : decode prog_9_method_32_code 39 = .ok (.iconst 3, 1) ∧ 39 + 1 = 40 := by decide +kernel
theorem D_M_wipes_40 : decode prog_9_method_32_code 40 = .ok (.invokevirtual 107, 3) ∧ 40 + 3 = 43 := by decide +kernel
theorem D_M_wipes_43 : decode prog_9_method_32_code 43 = .ok (.iastore, 1) ∧ 43 + 1 = 44 := by decide +kernel
theorem D_M_wipes_44 : decode prog_9_method_32_code 44 = .ok (.iload_n 3, 1) ∧ 44 + 1 = 45 := by decide +kernel
theorem D_M_wipes_45 : decode prog_9_method_32_code 45 = .ok (.ifCond .ge 7, 3) ∧ ((45 : Nat) : Int) + 7 = ((52 : Nat) : Int) ∧ 45 + 3 = 48 := by decide +kernel
theorem D_M_wipes_52 : decode prog_9_method_32_code 52 = .ok (.aload_n 0, 1) ∧ 52 + 1 = 53 := by decide +kernel
theorem D_M_wipes_53 : decode prog_9_method_32_code 53 = .ok (.iload_n 3, 1) ∧ 53 + 1 = 54 := by decide +kernel
theorem D_M_wipes_54 : decode prog_9_method_32_code 54 = .ok (.invokevirtual 110, 3) ∧ 54 + 3 = 57 := by decide +kernel
theorem D_M_wipes_57 : decode prog_9_method_32_code 57 = .ok (.iconst 0, 1) ∧ 57 + 1 = 58 := by decide +kernel
theorem D_M_wipes_58 : decode prog_9_method_32_code 58 = .ok (.iload_n 2, 1) ∧ 58 + 1 = 59 := by decide +kernel
theorem D_M_wipes_59 : decode prog_9_method_32_code 59 = .ok (.invokestatic 113, 3) ∧ 59 + 3 = 62 := by decide +kernel
theorem D_M_wipes_62 : decode prog_9_method_32_code 62 = .ok (.istore 4, 2) ∧ 62 + 2 = 64 := by decide +kernel
theorem D_M_wipes_64 : decode prog_9_method_32_code 64 = .ok (.ldc 133, 2) ∧ 64 + 2 = 66 := by decide +kernel
theorem D_M_wipes_66 : decode prog_9_method_32_code 66 = .ok (.aload_n 0, 1) ∧ 66 + 1 = 67 := by decide +kernel
theorem D_M_wipes_67 : decode prog_9_method_32_code 67 = .ok (.getfield 9, 3) ∧ 67 + 3 = 70 := by decide +kernel
theorem D_M_wipes_70 : decode prog_9_method_32_code 70 = .ok (.bipush 7, 2) ∧ 70 + 2 = 72 := by decide +kernel
theorem D_M_wipes_72 : decode prog_9_method_32_code 72 = .ok (.iload_n 1, 1) ∧ 72 + 1 = 73 := by decide +kernel
theorem D_M_wipes_73 : decode prog_9_method_32_code 73 = .ok (.iconst 3, 1) ∧ 73 + 1 = 74 := by decide +kernel
theorem D_M_wipes_74 : decode prog_9_method_32_code 74 = .ok (.irem, 1) ∧ 74 + 1 = 75 := by decide +kernel
theorem D_M_wipes_75 : decode prog_9_method_32_code 75 = .ok (.iadd, 1) ∧ 75 + 1 = 76 := by decide +kernel
theorem D_M_wipes_76 : decode prog_9_method_32_code 76 = .ok (.iaload, 1) ∧ 76 + 1 = 77 := by decide +kernel
theorem D_M_wipes_77 : decode prog_9_method_32_code 77 = .ok (.isub, 1) ∧ 77 + 1 = 78 := by decide +kernel
theorem D_M_wipes_78 : decode prog_9_method_32_code 78 = .ok (.istore 5, 2) ∧ 78 + 2 = 80 := by decide +kernel
theorem D_M_wipes_80 : decode prog_9_method_32_code 80 = .ok (.iload 4, 2) ∧ 80 + 2 = 82 := by decide +kernel
theorem D_M_wipes_82 : decode prog_9_method_32_code 82 = .ok (.iload 5, 2) ∧ 82 + 2 = 84 := by decide +kernel
theorem D_M_wipes_92 : decode prog_9_method_32_code 92 = .ok (.iload 4, 2) ∧ 92 + 2 = 94 := by decide +kernel
theorem D_M_wipes_87 : decode prog_9_method_32_code 87 = .ok (.iload 5, 2) ∧ 87 + 2 = 89 := by decide +kernel
theorem D_M_wipes_89 : decode prog_9_method_32_code 89 = .ok (.goto 5, 3) ∧ ((89 : Nat) : Int) + 5 = ((94 : Nat) : Int) := by decide +kernel
theorem D_M_wipes_84 : decode prog_9_method_32_code 84 = .ok (.if_icmp .le 8, 3) ∧ ((84 : Nat) : Int) + 8 = ((92 : Nat) : Int) ∧ 84 + 3 = 87 := by decide +kernel
theorem D_M_wipes_94 : decode prog_9_method_32_code 94 = .ok (.istore 6, 2) ∧ 94 + 2 = 96 := by decide +kernel
theorem D_M_wipes_96 : decode prog_9_method_32_code 96 = .ok (.aload_n 0, 1) ∧ 96 + 1 = 97 := by decide +kernel
theorem D_M_wipes_97 : decode prog_9_method_32_code 97 = .ok (.getfield 9, 3) ∧ 97 + 3 = 100 := by decide +kernel
theorem D_M_wipes_100 : decode prog_9_method_32_code 100 = .ok (.bipush 7, 2) ∧ 100 + 2 = 102 := by decide +kernel
theorem D_M_wipes_102 : decode prog_9_method_32_code 102 = .ok (.iload_n 1, 1) ∧ 102 + 1 = 103 := by decide +kernel
theorem D_M_wipes_103 : decode prog_9_method_32_code 103 = .ok (.iconst 3, 1) ∧ 103 + 1 = 104 := by decide +kernel
theorem D_M_wipes_104 : decode prog_9_method_32_code 104 = .ok (.irem, 1) ∧ 104 + 1 = 105 := by decide +kernel
theorem D_M_wipes_105 : decode prog_9_method_32_code 105 = .ok (.iadd, 1) ∧ 105 + 1 = 106 := by decide +kernel
theorem D_M_wipes_106 : decode prog_9_method_32_code 106 = .ok (.dup2, 1) ∧ 106 + 1 = 107 := by decide +kernel
theorem D_M_wipes_107 : decode prog_9_method_32_code 107 = .ok (.iaload, 1) ∧ 107 + 1 = 108 := by decide +kernel
theorem D_M_wipes_108 : decode prog_9_method_32_code 108 = .ok (.iload 6, 2) ∧ 108 + 2 = 110 := by decide +kernel
theorem D_M_wipes_110 : decode prog_9_method_32_code 110 = .ok (.iadd, 1) ∧ 110 + 1 = 111 := by decide +kernel
theorem D_M_wipes_111 : decode prog_9_method_32_code 111 = .ok (.iastore, 1) ∧ 111 + 1 = 112 := by decide +kernel
theorem D_M_wipes_112 : decode prog_9_method_32_code 112 = .ok (.aload_n 0, 1) ∧ 112 + 1 = 113 := by decide +kernel
theorem D_M_wipes_113 : decode prog_9_method_32_code 113 = .ok (.getfield 9, 3) ∧ 113 + 3 = 116 := by decide +kernel
theorem D_M_wipes_116 : decode prog_9_method_32_code 116 = .ok (.iconst 4, 1) ∧ 116 + 1 = 117 := by decide +kernel
theorem D_M_wipes_117 : decode prog_9_method_32_code 117 = .ok (.dup2, 1) ∧ 117 + 1 = 118 := by decide +kernel
theorem D_M_wipes_118 : decode prog_9_method_32_code 118 = .ok (.iaload, 1) ∧ 118 + 1 = 119 := by decide +kernel
theorem D_M_wipes_119 : decode prog_9_method_32_code 119 = .ok (.iload_n 2, 1) ∧ 119 + 1 = 120 := by decide +kernel
theorem D_M_wipes_120 : decode prog_9_method_32_code 120 = .ok (.iload 6, 2) ∧ 120 + 2 = 122 := by decide +kernel
theorem D_M_wipes_122 : decode prog_9_method_32_code 122 = .ok (.isub, 1) ∧ 122 + 1 = 123 := by decide +kernel
theorem D_M_wipes_123 : decode prog_9_method_32_code 123 = .ok (.iadd, 1) ∧ 123 + 1 = 124 := by decide +kernel
theorem D_M_wipes_124 : decode prog_9_method_32_code 124 = .ok (.iastore, 1) ∧ 124 + 1 = 125 := by decide +kernel
theorem D_M_wipes_125 : decode prog_9_method_32_code 125 = .ok (.aload_n 0, 1) ∧ 125 + 1 = 126 := by decide +kernel
theorem D_M_wipes_126 : decode prog_9_method_32_code 126 = .ok (.getfield 9, 3) ∧ 126 + 3 = 129 := by decide +kernel
theorem D_M_wipes_129 : decode prog_9_method_32_code 129 = .ok (.bipush 10, 2) ∧ 129 + 2 = 131 := by decide +kernel
theorem D_M_wipes_131 : decode prog_9_method_32_code 131 = .ok (.iconst 4, 1) ∧ 131 + 1 = 132 := by decide +kernel
theorem D_M_wipes_132 : decode prog_9_method_32_code 132 = .ok (.iload_n 1, 1) ∧ 132 + 1 = 133 := by decide +kernel
theorem D_M_wipes_133 : decode prog_9_method_32_code 133 = .ok (.imul, 1) ∧ 133 + 1 = 134 := by decide +kernel
theorem D_M_wipes_134 : decode prog_9_method_32_code 134 = .ok (.iadd, 1) ∧ 134 + 1 = 135 := by decide +kernel
theorem D_M_wipes_135 : decode prog_9_method_32_code 135 = .ok (.iconst 1, 1) ∧ 135 + 1 = 136 := by decide +kernel
theorem D_M_wipes_136 : decode prog_9_method_32_code 136 = .ok (.iadd, 1) ∧ 136 + 1 = 137 := by decide +kernel
theorem D_M_wipes_137 : decode prog_9_method_32_code 137 = .ok (.iconst 0, 1) ∧ 137 + 1 = 138 := by decide +kernel
theorem D_M_wipes_138 : decode prog_9_method_32_code 138 = .ok (.iastore, 1) ∧ 138 + 1 = 139 := by decide +kernel
theorem D_M_wipes_139 : decode prog_9_method_32_code 139 = .ok (.aload_n 0, 1) ∧ 139 + 1 = 140 := by decide +kernel
theorem D_M_wipes_140 : decode prog_9_method_32_code 140 = .ok (.getfield 9, 3) ∧ 140 + 3 = 143 := by decide +kernel
theorem D_M_wipes_143 : decode prog_9_method_32_code 143 = .ok (.bipush 10, 2) ∧ 143 + 2 = 145 := by decide +kernel
theorem D_M_wipes_145 : decode prog_9_method_32_code 145 = .ok (.iconst 4, 1) ∧ 145 + 1 = 146 := by decide +kernel
theorem D_M_wipes_146 : decode prog_9_method_32_code 146 = .ok (.iload_n 1, 1) ∧ 146 + 1 = 147 := by decide +kernel
theorem D_M_wipes_147 : decode prog_9_method_32_code 147 = .ok (.imul, 1) ∧ 147 + 1 = 148 := by decide +kernel
theorem D_M_wipes_148 : decode prog_9_method_32_code 148 = .ok (.iadd, 1) ∧ 148 + 1 = 149 := by decide +kernel
theorem D_M_wipes_149 : decode prog_9_method_32_code 149 = .ok (.iconst 2, 1) ∧ 149 + 1 = 150 := by decide +kernel
theorem D_M_wipes_150 : decode prog_9_method_32_code 150 = .ok (.iadd, 1) ∧ 150 + 1 = 151 := by decide +kernel
theorem D_M_wipes_151 : decode prog_9_method_32_code 151 = .ok (.iconst 0, 1) ∧ 151 + 1 = 152 := by decide +kernel
theorem D_M_wipes_152 : decode prog_9_method_32_code 152 = .ok (.iastore, 1) ∧ 152 + 1 = 153 := by decide +kernel
theorem D_M_wipes_153 : decode prog_9_method_32_code 153 = .ok (.aload_n 0, 1) ∧ 153 + 1 = 154 := by decide +kernel
theorem D_M_wipes_154 : decode prog_9_method_32_code 154 = .ok (.getfield 9, 3) ∧ 154 + 3 = 157 := by decide +kernel
theorem D_M_wipes_157 : decode prog_9_method_32_code 157 = .ok (.bipush 10, 2) ∧ 157 + 2 = 159 := by decide +kernel
theorem D_M_wipes_159 : decode prog_9_method_32_code 159 = .ok (.iconst 4, 1) ∧ 159 + 1 = 160 := by decide +kernel
theorem D_M_wipes_160 : decode prog_9_method_32_code 160 = .ok (.iload_n 1, 1) ∧ 160 + 1 = 161 := by decide +kernel
theorem D_M_wipes_161 : decode prog_9_method_32_code 161 = .ok (.imul, 1) ∧ 161 + 1 = 162 := by decide +kernel
theorem D_M_wipes_162 : decode prog_9_method_32_code 162 = .ok (.iadd, 1) ∧ 162 + 1 = 163 := by decide +kernel
theorem D_M_wipes_163 : decode prog_9_method_32_code 163 = .ok (.iconst 3, 1) ∧ 163 + 1 = 164 := by decide +kernel
theorem D_M_wipes_164 : decode prog_9_method_32_code 164 = .ok (.iadd, 1) ∧ 164 + 1 = 165 := by decide +kernel
theorem D_M_wipes_165 : decode prog_9_method_32_code 165 = .ok (.dup2, 1) ∧ 165 + 1 = 166 := by decide +kernel
theorem D_M_wipes_166 : decode prog_9_method_32_code 166 = .ok (.iaload, 1) ∧ 166 + 1 = 167 := by decide +kernel
theorem D_M_wipes_167 : decode prog_9_method_32_code 167 = .ok (.iconst 1, 1) ∧ 167 + 1 = 168 := by decide +kernel
theorem D_M_wipes_168 : decode prog_9_method_32_code 168 = .ok (.iadd, 1) ∧ 168 + 1 = 169 := by decide +kernel
theorem D_M_wipes_169 : decode prog_9_method_32_code 169 = .ok (.iastore, 1) ∧ 169 + 1 = 170 := by decide +kernel
theorem D_M_wipes_170 : decode prog_9_method_32_code 170 = .ok (.return_, 1) := by decide +kernel
theorem D_M_wipes_48 : decode prog_9_method_32_code 48 = .ok (.iload_n 2, 1) ∧ 48 + 1 = 49 := by decide +kernel
theorem D_M_wipes_49 : decode prog_9_method_32_code 49 = .ok (.goto 13, 3) ∧ ((49 : Nat) : Int) + 13 = ((62 : Nat) : Int) := by decide +kernel
def f_M_wipes (N : Nat) (a1 : Int32) (mem : Mm) : Option (Mm) := bp (f_M_at0 a1 1 mem) fun r_3 => bp (f_M_counts N 1 mem) fun r_9 => lt (mst mem 103 (ix 0) r_3) fun m_19 => bp (f_M_at0 a1 2 m_19) fun r_28 => lt (mst m_19 103 (ix 1) r_28) fun m_31 => bp (f_M_at0 a1 3 m_31) fun r_40 => lt (mst m_31 103 (ix 2) r_40) fun m_43 => if 0 ≤ r_9 then bd (f_M_worksOut N r_9 m_43) fun r_54 m_54 => bp (f_M_within r_54 0 r_3) fun r_59 => if inb (7 + (a1 - a1 / 3 * 3)) 1436 = true then lt (99999 - (m_54 92 (ix (7 + (a1 - a1 / 3 * 3))))) fun x_78 => lt (if r_59 ≤ x_78 then r_59 else x_78) fun x_94 => lt (mst m_54 92 (ix (7 + (a1 - a1 / 3 * 3))) ((m_54 92 (ix (7 + (a1 - a1 / 3 * 3)))) + x_94)) fun m_111 => lt (mst m_111 92 (ix 4) ((m_111 92 (ix 4)) + (r_3 - x_94))) fun m_124 => if inb ((10 + (4 * a1)) + 1) 1436 = true then lt (mst m_124 92 (ix ((10 + (4 * a1)) + 1)) 0) fun m_138 => if inb ((10 + (4 * a1)) + 2) 1436 = true then lt (mst m_138 92 (ix ((10 + (4 * a1)) + 2)) 0) fun m_152 => if inb ((10 + (4 * a1)) + 3) 1436 = true then lt (mst m_152 92 (ix ((10 + (4 * a1)) + 3)) ((m_152 92 (ix ((10 + (4 * a1)) + 3))) + 1)) fun m_169 => some m_169 else none else none else none else none else if inb (7 + (a1 - a1 / 3 * 3)) 1436 = true then lt (99999 - (m_43 92 (ix (7 + (a1 - a1 / 3 * 3))))) fun x_78 => lt (if r_3 ≤ x_78 then r_3 else x_78) fun x_94 => lt (mst m_43 92 (ix (7 + (a1 - a1 / 3 * 3))) ((m_43 92 (ix (7 + (a1 - a1 / 3 * 3)))) + x_94)) fun m_111 => lt (mst m_111 92 (ix 4) ((m_111 92 (ix 4)) + (r_3 - x_94))) fun m_124 => if inb ((10 + (4 * a1)) + 1) 1436 = true then lt (mst m_124 92 (ix ((10 + (4 * a1)) + 1)) 0) fun m_138 => if inb ((10 + (4 * a1)) + 2) 1436 = true then lt (mst m_138 92 (ix ((10 + (4 * a1)) + 2)) 0) fun m_152 => if inb ((10 + (4 * a1)) + 3) 1436 = true then lt (mst m_152 92 (ix ((10 + (4 * a1)) + 3)) ((m_152 92 (ix ((10 + (4 * a1)) + 3))) + 1)) fun m_169 => some m_169 else none else none else none else none
theorem c_M_wipes (l : Launch) (E : En) (N : Nat) (a1 : Int32) {mem : Mm} {m2 : Mm} (h : f_M_wipes N a1 mem = some m2) : CtV l E 2 y_M_wipes prog_9_method_32_code 7 [.ref (eb E + 91), .int a1] SH mem m2 := by
  refine mk_CtV ⟨by decide, (Nat.le_of_ble_eq_true rfl)⟩ (fun X S hl hR => ?_)
  have S : Std X E prog_9_method_32_code R6 7 2 := S
  show J X E 7 0 [(0, .ref (eb E + 91)), (1, .int a1)] [] SH mem
  unfold f_M_wipes at h
  refine j_aload_n S D_M_wipes_0 0 rfl rfl ?_
  refine j_iload_n S D_M_wipes_1 1 rfl rfl ?_
  refine j_iconst S D_M_wipes_2 ci_1 ?_
  obtain ⟨r_3, e_3, h⟩ := bpE h
  refine j_callVI (As := [.int a1, .int 1]) S D_M_wipes_3 mv_R6_107 (c_M_at0 (cxL X) E a1 1 e_3) (by decide) sh_Mod rfl rfl rfl rfl (Nat.le_of_ble_eq_true rfl) ?_
  refine j_istore_n S D_M_wipes_6 (lv := [(2, .int r_3), (0, .ref (eb E + 91)), (1, .int a1)]) rfl ⟨rfl, (Nat.le_of_ble_eq_true rfl)⟩ ?_
  refine j_aload_n S D_M_wipes_7 1 rfl rfl ?_
  refine j_iconst S D_M_wipes_8 ci_1 ?_
  obtain ⟨r_9, e_9, h⟩ := bpE h
  refine j_callVI (As := [.int 1]) S D_M_wipes_9 mv_R6_104 (c_M_counts (cxL X) E N 1 e_9) (by decide) sh_Mod rfl rfl rfl rfl (Nat.le_of_ble_eq_true rfl) ?_
  refine j_istore_n S D_M_wipes_12 (lv := [(3, .int r_9), (2, .int r_3), (0, .ref (eb E + 91)), (1, .int a1)]) rfl ⟨rfl, (Nat.le_of_ble_eq_true rfl)⟩ ?_
  refine j_aload_n S D_M_wipes_13 2 rfl rfl ?_
  refine j_getR S D_M_wipes_14 fl_R6_49 sh_Mod rfl ?_
  refine j_iconst S D_M_wipes_17 ci_0 ?_
  refine j_iload_n S D_M_wipes_18 1 rfl rfl ?_
  obtain ⟨m_19, hm_19, h⟩ := ltE h
  refine j_iast S D_M_wipes_19 sh_103 inbc_0_4 ?_
  refine j_mem hm_19 ?_
  refine j_aload_n S D_M_wipes_20 2 rfl rfl ?_
  refine j_getR S D_M_wipes_21 fl_R6_49 sh_Mod rfl ?_
  refine j_iconst S D_M_wipes_24 ci_1 ?_
  refine j_aload_n S D_M_wipes_25 2 rfl rfl ?_
  refine j_iload_n S D_M_wipes_26 3 rfl rfl ?_
  refine j_iconst S D_M_wipes_27 ci_2 ?_
  obtain ⟨r_28, e_28, h⟩ := bpE h
  refine j_callVI (As := [.int a1, .int 2]) S D_M_wipes_28 mv_R6_107 (c_M_at0 (cxL X) E a1 2 e_28) (by decide) sh_Mod rfl rfl rfl rfl (Nat.le_of_ble_eq_true rfl) ?_
  obtain ⟨m_31, hm_31, h⟩ := ltE h
  refine j_iast S D_M_wipes_31 sh_103 inbc_1_4 ?_
  refine j_mem hm_31 ?_
  refine j_aload_n S D_M_wipes_32 2 rfl rfl ?_
  refine j_getR S D_M_wipes_33 fl_R6_49 sh_Mod rfl ?_
  refine j_iconst S D_M_wipes_36 ci_2 ?_
  refine j_aload_n S D_M_wipes_37 2 rfl rfl ?_
  refine j_iload_n S D_M_wipes_38 3 rfl rfl ?_
  refine j_iconst S D_M_wipes_39 ci_3 ?_
  obtain ⟨r_40, e_40, h⟩ := bpE h
  refine j_callVI (As := [.int a1, .int 3]) S D_M_wipes_40 mv_R6_107 (c_M_at0 (cxL X) E a1 3 e_40) (by decide) sh_Mod rfl rfl rfl rfl (Nat.le_of_ble_eq_true rfl) ?_
  obtain ⟨m_43, hm_43, h⟩ := ltE h
  refine j_iast S D_M_wipes_43 sh_103 inbc_2_4 ?_
  refine j_mem hm_43 ?_
  refine j_iload_n S D_M_wipes_44 0 rfl rfl ?_
  refine j_if_ge S D_M_wipes_45 (fun c_45 => ?_) (fun c_45 => ?_)
  · have h := ifT c_45 h
    refine j_aload_n S D_M_wipes_52 2 rfl rfl ?_
    refine j_iload_n S D_M_wipes_53 0 rfl rfl ?_
    obtain ⟨r_54, m_54, e_54, h⟩ := bdE h
    refine j_callVI (As := [.int r_9]) S D_M_wipes_54 mv_R6_110 (c_M_worksOut (cxL X) E N r_9 e_54) (by decide) sh_Mod rfl rfl rfl rfl (Nat.le_of_ble_eq_true rfl) ?_
    refine j_iconst S D_M_wipes_57 ci_0 ?_
    refine j_iload_n S D_M_wipes_58 1 rfl rfl ?_
    obtain ⟨r_59, e_59, h⟩ := bpE h
    refine j_callSI (As := [.int r_54, .int 0, .int r_3]) S D_M_wipes_59 ms_R6_113 (c_M_within (cxL X) E r_54 0 r_3 (mem := m_54) e_59) (by decide) rfl rfl (Nat.le_of_ble_eq_true rfl) ?_
    refine j_istore S D_M_wipes_62 (lv := [(4, .int r_59), (3, .int r_9), (2, .int r_3), (0, .ref (eb E + 91)), (1, .int a1)]) rfl (Nat.le_of_ble_eq_true rfl) ?_
    refine j_ldc S D_M_wipes_64 co_R6_133 ?_
    refine j_aload_n S D_M_wipes_66 3 rfl rfl ?_
    refine j_getR S D_M_wipes_67 fl_R6_9 sh_Mod rfl ?_
    refine j_bipush S D_M_wipes_70 cb_7 ?_
    refine j_iload_n S D_M_wipes_72 4 rfl rfl ?_
    refine j_iconst S D_M_wipes_73 ci_3 ?_
    refine j_irem S D_M_wipes_74 nz_3 ?_
    refine j_iadd S D_M_wipes_75 ?_
    obtain ⟨g_76, h⟩ := gdE h
    refine j_iald S D_M_wipes_76 sh_92 g_76 ?_
    refine j_isub S D_M_wipes_77 ?_
    obtain ⟨x_78, hx_78, h⟩ := ltE h
    refine j_nm hx_78 ?_
    refine j_istore S D_M_wipes_78 (lv := [(5, .int x_78), (4, .int r_59), (3, .int r_9), (2, .int r_3), (0, .ref (eb E + 91)), (1, .int a1)]) rfl (Nat.le_of_ble_eq_true rfl) ?_
    refine j_iload S D_M_wipes_80 1 rfl ?_
    refine j_iload S D_M_wipes_82 0 rfl ?_
    refine j_dia (P := J X E 7 94 [(5, .int x_78), (4, .int r_59), (3, .int r_9), (2, .int r_3), (0, .ref (eb E + 91)), (1, .int a1)] [.int (if r_59 ≤ x_78 then r_59 else x_78)] SH m_54) (fun hj => ?_) ?_
    · refine j_icmp_le S D_M_wipes_84 (fun c_84 => ?_) (fun c_84 => ?_)
      · refine j_iload S D_M_wipes_92 1 rfl ?_
        exact j_jnT hj c_84
      · refine j_iload S D_M_wipes_87 0 rfl ?_
        refine j_goto S D_M_wipes_89 ?_
        exact j_jnF hj c_84
    obtain ⟨x_94, hx_94, h⟩ := ltE h
    refine j_nm hx_94 ?_
    refine j_istore S D_M_wipes_94 (lv := [(6, .int x_94), (5, .int x_78), (4, .int r_59), (3, .int r_9), (2, .int r_3), (0, .ref (eb E + 91)), (1, .int a1)]) rfl (Nat.le_of_ble_eq_true rfl) ?_
    refine j_aload_n S D_M_wipes_96 5 rfl rfl ?_
    refine j_getR S D_M_wipes_97 fl_R6_9 sh_Mod rfl ?_
    refine j_bipush S D_M_wipes_100 cb_7 ?_
    refine j_iload_n S D_M_wipes_102 6 rfl rfl ?_
    refine j_iconst S D_M_wipes_103 ci_3 ?_
    refine j_irem S D_M_wipes_104 nz_3 ?_
    refine j_iadd S D_M_wipes_105 ?_
    refine j_dup2 S D_M_wipes_106 ⟨rfl, rfl⟩ ?_
    refine j_iald S D_M_wipes_107 sh_92 g_76 ?_
    refine j_iload S D_M_wipes_108 0 rfl ?_
    refine j_iadd S D_M_wipes_110 ?_
    obtain ⟨m_111, hm_111, h⟩ := ltE h
    refine j_iast S D_M_wipes_111 sh_92 g_76 ?_
    refine j_mem hm_111 ?_
    refine j_aload_n S D_M_wipes_112 5 rfl rfl ?_
    refine j_getR S D_M_wipes_113 fl_R6_9 sh_Mod rfl ?_
    refine j_iconst S D_M_wipes_116 ci_4 ?_
    refine j_dup2 S D_M_wipes_117 ⟨rfl, rfl⟩ ?_
    refine j_iald S D_M_wipes_118 sh_92 inbc_4_1436 ?_
    refine j_iload_n S D_M_wipes_119 4 rfl rfl ?_
    refine j_iload S D_M_wipes_120 0 rfl ?_
    refine j_isub S D_M_wipes_122 ?_
    refine j_iadd S D_M_wipes_123 ?_
    obtain ⟨m_124, hm_124, h⟩ := ltE h
    refine j_iast S D_M_wipes_124 sh_92 inbc_4_1436 ?_
    refine j_mem hm_124 ?_
    refine j_aload_n S D_M_wipes_125 5 rfl rfl ?_
    refine j_getR S D_M_wipes_126 fl_R6_9 sh_Mod rfl ?_
    refine j_bipush S D_M_wipes_129 cb_10 ?_
    refine j_iconst S D_M_wipes_131 ci_4 ?_
    refine j_iload_n S D_M_wipes_132 6 rfl rfl ?_
    refine j_imul S D_M_wipes_133 ?_
    refine j_iadd S D_M_wipes_134 ?_
    refine j_iconst S D_M_wipes_135 ci_1 ?_
    refine j_iadd S D_M_wipes_136 ?_
    refine j_iconst S D_M_wipes_137 ci_0 ?_
    obtain ⟨g_138, h⟩ := gdE h
    obtain ⟨m_138, hm_138, h⟩ := ltE h
    refine j_iast S D_M_wipes_138 sh_92 g_138 ?_
    refine j_mem hm_138 ?_
    refine j_aload_n S D_M_wipes_139 5 rfl rfl ?_
    refine j_getR S D_M_wipes_140 fl_R6_9 sh_Mod rfl ?_
    refine j_bipush S D_M_wipes_143 cb_10 ?_
    refine j_iconst S D_M_wipes_145 ci_4 ?_
    refine j_iload_n S D_M_wipes_146 6 rfl rfl ?_
    refine j_imul S D_M_wipes_147 ?_
    refine j_iadd S D_M_wipes_148 ?_
    refine j_iconst S D_M_wipes_149 ci_2 ?_
    refine j_iadd S D_M_wipes_150 ?_
    refine j_iconst S D_M_wipes_151 ci_0 ?_
    obtain ⟨g_152, h⟩ := gdE h
    obtain ⟨m_152, hm_152, h⟩ := ltE h
    refine j_iast S D_M_wipes_152 sh_92 g_152 ?_
    refine j_mem hm_152 ?_
    refine j_aload_n S D_M_wipes_153 5 rfl rfl ?_
    refine j_getR S D_M_wipes_154 fl_R6_9 sh_Mod rfl ?_
    refine j_bipush S D_M_wipes_157 cb_10 ?_
    refine j_iconst S D_M_wipes_159 ci_4 ?_
    refine j_iload_n S D_M_wipes_160 6 rfl rfl ?_
    refine j_imul S D_M_wipes_161 ?_
    refine j_iadd S D_M_wipes_162 ?_
    refine j_iconst S D_M_wipes_163 ci_3 ?_
    refine j_iadd S D_M_wipes_164 ?_
    refine j_dup2 S D_M_wipes_165 ⟨rfl, rfl⟩ ?_
    obtain ⟨g_166, h⟩ := gdE h
    refine j_iald S D_M_wipes_166 sh_92 g_166 ?_
    refine j_iconst S D_M_wipes_167 ci_1 ?_
    refine j_iadd S D_M_wipes_168 ?_
    obtain ⟨m_169, hm_169, h⟩ := ltE h
    refine j_iast S D_M_wipes_169 sh_92 g_166 ?_
    refine j_mem hm_169 ?_
    exact rtV hR h _ _ D_M_wipes_170
  · have h := ifF c_45 h
    refine j_iload_n S D_M_wipes_48 1 rfl rfl ?_
    refine j_goto S D_M_wipes_49 ?_
    refine j_istore S D_M_wipes_62 (lv := [(4, .int r_3), (3, .int r_9), (2, .int r_3), (0, .ref (eb E + 91)), (1, .int a1)]) rfl (Nat.le_of_ble_eq_true rfl) ?_
    refine j_ldc S D_M_wipes_64 co_R6_133 ?_
    refine j_aload_n S D_M_wipes_66 3 rfl rfl ?_
    refine j_getR S D_M_wipes_67 fl_R6_9 sh_Mod rfl ?_
    refine j_bipush S D_M_wipes_70 cb_7 ?_
    refine j_iload_n S D_M_wipes_72 4 rfl rfl ?_
    refine j_iconst S D_M_wipes_73 ci_3 ?_
    refine j_irem S D_M_wipes_74 nz_3 ?_
    refine j_iadd S D_M_wipes_75 ?_
    obtain ⟨g_76, h⟩ := gdE h
    refine j_iald S D_M_wipes_76 sh_92 g_76 ?_
    refine j_isub S D_M_wipes_77 ?_
    obtain ⟨x_78, hx_78, h⟩ := ltE h
    refine j_nm hx_78 ?_
    refine j_istore S D_M_wipes_78 (lv := [(5, .int x_78), (4, .int r_3), (3, .int r_9), (2, .int r_3), (0, .ref (eb E + 91)), (1, .int a1)]) rfl (Nat.le_of_ble_eq_true rfl) ?_
    refine j_iload S D_M_wipes_80 1 rfl ?_
    refine j_iload S D_M_wipes_82 0 rfl ?_
    refine j_dia (P := J X E 7 94 [(5, .int x_78), (4, .int r_3), (3, .int r_9), (2, .int r_3), (0, .ref (eb E + 91)), (1, .int a1)] [.int (if r_3 ≤ x_78 then r_3 else x_78)] SH m_43) (fun hj => ?_) ?_
    · refine j_icmp_le S D_M_wipes_84 (fun c_84 => ?_) (fun c_84 => ?_)
      · refine j_iload S D_M_wipes_92 1 rfl ?_
        exact j_jnT hj c_84
      · refine j_iload S D_M_wipes_87 0 rfl ?_
        refine j_goto S D_M_wipes_89 ?_
        exact j_jnF hj c_84
    obtain ⟨x_94, hx_94, h⟩ := ltE h
    refine j_nm hx_94 ?_
    refine j_istore S D_M_wipes_94 (lv := [(6, .int x_94), (5, .int x_78), (4, .int r_3), (3, .int r_9), (2, .int r_3), (0, .ref (eb E + 91)), (1, .int a1)]) rfl (Nat.le_of_ble_eq_true rfl) ?_
    refine j_aload_n S D_M_wipes_96 5 rfl rfl ?_
    refine j_getR S D_M_wipes_97 fl_R6_9 sh_Mod rfl ?_
    refine j_bipush S D_M_wipes_100 cb_7 ?_
    refine j_iload_n S D_M_wipes_102 6 rfl rfl ?_
    refine j_iconst S D_M_wipes_103 ci_3 ?_
    refine j_irem S D_M_wipes_104 nz_3 ?_
    refine j_iadd S D_M_wipes_105 ?_
    refine j_dup2 S D_M_wipes_106 ⟨rfl, rfl⟩ ?_
    refine j_iald S D_M_wipes_107 sh_92 g_76 ?_
    refine j_iload S D_M_wipes_108 0 rfl ?_
    refine j_iadd S D_M_wipes_110 ?_
    obtain ⟨m_111, hm_111, h⟩ := ltE h
    refine j_iast S D_M_wipes_111 sh_92 g_76 ?_
    refine j_mem hm_111 ?_
    refine j_aload_n S D_M_wipes_112 5 rfl rfl ?_
    refine j_getR S D_M_wipes_113 fl_R6_9 sh_Mod rfl ?_
    refine j_iconst S D_M_wipes_116 ci_4 ?_
    refine j_dup2 S D_M_wipes_117 ⟨rfl, rfl⟩ ?_
    refine j_iald S D_M_wipes_118 sh_92 inbc_4_1436 ?_
    refine j_iload_n S D_M_wipes_119 4 rfl rfl ?_
    refine j_iload S D_M_wipes_120 0 rfl ?_
    refine j_isub S D_M_wipes_122 ?_
    refine j_iadd S D_M_wipes_123 ?_
    obtain ⟨m_124, hm_124, h⟩ := ltE h
    refine j_iast S D_M_wipes_124 sh_92 inbc_4_1436 ?_
    refine j_mem hm_124 ?_
    refine j_aload_n S D_M_wipes_125 5 rfl rfl ?_
    refine j_getR S D_M_wipes_126 fl_R6_9 sh_Mod rfl ?_
    refine j_bipush S D_M_wipes_129 cb_10 ?_
    refine j_iconst S D_M_wipes_131 ci_4 ?_
    refine j_iload_n S D_M_wipes_132 6 rfl rfl ?_
    refine j_imul S D_M_wipes_133 ?_
    refine j_iadd S D_M_wipes_134 ?_
    refine j_iconst S D_M_wipes_135 ci_1 ?_
    refine j_iadd S D_M_wipes_136 ?_
    refine j_iconst S D_M_wipes_137 ci_0 ?_
    obtain ⟨g_138, h⟩ := gdE h
    obtain ⟨m_138, hm_138, h⟩ := ltE h
    refine j_iast S D_M_wipes_138 sh_92 g_138 ?_
    refine j_mem hm_138 ?_
    refine j_aload_n S D_M_wipes_139 5 rfl rfl ?_
    refine j_getR S D_M_wipes_140 fl_R6_9 sh_Mod rfl ?_
    refine j_bipush S D_M_wipes_143 cb_10 ?_
    refine j_iconst S D_M_wipes_145 ci_4 ?_
    refine j_iload_n S D_M_wipes_146 6 rfl rfl ?_
    refine j_imul S D_M_wipes_147 ?_
    refine j_iadd S D_M_wipes_148 ?_
    refine j_iconst S D_M_wipes_149 ci_2 ?_
    refine j_iadd S D_M_wipes_150 ?_
    refine j_iconst S D_M_wipes_151 ci_0 ?_
    obtain ⟨g_152, h⟩ := gdE h
    obtain ⟨m_152, hm_152, h⟩ := ltE h
    refine j_iast S D_M_wipes_152 sh_92 g_152 ?_
    refine j_mem hm_152 ?_
    refine j_aload_n S D_M_wipes_153 5 rfl rfl ?_
    refine j_getR S D_M_wipes_154 fl_R6_9 sh_Mod rfl ?_
    refine j_bipush S D_M_wipes_157 cb_10 ?_
    refine j_iconst S D_M_wipes_159 ci_4 ?_
    refine j_iload_n S D_M_wipes_160 6 rfl rfl ?_
    refine j_imul S D_M_wipes_161 ?_
    refine j_iadd S D_M_wipes_162 ?_
    refine j_iconst S D_M_wipes_163 ci_3 ?_
    refine j_iadd S D_M_wipes_164 ?_
    refine j_dup2 S D_M_wipes_165 ⟨rfl, rfl⟩ ?_
    obtain ⟨g_166, h⟩ := gdE h
    refine j_iald S D_M_wipes_166 sh_92 g_166 ?_
    refine j_iconst S D_M_wipes_167 ci_1 ?_
    refine j_iadd S D_M_wipes_168 ?_
    obtain ⟨m_169, hm_169, h⟩ := ltE h
    refine j_iast S D_M_wipes_169 sh_92 g_166 ?_
    refine j_mem hm_169 ?_
    exact rtV hR h _ _ D_M_wipes_170

def y_M_hour : MethodName := ⟨"SandPictureModel", "hour", "()I"⟩
theorem D_M_hour_0 : decode prog_9_method_33_code 0 = .ok (.iconst 0, 1) ∧ 0 + 1 = 1 := by decide +kernel
theorem D_M_hour_1 : decode prog_9_method_33_code 1 = .ok (.istore_n 1, 1) ∧ 1 + 1 = 2 := by decide +kernel
theorem D_M_hour_2 : decode prog_9_method_33_code 2 = .ok (.iload_n 1, 1) ∧ 2 + 1 = 3 := by decide +kernel
theorem D_M_hour_3 : decode prog_9_method_33_code 3 = .ok (.aload_n 0, 1) ∧ 3 + 1 = 4 := by decide +kernel
theorem D_M_hour_4 : decode prog_9_method_33_code 4 = .ok (.getfield 9, 3) ∧ 4 + 3 = 7 := by decide +kernel
theorem D_M_hour_7 : decode prog_9_method_33_code 7 = .ok (.iconst 1, 1) ∧ 7 + 1 = 8 := by decide +kernel
theorem D_M_hour_8 : decode prog_9_method_33_code 8 = .ok (.iaload, 1) ∧ 8 + 1 = 9 := by decide +kernel
theorem D_M_hour_9 : decode prog_9_method_33_code 9 = .ok (.if_icmp .ge 21, 3) ∧ ((9 : Nat) : Int) + 21 = ((30 : Nat) : Int) ∧ 9 + 3 = 12 := by decide +kernel
theorem D_M_hour_12 : decode prog_9_method_33_code 12 = .ok (.aload_n 0, 1) ∧ 12 + 1 = 13 := by decide +kernel
theorem D_M_hour_13 : decode prog_9_method_33_code 13 = .ok (.iload_n 1, 1) ∧ 13 + 1 = 14 := by decide +kernel
theorem D_M_hour_14 : decode prog_9_method_33_code 14 = .ok (.aload_n 0, 1) ∧ 14 + 1 = 15 := by decide +kernel
theorem D_M_hour_15 : decode prog_9_method_33_code 15 = .ok (.invokevirtual 135, 3) ∧ 15 + 3 = 18 := by decide +kernel
theorem D_M_hour_18 : decode prog_9_method_33_code 18 = .ok (.bipush 10, 2) ∧ 18 + 2 = 20 := by decide +kernel
theorem D_M_hour_20 : decode prog_9_method_33_code 20 = .ok (.irem, 1) ∧ 20 + 1 = 21 := by decide +kernel
theorem D_M_hour_21 : decode prog_9_method_33_code 21 = .ok (.invokevirtual 139, 3) ∧ 21 + 3 = 24 := by decide +kernel
theorem D_M_hour_24 : decode prog_9_method_33_code 24 = .ok (.iinc 1 1, 3) ∧ 24 + 3 = 27 := by decide +kernel
theorem D_M_hour_27 : decode prog_9_method_33_code 27 = .ok (.goto (-25), 3) ∧ ((27 : Nat) : Int) + (-25) = ((2 : Nat) : Int) := by decide +kernel
theorem D_M_hour_30 : decode prog_9_method_33_code 30 = .ok (.aload_n 0, 1) ∧ 30 + 1 = 31 := by decide +kernel
theorem D_M_hour_31 : decode prog_9_method_33_code 31 = .ok (.invokevirtual 135, 3) ∧ 31 + 3 = 34 := by decide +kernel
theorem D_M_hour_34 : decode prog_9_method_33_code 34 = .ok (.bipush 100, 2) ∧ 34 + 2 = 36 := by decide +kernel
theorem D_M_hour_36 : decode prog_9_method_33_code 36 = .ok (.irem, 1) ∧ 36 + 1 = 37 := by decide +kernel
theorem D_M_hour_37 : decode prog_9_method_33_code 37 = .ok (.aload_n 0, 1) ∧ 37 + 1 = 38 := by decide +kernel
theorem D_M_hour_38 : decode prog_9_method_33_code 38 = .ok (.getfield 9, 3) ∧ 38 + 3 = 41 := by decide +kernel
theorem D_M_hour_41 : decode prog_9_method_33_code 41 = .ok (.iconst 3, 1) ∧ 41 + 1 = 42 := by decide +kernel
theorem D_M_hour_42 : decode prog_9_method_33_code 42 = .ok (.iaload, 1) ∧ 42 + 1 = 43 := by decide +kernel
theorem D_M_hour_43 : decode prog_9_method_33_code 43 = .ok (.if_icmp .ge 7, 3) ∧ ((43 : Nat) : Int) + 7 = ((50 : Nat) : Int) ∧ 43 + 3 = 46 := by decide +kernel
theorem D_M_hour_50 : decode prog_9_method_33_code 50 = .ok (.iconst 0, 1) ∧ 50 + 1 = 51 := by decide +kernel
theorem D_M_hour_51 : decode prog_9_method_33_code 51 = .ok (.istore_n 1, 1) ∧ 51 + 1 = 52 := by decide +kernel
theorem D_M_hour_52 : decode prog_9_method_33_code 52 = .ok (.iconst 0, 1) ∧ 52 + 1 = 53 := by decide +kernel
theorem D_M_hour_53 : decode prog_9_method_33_code 53 = .ok (.istore_n 2, 1) ∧ 53 + 1 = 54 := by decide +kernel
theorem D_M_hour_54 : decode prog_9_method_33_code 54 = .ok (.iload_n 2, 1) ∧ 54 + 1 = 55 := by decide +kernel
theorem D_M_hour_55 : decode prog_9_method_33_code 55 = .ok (.bipush 6, 2) ∧ 55 + 2 = 57 := by decide +kernel
theorem D_M_hour_57 : decode prog_9_method_33_code 57 = .ok (.if_icmp .ge 25, 3) ∧ ((57 : Nat) : Int) + 25 = ((82 : Nat) : Int) ∧ 57 + 3 = 60 := by decide +kernel
theorem D_M_hour_60 : decode prog_9_method_33_code 60 = .ok (.iload_n 1, 1) ∧ 60 + 1 = 61 := by decide +kernel
theorem D_M_hour_61 : decode prog_9_method_33_code 61 = .ok (.aload_n 0, 1) ∧ 61 + 1 = 62 := by decide +kernel
theorem D_M_hour_62 : decode prog_9_method_33_code 62 = .ok (.iload_n 2, 1) ∧ 62 + 1 = 63 := by decide +kernel
theorem D_M_hour_63 : decode prog_9_method_33_code 63 = .ok (.invokevirtual 146, 3) ∧ 63 + 3 = 66 := by decide +kernel
theorem D_M_hour_73 : decode prog_9_method_33_code 73 = .ok (.iconst 0, 1) ∧ 73 + 1 = 74 := by decide +kernel
theorem D_M_hour_69 : decode prog_9_method_33_code 69 = .ok (.iconst 1, 1) ∧ 69 + 1 = 70 := by decide +kernel
theorem D_M_hour_70 : decode prog_9_method_33_code 70 = .ok (.goto 4, 3) ∧ ((70 : Nat) : Int) + 4 = ((74 : Nat) : Int) := by decide +kernel
theorem D_M_hour_66 : decode prog_9_method_33_code 66 = .ok (.ifCond .eq 7, 3) ∧ ((66 : Nat) : Int) + 7 = ((73 : Nat) : Int) ∧ 66 + 3 = 69 := by decide +kernel
theorem D_M_hour_74 : decode prog_9_method_33_code 74 = .ok (.iadd, 1) ∧ 74 + 1 = 75 := by decide +kernel
theorem D_M_hour_75 : decode prog_9_method_33_code 75 = .ok (.istore_n 1, 1) ∧ 75 + 1 = 76 := by decide +kernel
theorem D_M_hour_76 : decode prog_9_method_33_code 76 = .ok (.iinc 2 1, 3) ∧ 76 + 3 = 79 := by decide +kernel
theorem D_M_hour_79 : decode prog_9_method_33_code 79 = .ok (.goto (-25), 3) ∧ ((79 : Nat) : Int) + (-25) = ((54 : Nat) : Int) := by decide +kernel
theorem D_M_hour_82 : decode prog_9_method_33_code 82 = .ok (.aload_n 0, 1) ∧ 82 + 1 = 83 := by decide +kernel
theorem D_M_hour_83 : decode prog_9_method_33_code 83 = .ok (.getfield 9, 3) ∧ 83 + 3 = 86 := by decide +kernel
theorem D_M_hour_86 : decode prog_9_method_33_code 86 = .ok (.iconst 5, 1) ∧ 86 + 1 = 87 := by decide +kernel
theorem D_M_hour_87 : decode prog_9_method_33_code 87 = .ok (.dup2, 1) ∧ 87 + 1 = 88 := by decide +kernel
theorem D_M_hour_88 : decode prog_9_method_33_code 88 = .ok (.iaload, 1) ∧ 88 + 1 = 89 := by decide +kernel
theorem D_M_hour_89 : decode prog_9_method_33_code 89 = .ok (.iload_n 1, 1) ∧ 89 + 1 = 90 := by decide +kernel
theorem D_M_hour_90 : decode prog_9_method_33_code 90 = .ok (.bipush 6, 2) ∧ 90 + 2 = 92 := by decide +kernel
theorem D_M_hour_99 : decode prog_9_method_33_code 99 = .ok (.iconst 0, 1) ∧ 99 + 1 = 100 := by decide +kernel
theorem D_M_hour_95 : decode prog_9_method_33_code 95 = .ok (.iconst 1, 1) ∧ 95 + 1 = 96 := by decide +kernel
theorem D_M_hour_96 : decode prog_9_method_33_code 96 = .ok (.goto 4, 3) ∧ ((96 : Nat) : Int) + 4 = ((100 : Nat) : Int) := by decide +kernel
theorem D_M_hour_92 : decode prog_9_method_33_code 92 = .ok (.if_icmp .ne 7, 3) ∧ ((92 : Nat) : Int) + 7 = ((99 : Nat) : Int) ∧ 92 + 3 = 95 := by decide +kernel
theorem D_M_hour_100 : decode prog_9_method_33_code 100 = .ok (.iadd, 1) ∧ 100 + 1 = 101 := by decide +kernel
theorem D_M_hour_101 : decode prog_9_method_33_code 101 = .ok (.iastore, 1) ∧ 101 + 1 = 102 := by decide +kernel
theorem D_M_hour_102 : decode prog_9_method_33_code 102 = .ok (.iconst 0, 1) ∧ 102 + 1 = 103 := by decide +kernel
theorem D_M_hour_103 : decode prog_9_method_33_code 103 = .ok (.istore_n 2, 1) ∧ 103 + 1 = 104 := by decide +kernel
theorem D_M_hour_104 : decode prog_9_method_33_code 104 = .ok (.iload_n 2, 1) ∧ 104 + 1 = 105 := by decide +kernel
theorem D_M_hour_105 : decode prog_9_method_33_code 105 = .ok (.bipush 6, 2) ∧ 105 + 2 = 107 := by decide +kernel
theorem D_M_hour_107 : decode prog_9_method_33_code 107 = .ok (.if_icmp .ge 22, 3) ∧ ((107 : Nat) : Int) + 22 = ((129 : Nat) : Int) ∧ 107 + 3 = 110 := by decide +kernel
theorem D_M_hour_110 : decode prog_9_method_33_code 110 = .ok (.aload_n 0, 1) ∧ 110 + 1 = 111 := by decide +kernel
theorem D_M_hour_111 : decode prog_9_method_33_code 111 = .ok (.iload_n 2, 1) ∧ 111 + 1 = 112 := by decide +kernel
theorem D_M_hour_112 : decode prog_9_method_33_code 112 = .ok (.invokevirtual 146, 3) ∧ 112 + 3 = 115 := by decide +kernel
theorem D_M_hour_115 : decode prog_9_method_33_code 115 = .ok (.ifCond .eq 8, 3) ∧ ((115 : Nat) : Int) + 8 = ((123 : Nat) : Int) ∧ 115 + 3 = 118 := by decide +kernel
theorem D_M_hour_123 : decode prog_9_method_33_code 123 = .ok (.iinc 2 1, 3) ∧ 123 + 3 = 126 := by decide +kernel
theorem D_M_hour_126 : decode prog_9_method_33_code 126 = .ok (.goto (-22), 3) ∧ ((126 : Nat) : Int) + (-22) = ((104 : Nat) : Int) := by decide +kernel
theorem D_M_hour_118 : decode prog_9_method_33_code 118 = .ok (.aload_n 0, 1) ∧ 118 + 1 = 119 := by decide +kernel
theorem D_M_hour_119 : decode prog_9_method_33_code 119 = .ok (.iload_n 2, 1) ∧ 119 + 1 = 120 := by decide +kernel
theorem D_M_hour_120 : decode prog_9_method_33_code 120 = .ok (.invokevirtual 149, 3) ∧ 120 + 3 = 123 := by decide +kernel
theorem D_M_hour_129 : decode prog_9_method_33_code 129 = .ok (.aload_n 0, 1) ∧ 129 + 1 = 130 := by decide +kernel
theorem D_M_hour_130 : decode prog_9_method_33_code 130 = .ok (.getfield 9, 3) ∧ 130 + 3 = 133 := by decide +kernel
theorem D_M_hour_133 : decode prog_9_method_33_code 133 = .ok (.iconst 2, 1) ∧ 133 + 1 = 134 := by decide +kernel
theorem D_M_hour_134 : decode prog_9_method_33_code 134 = .ok (.dup2, 1) ∧ 134 + 1 = 135 := by decide +kernel
theorem D_M_hour_135 : decode prog_9_method_33_code 135 = .ok (.iaload, 1) ∧ 135 + 1 = 136 := by decide +kernel
theorem D_M_hour_136 : decode prog_9_method_33_code 136 = .ok (.iconst 1, 1) ∧ 136 + 1 = 137 := by decide +kernel
theorem D_M_hour_137 : decode prog_9_method_33_code 137 = .ok (.iadd, 1) ∧ 137 + 1 = 138 := by decide +kernel
theorem D_M_hour_138 : decode prog_9_method_33_code 138 = .ok (.iastore, 1) ∧ 138 + 1 = 139 := by decide +kernel
theorem D_M_hour_139 : decode prog_9_method_33_code 139 = .ok (.iload_n 1, 1) ∧ 139 + 1 = 140 := by decide +kernel
theorem D_M_hour_140 : decode prog_9_method_33_code 140 = .ok (.ireturn, 1) := by decide +kernel
theorem D_M_hour_46 : decode prog_9_method_33_code 46 = .ok (.aload_n 0, 1) ∧ 46 + 1 = 47 := by decide +kernel
theorem D_M_hour_47 : decode prog_9_method_33_code 47 = .ok (.invokevirtual 143, 3) ∧ 47 + 3 = 50 := by decide +kernel
def f_M_hour_L2 (N : Nat)  : Nat → Int32 → Mm → Option (Int32 × Mm)
  | 0, _, _ => none
  | n + 1, b1, mem => if mem 92 (ix 1) ≤ b1 then some (b1, mem) else bd (f_M_draw mem) fun r_15 m_15 => bp (f_M_pours N b1 (r_15 - r_15 / 10 * 10) m_15) fun m_21 => f_M_hour_L2 N n (b1 + 1) m_21
def f_M_hour_L54  : Nat → Int32 → Int32 → Mm → Option (Int32 × Int32)
  | 0, _, _, _ => none
  | n + 1, b1, b2, mem => if 6 ≤ b2 then some (b1, b2) else bp (f_M_isDone b2 mem) fun r_63 => lt (b1 + (if r_63 = 0 then (0 : Int32) else 1)) fun x_75 => f_M_hour_L54 n x_75 (b2 + 1) mem
def f_M_hour_L104 (N : Nat)  : Nat → Int32 → Int32 → Mm → Option (Int32 × Mm)
  | 0, _, _, _ => none
  | n + 1, b1, b2, mem => if 6 ≤ b2 then some (b2, mem) else bp (f_M_isDone b2 mem) fun r_112 => if r_112 = 0 then f_M_hour_L104 N n b1 (b2 + 1) mem else bp (f_M_wipes N b2 mem) fun m_120 => f_M_hour_L104 N n b1 (b2 + 1) m_120
def f_M_hour (N : Nat)  (mem : Mm) : Option (Int32 × Mm) := bd (f_M_hour_L2 N N 0 mem) fun y_2 m_2 => bd (f_M_draw m_2) fun r_31 m_31 => if m_31 92 (ix 3) ≤ (r_31 - r_31 / 100 * 100) then bp (f_M_hour_L54 N 0 0 m_31) fun y_54 => lt (mst m_31 92 (ix 5) ((m_31 92 (ix 5)) + (if y_54.1 = 6 then (1 : Int32) else 0))) fun m_101 => bd (f_M_hour_L104 N N y_54.1 0 m_101) fun y_104 m_104 => lt (mst m_104 92 (ix 2) ((m_104 92 (ix 2)) + 1)) fun m_138 => some (y_54.1, m_138) else bp (f_M_blows m_31) fun m_47 => bp (f_M_hour_L54 N 0 0 m_47) fun y_54 => lt (mst m_47 92 (ix 5) ((m_47 92 (ix 5)) + (if y_54.1 = 6 then (1 : Int32) else 0))) fun m_101 => bd (f_M_hour_L104 N N y_54.1 0 m_101) fun y_104 m_104 => lt (mst m_104 92 (ix 2) ((m_104 92 (ix 2)) + 1)) fun m_138 => some (y_54.1, m_138)
theorem L_M_hour_2 {X : Cx} {E : En} (S : Std X E prog_9_method_33_code R6 3 4) (N : Nat)  : ∀ (n : Nat) (b1 : Int32) (mem : Mm) (z : Int32) (m2 : Mm), f_M_hour_L2 N n b1 mem = some (z, m2) → J X E 3 30 [(0, .ref (eb E + 91)), (1, .int z)] [] SH m2 → J X E 3 2 [(0, .ref (eb E + 91)), (1, .int b1)] [] SH mem := by
  intro n
  induction n with
  | zero =>
    intro b1 mem z m2 h hk; cases h
  | succ n ih =>
    intro b1 mem z m2 h hk
    rw [f_M_hour_L2] at h
    refine j_iload_n S D_M_hour_2 1 rfl rfl ?_
    refine j_aload_n S D_M_hour_3 0 rfl rfl ?_
    refine j_getR S D_M_hour_4 fl_R6_9 sh_Mod rfl ?_
    refine j_iconst S D_M_hour_7 ci_1 ?_
    refine j_iald S D_M_hour_8 sh_92 inbc_1_1436 ?_
    refine j_icmp_ge S D_M_hour_9 (fun c_9 => ?_) (fun c_9 => ?_)
    · have h := ifT c_9 h
      cases h
      exact j_locals [0, 1] rfl hk
    · have h := ifF c_9 h
      refine j_aload_n S D_M_hour_12 0 rfl rfl ?_
      refine j_iload_n S D_M_hour_13 1 rfl rfl ?_
      refine j_aload_n S D_M_hour_14 0 rfl rfl ?_
      obtain ⟨r_15, m_15, e_15, h⟩ := bdE h
      refine j_callVI (As := []) S D_M_hour_15 mv_R6_135 (c_M_draw (cxL X) E e_15) (by decide) sh_Mod rfl rfl rfl rfl (Nat.le_of_ble_eq_true rfl) ?_
      refine j_bipush S D_M_hour_18 cb_10 ?_
      refine j_irem S D_M_hour_20 nz_10 ?_
      obtain ⟨m_21, e_21, h⟩ := bpE h
      refine j_callVV (As := [.int b1, .int (r_15 - r_15 / 10 * 10)]) S D_M_hour_21 mv_R6_139 (c_M_pours (cxL X) E N b1 (r_15 - r_15 / 10 * 10) e_21) (by decide) sh_Mod rfl rfl rfl rfl (Nat.le_of_ble_eq_true rfl) ?_
      refine j_iinc S D_M_hour_24 1 rfl (congrArg (fun z => b1 + z) ci_1) (lv := [(1, .int (b1 + 1)), (0, .ref (eb E + 91))]) rfl (Nat.le_of_ble_eq_true rfl) ?_
      refine j_goto S D_M_hour_27 ?_
      refine j_locals [1, 0] rfl (ih (b1 + 1) m_21 _ _ h hk)
theorem L_M_hour_54 {X : Cx} {E : En} (S : Std X E prog_9_method_33_code R6 3 4)  {mem : Mm} : ∀ (n : Nat) (b1 : Int32) (b2 : Int32) (z : Int32 × Int32), f_M_hour_L54 n b1 b2 mem = some z → J X E 3 82 [(0, .ref (eb E + 91)), (1, .int z.1), (2, .int z.2)] [] SH mem → J X E 3 54 [(0, .ref (eb E + 91)), (1, .int b1), (2, .int b2)] [] SH mem := by
  intro n
  induction n with
  | zero =>
    intro b1 b2 z h hk; cases h
  | succ n ih =>
    intro b1 b2 z h hk
    rw [f_M_hour_L54] at h
    refine j_iload_n S D_M_hour_54 2 rfl rfl ?_
    refine j_bipush S D_M_hour_55 cb_6 ?_
    refine j_icmp_ge S D_M_hour_57 (fun c_57 => ?_) (fun c_57 => ?_)
    · have h := ifT c_57 h
      cases h
      exact j_locals [0, 1, 2] rfl hk
    · have h := ifF c_57 h
      refine j_iload_n S D_M_hour_60 1 rfl rfl ?_
      refine j_aload_n S D_M_hour_61 0 rfl rfl ?_
      refine j_iload_n S D_M_hour_62 2 rfl rfl ?_
      obtain ⟨r_63, e_63, h⟩ := bpE h
      refine j_callVI (As := [.int b2]) S D_M_hour_63 mv_R6_146 (c_M_isDone (cxL X) E b2 e_63) (by decide) sh_Mod rfl rfl rfl rfl (Nat.le_of_ble_eq_true rfl) ?_
      refine j_dia (P := J X E 3 74 [(0, .ref (eb E + 91)), (1, .int b1), (2, .int b2)] [.int (if r_63 = 0 then (0 : Int32) else 1), .int b1] SH mem) (fun hj => ?_) ?_
      · refine j_if_eq S D_M_hour_66 (fun c_66 => ?_) (fun c_66 => ?_)
        · refine j_iconst S D_M_hour_73 ci_0 ?_
          exact j_jnT hj c_66
        · refine j_iconst S D_M_hour_69 ci_1 ?_
          refine j_goto S D_M_hour_70 ?_
          exact j_jnF hj c_66
      refine j_iadd S D_M_hour_74 ?_
      obtain ⟨x_75, hx_75, h⟩ := ltE h
      refine j_nm hx_75 ?_
      refine j_istore_n S D_M_hour_75 (lv := [(1, .int x_75), (0, .ref (eb E + 91)), (2, .int b2)]) rfl ⟨rfl, (Nat.le_of_ble_eq_true rfl)⟩ ?_
      refine j_iinc S D_M_hour_76 2 rfl (congrArg (fun z => b2 + z) ci_1) (lv := [(2, .int (b2 + 1)), (1, .int x_75), (0, .ref (eb E + 91))]) rfl (Nat.le_of_ble_eq_true rfl) ?_
      refine j_goto S D_M_hour_79 ?_
      refine j_locals [2, 1, 0] rfl (ih x_75 (b2 + 1) _ h hk)
theorem L_M_hour_104 {X : Cx} {E : En} (S : Std X E prog_9_method_33_code R6 3 4) (N : Nat)  : ∀ (n : Nat) (b1 : Int32) (b2 : Int32) (mem : Mm) (z : Int32) (m2 : Mm), f_M_hour_L104 N n b1 b2 mem = some (z, m2) → J X E 3 129 [(0, .ref (eb E + 91)), (1, .int b1), (2, .int z)] [] SH m2 → J X E 3 104 [(0, .ref (eb E + 91)), (1, .int b1), (2, .int b2)] [] SH mem := by
  intro n
  induction n with
  | zero =>
    intro b1 b2 mem z m2 h hk; cases h
  | succ n ih =>
    intro b1 b2 mem z m2 h hk
    rw [f_M_hour_L104] at h
    refine j_iload_n S D_M_hour_104 2 rfl rfl ?_
    refine j_bipush S D_M_hour_105 cb_6 ?_
    refine j_icmp_ge S D_M_hour_107 (fun c_107 => ?_) (fun c_107 => ?_)
    · have h := ifT c_107 h
      cases h
      exact j_locals [0, 1, 2] rfl hk
    · have h := ifF c_107 h
      refine j_aload_n S D_M_hour_110 0 rfl rfl ?_
      refine j_iload_n S D_M_hour_111 2 rfl rfl ?_
      obtain ⟨r_112, e_112, h⟩ := bpE h
      refine j_callVI (As := [.int b2]) S D_M_hour_112 mv_R6_146 (c_M_isDone (cxL X) E b2 e_112) (by decide) sh_Mod rfl rfl rfl rfl (Nat.le_of_ble_eq_true rfl) ?_
      refine j_if_eq S D_M_hour_115 (fun c_115 => ?_) (fun c_115 => ?_)
      · have h := ifT c_115 h
        refine j_iinc S D_M_hour_123 2 rfl (congrArg (fun z => b2 + z) ci_1) (lv := [(2, .int (b2 + 1)), (0, .ref (eb E + 91)), (1, .int b1)]) rfl (Nat.le_of_ble_eq_true rfl) ?_
        refine j_goto S D_M_hour_126 ?_
        refine j_locals [1, 2, 0] rfl (ih b1 (b2 + 1) mem _ _ h hk)
      · have h := ifF c_115 h
        refine j_aload_n S D_M_hour_118 0 rfl rfl ?_
        refine j_iload_n S D_M_hour_119 2 rfl rfl ?_
        obtain ⟨m_120, e_120, h⟩ := bpE h
        refine j_callVV (As := [.int b2]) S D_M_hour_120 mv_R6_149 (c_M_wipes (cxL X) E N b2 e_120) (by decide) sh_Mod rfl rfl rfl rfl (Nat.le_of_ble_eq_true rfl) ?_
        refine j_iinc S D_M_hour_123 2 rfl (congrArg (fun z => b2 + z) ci_1) (lv := [(2, .int (b2 + 1)), (0, .ref (eb E + 91)), (1, .int b1)]) rfl (Nat.le_of_ble_eq_true rfl) ?_
        refine j_goto S D_M_hour_126 ?_
        refine j_locals [1, 2, 0] rfl (ih b1 (b2 + 1) m_120 _ _ h hk)
theorem c_M_hour (l : Launch) (E : En) (N : Nat)  {mem : Mm} {r : Int32} {m2 : Mm} (h : f_M_hour N mem = some (r, m2)) : CtI l E 4 y_M_hour prog_9_method_33_code 3 (some .int) [.ref (eb E + 91)] SH mem r m2 := by
  refine mk_CtI ⟨by decide, (Nat.le_of_ble_eq_true rfl)⟩ (fun X S hl hR => ?_)
  have S : Std X E prog_9_method_33_code R6 3 4 := S
  show J X E 3 0 [(0, .ref (eb E + 91))] [] SH mem
  unfold f_M_hour at h
  refine j_iconst S D_M_hour_0 ci_0 ?_
  refine j_istore_n S D_M_hour_1 (lv := [(1, .int 0), (0, .ref (eb E + 91))]) rfl ⟨rfl, (Nat.le_of_ble_eq_true rfl)⟩ ?_
  refine j_locals [1, 0] rfl ?_
  obtain ⟨y_2, m_2, e_2, h⟩ := bdE h
  refine L_M_hour_2 S N N 0 mem _ _ e_2 ?_
  refine j_aload_n S D_M_hour_30 0 rfl rfl ?_
  obtain ⟨r_31, m_31, e_31, h⟩ := bdE h
  refine j_callVI (As := []) S D_M_hour_31 mv_R6_135 (c_M_draw (cxL X) E e_31) (by decide) sh_Mod rfl rfl rfl rfl (Nat.le_of_ble_eq_true rfl) ?_
  refine j_bipush S D_M_hour_34 cb_100 ?_
  refine j_irem S D_M_hour_36 nz_100 ?_
  refine j_aload_n S D_M_hour_37 0 rfl rfl ?_
  refine j_getR S D_M_hour_38 fl_R6_9 sh_Mod rfl ?_
  refine j_iconst S D_M_hour_41 ci_3 ?_
  refine j_iald S D_M_hour_42 sh_92 inbc_3_1436 ?_
  refine j_icmp_ge S D_M_hour_43 (fun c_43 => ?_) (fun c_43 => ?_)
  · have h := ifT c_43 h
    refine j_iconst S D_M_hour_50 ci_0 ?_
    refine j_istore_n S D_M_hour_51 (lv := [(1, .int 0), (0, .ref (eb E + 91))]) rfl ⟨rfl, (Nat.le_of_ble_eq_true rfl)⟩ ?_
    refine j_iconst S D_M_hour_52 ci_0 ?_
    refine j_istore_n S D_M_hour_53 (lv := [(2, .int 0), (1, .int 0), (0, .ref (eb E + 91))]) rfl ⟨rfl, (Nat.le_of_ble_eq_true rfl)⟩ ?_
    refine j_locals [2, 1, 0] rfl ?_
    obtain ⟨y_54, e_54, h⟩ := bpE h
    refine L_M_hour_54 S  N 0 0 _ e_54 ?_
    refine j_aload_n S D_M_hour_82 0 rfl rfl ?_
    refine j_getR S D_M_hour_83 fl_R6_9 sh_Mod rfl ?_
    refine j_iconst S D_M_hour_86 ci_5 ?_
    refine j_dup2 S D_M_hour_87 ⟨rfl, rfl⟩ ?_
    refine j_iald S D_M_hour_88 sh_92 inbc_5_1436 ?_
    refine j_iload_n S D_M_hour_89 1 rfl rfl ?_
    refine j_bipush S D_M_hour_90 cb_6 ?_
    refine j_dia (P := J X E 3 100 [(0, .ref (eb E + 91)), (1, .int y_54.1), (2, .int y_54.2)] [.int (if y_54.1 = 6 then (1 : Int32) else 0), .int (m_31 92 (ix 5)), .int 5, .ref (eb E + 92)] SH m_31) (fun hj => ?_) ?_
    · refine j_icmp_ne S D_M_hour_92 (fun c_92 => ?_) (fun c_92 => ?_)
      · refine j_iconst S D_M_hour_99 ci_0 ?_
        exact j_jnF hj c_92
      · refine j_iconst S D_M_hour_95 ci_1 ?_
        refine j_goto S D_M_hour_96 ?_
        exact j_jnT hj c_92
    refine j_iadd S D_M_hour_100 ?_
    obtain ⟨m_101, hm_101, h⟩ := ltE h
    refine j_iast S D_M_hour_101 sh_92 inbc_5_1436 ?_
    refine j_mem hm_101 ?_
    refine j_iconst S D_M_hour_102 ci_0 ?_
    refine j_istore_n S D_M_hour_103 (lv := [(2, .int 0), (0, .ref (eb E + 91)), (1, .int y_54.1)]) rfl ⟨rfl, (Nat.le_of_ble_eq_true rfl)⟩ ?_
    refine j_locals [1, 2, 0] rfl ?_
    obtain ⟨y_104, m_104, e_104, h⟩ := bdE h
    refine L_M_hour_104 S N N y_54.1 0 m_101 _ _ e_104 ?_
    refine j_aload_n S D_M_hour_129 0 rfl rfl ?_
    refine j_getR S D_M_hour_130 fl_R6_9 sh_Mod rfl ?_
    refine j_iconst S D_M_hour_133 ci_2 ?_
    refine j_dup2 S D_M_hour_134 ⟨rfl, rfl⟩ ?_
    refine j_iald S D_M_hour_135 sh_92 inbc_2_1436 ?_
    refine j_iconst S D_M_hour_136 ci_1 ?_
    refine j_iadd S D_M_hour_137 ?_
    obtain ⟨m_138, hm_138, h⟩ := ltE h
    refine j_iast S D_M_hour_138 sh_92 inbc_2_1436 ?_
    refine j_mem hm_138 ?_
    refine j_iload_n S D_M_hour_139 1 rfl rfl ?_
    exact rtM hR h _ _ D_M_hour_140
  · have h := ifF c_43 h
    refine j_aload_n S D_M_hour_46 0 rfl rfl ?_
    obtain ⟨m_47, e_47, h⟩ := bpE h
    refine j_callVV (As := []) S D_M_hour_47 mv_R6_143 (c_M_blows (cxL X) E e_47) (by decide) sh_Mod rfl rfl rfl rfl (Nat.le_of_ble_eq_true rfl) ?_
    refine j_iconst S D_M_hour_50 ci_0 ?_
    refine j_istore_n S D_M_hour_51 (lv := [(1, .int 0), (0, .ref (eb E + 91))]) rfl ⟨rfl, (Nat.le_of_ble_eq_true rfl)⟩ ?_
    refine j_iconst S D_M_hour_52 ci_0 ?_
    refine j_istore_n S D_M_hour_53 (lv := [(2, .int 0), (1, .int 0), (0, .ref (eb E + 91))]) rfl ⟨rfl, (Nat.le_of_ble_eq_true rfl)⟩ ?_
    refine j_locals [2, 1, 0] rfl ?_
    obtain ⟨y_54, e_54, h⟩ := bpE h
    refine L_M_hour_54 S  N 0 0 _ e_54 ?_
    refine j_aload_n S D_M_hour_82 0 rfl rfl ?_
    refine j_getR S D_M_hour_83 fl_R6_9 sh_Mod rfl ?_
    refine j_iconst S D_M_hour_86 ci_5 ?_
    refine j_dup2 S D_M_hour_87 ⟨rfl, rfl⟩ ?_
    refine j_iald S D_M_hour_88 sh_92 inbc_5_1436 ?_
    refine j_iload_n S D_M_hour_89 1 rfl rfl ?_
    refine j_bipush S D_M_hour_90 cb_6 ?_
    refine j_dia (P := J X E 3 100 [(0, .ref (eb E + 91)), (1, .int y_54.1), (2, .int y_54.2)] [.int (if y_54.1 = 6 then (1 : Int32) else 0), .int (m_47 92 (ix 5)), .int 5, .ref (eb E + 92)] SH m_47) (fun hj => ?_) ?_
    · refine j_icmp_ne S D_M_hour_92 (fun c_92 => ?_) (fun c_92 => ?_)
      · refine j_iconst S D_M_hour_99 ci_0 ?_
        exact j_jnF hj c_92
      · refine j_iconst S D_M_hour_95 ci_1 ?_
        refine j_goto S D_M_hour_96 ?_
        exact j_jnT hj c_92
    refine j_iadd S D_M_hour_100 ?_
    obtain ⟨m_101, hm_101, h⟩ := ltE h
    refine j_iast S D_M_hour_101 sh_92 inbc_5_1436 ?_
    refine j_mem hm_101 ?_
    refine j_iconst S D_M_hour_102 ci_0 ?_
    refine j_istore_n S D_M_hour_103 (lv := [(2, .int 0), (0, .ref (eb E + 91)), (1, .int y_54.1)]) rfl ⟨rfl, (Nat.le_of_ble_eq_true rfl)⟩ ?_
    refine j_locals [1, 2, 0] rfl ?_
    obtain ⟨y_104, m_104, e_104, h⟩ := bdE h
    refine L_M_hour_104 S N N y_54.1 0 m_101 _ _ e_104 ?_
    refine j_aload_n S D_M_hour_129 0 rfl rfl ?_
    refine j_getR S D_M_hour_130 fl_R6_9 sh_Mod rfl ?_
    refine j_iconst S D_M_hour_133 ci_2 ?_
    refine j_dup2 S D_M_hour_134 ⟨rfl, rfl⟩ ?_
    refine j_iald S D_M_hour_135 sh_92 inbc_2_1436 ?_
    refine j_iconst S D_M_hour_136 ci_1 ?_
    refine j_iadd S D_M_hour_137 ?_
    obtain ⟨m_138, hm_138, h⟩ := ltE h
    refine j_iast S D_M_hour_138 sh_92 inbc_2_1436 ?_
    refine j_mem hm_138 ?_
    refine j_iload_n S D_M_hour_139 1 rfl rfl ?_
    exact rtM hR h _ _ D_M_hour_140

def y_M_goesOn : MethodName := ⟨"SandPictureModel", "goesOn", "(I)I"⟩
theorem D_M_goesOn_0 : decode prog_9_method_34_code 0 = .ok (.iconst 0, 1) ∧ 0 + 1 = 1 := by decide +kernel
theorem D_M_goesOn_1 : decode prog_9_method_34_code 1 = .ok (.istore_n 2, 1) ∧ 1 + 1 = 2 := by decide +kernel
theorem D_M_goesOn_2 : decode prog_9_method_34_code 2 = .ok (.iconst 0, 1) ∧ 2 + 1 = 3 := by decide +kernel
theorem D_M_goesOn_3 : decode prog_9_method_34_code 3 = .ok (.istore_n 3, 1) ∧ 3 + 1 = 4 := by decide +kernel
theorem D_M_goesOn_4 : decode prog_9_method_34_code 4 = .ok (.iload_n 3, 1) ∧ 4 + 1 = 5 := by decide +kernel
theorem D_M_goesOn_5 : decode prog_9_method_34_code 5 = .ok (.iload_n 1, 1) ∧ 5 + 1 = 6 := by decide +kernel
theorem D_M_goesOn_6 : decode prog_9_method_34_code 6 = .ok (.if_icmp .ge 16, 3) ∧ ((6 : Nat) : Int) + 16 = ((22 : Nat) : Int) ∧ 6 + 3 = 9 := by decide +kernel
theorem D_M_goesOn_9 : decode prog_9_method_34_code 9 = .ok (.iload_n 2, 1) ∧ 9 + 1 = 10 := by decide +kernel
theorem D_M_goesOn_10 : decode prog_9_method_34_code 10 = .ok (.aload_n 0, 1) ∧ 10 + 1 = 11 := by decide +kernel
theorem D_M_goesOn_11 : decode prog_9_method_34_code 11 = .ok (.invokevirtual 153, 3) ∧ 11 + 3 = 14 := by decide +kernel
theorem D_M_goesOn_14 : decode prog_9_method_34_code 14 = .ok (.iadd, 1) ∧ 14 + 1 = 15 := by decide +kernel
theorem D_M_goesOn_15 : decode prog_9_method_34_code 15 = .ok (.istore_n 2, 1) ∧ 15 + 1 = 16 := by decide +kernel
theorem D_M_goesOn_16 : decode prog_9_method_34_code 16 = .ok (.iinc 3 1, 3) ∧ 16 + 3 = 19 := by decide +kernel
theorem D_M_goesOn_19 : decode prog_9_method_34_code 19 = .ok (.goto (-15), 3) ∧ ((19 : Nat) : Int) + (-15) = ((4 : Nat) : Int) := by decide +kernel
theorem D_M_goesOn_22 : decode prog_9_method_34_code 22 = .ok (.iload_n 2, 1) ∧ 22 + 1 = 23 := by decide +kernel
theorem D_M_goesOn_23 : decode prog_9_method_34_code 23 = .ok (.ireturn, 1) := by decide +kernel
def f_M_goesOn_L4 (N : Nat)  : Nat → Int32 → Int32 → Int32 → Mm → Option ((Int32 × Int32) × Mm)
  | 0, _, _, _, _ => none
  | n + 1, b1, b2, b3, mem => if b1 ≤ b3 then some ((b2, b3), mem) else bd (f_M_hour N mem) fun r_11 m_11 => lt (b2 + r_11) fun x_15 => f_M_goesOn_L4 N n b1 x_15 (b3 + 1) m_11
def f_M_goesOn (N : Nat) (a1 : Int32) (mem : Mm) : Option (Int32 × Mm) := bd (f_M_goesOn_L4 N N a1 0 0 mem) fun y_4 m_4 => some (y_4.1, m_4)
theorem L_M_goesOn_4 {X : Cx} {E : En} (S : Std X E prog_9_method_34_code R6 4 5) (N : Nat)  : ∀ (n : Nat) (b1 : Int32) (b2 : Int32) (b3 : Int32) (mem : Mm) (z : Int32 × Int32) (m2 : Mm), f_M_goesOn_L4 N n b1 b2 b3 mem = some (z, m2) → J X E 4 22 [(0, .ref (eb E + 91)), (1, .int b1), (2, .int z.1), (3, .int z.2)] [] SH m2 → J X E 4 4 [(0, .ref (eb E + 91)), (1, .int b1), (2, .int b2), (3, .int b3)] [] SH mem := by
  intro n
  induction n with
  | zero =>
    intro b1 b2 b3 mem z m2 h hk; cases h
  | succ n ih =>
    intro b1 b2 b3 mem z m2 h hk
    rw [f_M_goesOn_L4] at h
    refine j_iload_n S D_M_goesOn_4 3 rfl rfl ?_
    refine j_iload_n S D_M_goesOn_5 1 rfl rfl ?_
    refine j_icmp_ge S D_M_goesOn_6 (fun c_6 => ?_) (fun c_6 => ?_)
    · have h := ifT c_6 h
      cases h
      exact j_locals [0, 1, 2, 3] rfl hk
    · have h := ifF c_6 h
      refine j_iload_n S D_M_goesOn_9 2 rfl rfl ?_
      refine j_aload_n S D_M_goesOn_10 0 rfl rfl ?_
      obtain ⟨r_11, m_11, e_11, h⟩ := bdE h
      refine j_callVI (As := []) S D_M_goesOn_11 mv_R6_153 (c_M_hour (cxL X) E N e_11) (by decide) sh_Mod rfl rfl rfl rfl (Nat.le_of_ble_eq_true rfl) ?_
      refine j_iadd S D_M_goesOn_14 ?_
      obtain ⟨x_15, hx_15, h⟩ := ltE h
      refine j_nm hx_15 ?_
      refine j_istore_n S D_M_goesOn_15 (lv := [(2, .int x_15), (0, .ref (eb E + 91)), (1, .int b1), (3, .int b3)]) rfl ⟨rfl, (Nat.le_of_ble_eq_true rfl)⟩ ?_
      refine j_iinc S D_M_goesOn_16 3 rfl (congrArg (fun z => b3 + z) ci_1) (lv := [(3, .int (b3 + 1)), (2, .int x_15), (0, .ref (eb E + 91)), (1, .int b1)]) rfl (Nat.le_of_ble_eq_true rfl) ?_
      refine j_goto S D_M_goesOn_19 ?_
      refine j_locals [2, 3, 1, 0] rfl (ih b1 x_15 (b3 + 1) m_11 _ _ h hk)
theorem c_M_goesOn (l : Launch) (E : En) (N : Nat) (a1 : Int32) {mem : Mm} {r : Int32} {m2 : Mm} (h : f_M_goesOn N a1 mem = some (r, m2)) : CtI l E 5 y_M_goesOn prog_9_method_34_code 4 (some .int) [.ref (eb E + 91), .int a1] SH mem r m2 := by
  refine mk_CtI ⟨by decide, (Nat.le_of_ble_eq_true rfl)⟩ (fun X S hl hR => ?_)
  have S : Std X E prog_9_method_34_code R6 4 5 := S
  show J X E 4 0 [(0, .ref (eb E + 91)), (1, .int a1)] [] SH mem
  unfold f_M_goesOn at h
  refine j_iconst S D_M_goesOn_0 ci_0 ?_
  refine j_istore_n S D_M_goesOn_1 (lv := [(2, .int 0), (0, .ref (eb E + 91)), (1, .int a1)]) rfl ⟨rfl, (Nat.le_of_ble_eq_true rfl)⟩ ?_
  refine j_iconst S D_M_goesOn_2 ci_0 ?_
  refine j_istore_n S D_M_goesOn_3 (lv := [(3, .int 0), (2, .int 0), (0, .ref (eb E + 91)), (1, .int a1)]) rfl ⟨rfl, (Nat.le_of_ble_eq_true rfl)⟩ ?_
  refine j_locals [2, 3, 1, 0] rfl ?_
  obtain ⟨y_4, m_4, e_4, h⟩ := bdE h
  refine L_M_goesOn_4 S N N a1 0 0 mem _ _ e_4 ?_
  refine j_iload_n S D_M_goesOn_22 2 rfl rfl ?_
  exact rtM hR h _ _ D_M_goesOn_23

def y_M_hours : MethodName := ⟨"SandPictureModel", "hours", "(I)I"⟩
theorem D_M_hours_0 : decode prog_9_method_35_code 0 = .ok (.iload_n 1, 1) ∧ 0 + 1 = 1 := by decide +kernel
theorem D_M_hours_1 : decode prog_9_method_35_code 1 = .ok (.iconst 1, 1) ∧ 1 + 1 = 2 := by decide +kernel
theorem D_M_hours_2 : decode prog_9_method_35_code 2 = .ok (.bipush 100, 2) ∧ 2 + 2 = 4 := by decide +kernel
theorem D_M_hours_4 : decode prog_9_method_35_code 4 = .ok (.invokestatic 79, 3) ∧ 4 + 3 = 7 := by decide +kernel
theorem D_M_hours_7 : decode prog_9_method_35_code 7 = .ok (.ifCond .eq 25, 3) ∧ ((7 : Nat) : Int) + 25 = ((32 : Nat) : Int) ∧ 7 + 3 = 10 := by decide +kernel
theorem D_M_hours_32 : decode prog_9_method_35_code 32 = .ok (.ldc 87, 2) ∧ 32 + 2 = 34 := by decide +kernel
theorem D_M_hours_34 : decode prog_9_method_35_code 34 = .ok (.ireturn, 1) := by decide +kernel
theorem D_M_hours_10 : decode prog_9_method_35_code 10 = .ok (.aload_n 0, 1) ∧ 10 + 1 = 11 := by decide +kernel
theorem D_M_hours_11 : decode prog_9_method_35_code 11 = .ok (.sipush 9999, 3) ∧ 11 + 3 = 14 := by decide +kernel
theorem D_M_hours_14 : decode prog_9_method_35_code 14 = .ok (.aload_n 0, 1) ∧ 14 + 1 = 15 := by decide +kernel
theorem D_M_hours_15 : decode prog_9_method_35_code 15 = .ok (.getfield 9, 3) ∧ 15 + 3 = 18 := by decide +kernel
theorem D_M_hours_18 : decode prog_9_method_35_code 18 = .ok (.iconst 2, 1) ∧ 18 + 1 = 19 := by decide +kernel
theorem D_M_hours_19 : decode prog_9_method_35_code 19 = .ok (.iaload, 1) ∧ 19 + 1 = 20 := by decide +kernel
theorem D_M_hours_20 : decode prog_9_method_35_code 20 = .ok (.isub, 1) ∧ 20 + 1 = 21 := by decide +kernel
theorem D_M_hours_21 : decode prog_9_method_35_code 21 = .ok (.iconst 0, 1) ∧ 21 + 1 = 22 := by decide +kernel
theorem D_M_hours_22 : decode prog_9_method_35_code 22 = .ok (.iload_n 1, 1) ∧ 22 + 1 = 23 := by decide +kernel
theorem D_M_hours_23 : decode prog_9_method_35_code 23 = .ok (.invokestatic 113, 3) ∧ 23 + 3 = 26 := by decide +kernel
theorem D_M_hours_26 : decode prog_9_method_35_code 26 = .ok (.invokevirtual 156, 3) ∧ 26 + 3 = 29 := by decide +kernel
theorem D_M_hours_29 : decode prog_9_method_35_code 29 = .ok (.goto 5, 3) ∧ ((29 : Nat) : Int) + 5 = ((34 : Nat) : Int) := by decide +kernel
def f_M_hours (N : Nat) (a1 : Int32) (mem : Mm) : Option (Int32 × Mm) := bp (f_M_in a1 1 100) fun r_4 => if r_4 = 0 then some ((-1000000001), mem) else bp (f_M_within (9999 - (mem 92 (ix 2))) 0 a1) fun r_23 => bd (f_M_goesOn N r_23 mem) fun r_26 m_26 => some (r_26, m_26)
theorem c_M_hours (l : Launch) (E : En) (N : Nat) (a1 : Int32) {mem : Mm} {r : Int32} {m2 : Mm} (h : f_M_hours N a1 mem = some (r, m2)) : CtI l E 6 y_M_hours prog_9_method_35_code 2 (some .int) [.ref (eb E + 91), .int a1] SH mem r m2 := by
  refine mk_CtI ⟨by decide, (Nat.le_of_ble_eq_true rfl)⟩ (fun X S hl hR => ?_)
  have S : Std X E prog_9_method_35_code R6 2 6 := S
  show J X E 2 0 [(0, .ref (eb E + 91)), (1, .int a1)] [] SH mem
  unfold f_M_hours at h
  refine j_iload_n S D_M_hours_0 1 rfl rfl ?_
  refine j_iconst S D_M_hours_1 ci_1 ?_
  refine j_bipush S D_M_hours_2 cb_100 ?_
  obtain ⟨r_4, e_4, h⟩ := bpE h
  refine j_callSI (As := [.int a1, .int 1, .int 100]) S D_M_hours_4 ms_R6_79 (c_M_in (cxL X) E a1 1 100 (mem := mem) e_4) (by decide) rfl rfl (Nat.le_of_ble_eq_true rfl) ?_
  refine j_if_eq S D_M_hours_7 (fun c_7 => ?_) (fun c_7 => ?_)
  · have h := ifT c_7 h
    refine j_ldc S D_M_hours_32 co_R6_87 ?_
    exact rtM hR h _ _ D_M_hours_34
  · have h := ifF c_7 h
    refine j_aload_n S D_M_hours_10 0 rfl rfl ?_
    refine j_sipush S D_M_hours_11 cs_9999 ?_
    refine j_aload_n S D_M_hours_14 0 rfl rfl ?_
    refine j_getR S D_M_hours_15 fl_R6_9 sh_Mod rfl ?_
    refine j_iconst S D_M_hours_18 ci_2 ?_
    refine j_iald S D_M_hours_19 sh_92 inbc_2_1436 ?_
    refine j_isub S D_M_hours_20 ?_
    refine j_iconst S D_M_hours_21 ci_0 ?_
    refine j_iload_n S D_M_hours_22 1 rfl rfl ?_
    obtain ⟨r_23, e_23, h⟩ := bpE h
    refine j_callSI (As := [.int (9999 - (mem 92 (ix 2))), .int 0, .int a1]) S D_M_hours_23 ms_R6_113 (c_M_within (cxL X) E (9999 - (mem 92 (ix 2))) 0 a1 (mem := mem) e_23) (by decide) rfl rfl (Nat.le_of_ble_eq_true rfl) ?_
    obtain ⟨r_26, m_26, e_26, h⟩ := bdE h
    refine j_callVI (As := [.int r_23]) S D_M_hours_26 mv_R6_156 (c_M_goesOn (cxL X) E N r_23 e_26) (by decide) sh_Mod rfl rfl rfl rfl (Nat.le_of_ble_eq_true rfl) ?_
    refine j_goto S D_M_hours_29 ?_
    exact rtM hR h _ _ D_M_hours_34

def y_M_sumOf : MethodName := ⟨"SandPictureModel", "sumOf", "(I)I"⟩
theorem D_M_sumOf_0 : decode prog_9_method_36_code 0 = .ok (.iconst 0, 1) ∧ 0 + 1 = 1 := by decide +kernel
theorem D_M_sumOf_1 : decode prog_9_method_36_code 1 = .ok (.istore_n 2, 1) ∧ 1 + 1 = 2 := by decide +kernel
theorem D_M_sumOf_2 : decode prog_9_method_36_code 2 = .ok (.iconst 0, 1) ∧ 2 + 1 = 3 := by decide +kernel
theorem D_M_sumOf_3 : decode prog_9_method_36_code 3 = .ok (.istore_n 3, 1) ∧ 3 + 1 = 4 := by decide +kernel
theorem D_M_sumOf_4 : decode prog_9_method_36_code 4 = .ok (.iload_n 3, 1) ∧ 4 + 1 = 5 := by decide +kernel
theorem D_M_sumOf_5 : decode prog_9_method_36_code 5 = .ok (.bipush 6, 2) ∧ 5 + 2 = 7 := by decide +kernel
theorem D_M_sumOf_7 : decode prog_9_method_36_code 7 = .ok (.if_icmp .ge 18, 3) ∧ ((7 : Nat) : Int) + 18 = ((25 : Nat) : Int) ∧ 7 + 3 = 10 := by decide +kernel
theorem D_M_sumOf_10 : decode prog_9_method_36_code 10 = .ok (.iload_n 2, 1) ∧ 10 + 1 = 11 := by decide +kernel
theorem D_M_sumOf_11 : decode prog_9_method_36_code 11 = .ok (.aload_n 0, 1) ∧ 11 + 1 = 12 := by decide +kernel
theorem D_M_sumOf_12 : decode prog_9_method_36_code 12 = .ok (.iload_n 3, 1) ∧ 12 + 1 = 13 := by decide +kernel
theorem D_M_sumOf_13 : decode prog_9_method_36_code 13 = .ok (.iload_n 1, 1) ∧ 13 + 1 = 14 := by decide +kernel
theorem D_M_sumOf_14 : decode prog_9_method_36_code 14 = .ok (.invokevirtual 107, 3) ∧ 14 + 3 = 17 := by decide +kernel
theorem D_M_sumOf_17 : decode prog_9_method_36_code 17 = .ok (.iadd, 1) ∧ 17 + 1 = 18 := by decide +kernel
theorem D_M_sumOf_18 : decode prog_9_method_36_code 18 = .ok (.istore_n 2, 1) ∧ 18 + 1 = 19 := by decide +kernel
theorem D_M_sumOf_19 : decode prog_9_method_36_code 19 = .ok (.iinc 3 1, 3) ∧ 19 + 3 = 22 := by decide +kernel
theorem D_M_sumOf_22 : decode prog_9_method_36_code 22 = .ok (.goto (-18), 3) ∧ ((22 : Nat) : Int) + (-18) = ((4 : Nat) : Int) := by decide +kernel
theorem D_M_sumOf_25 : decode prog_9_method_36_code 25 = .ok (.iload_n 2, 1) ∧ 25 + 1 = 26 := by decide +kernel
theorem D_M_sumOf_26 : decode prog_9_method_36_code 26 = .ok (.ireturn, 1) := by decide +kernel
def f_M_sumOf_L4  : Nat → Int32 → Int32 → Int32 → Mm → Option (Int32 × Int32)
  | 0, _, _, _, _ => none
  | n + 1, b1, b2, b3, mem => if 6 ≤ b3 then some (b2, b3) else bp (f_M_at0 b3 b1 mem) fun r_14 => lt (b2 + r_14) fun x_18 => f_M_sumOf_L4 n b1 x_18 (b3 + 1) mem
def f_M_sumOf (N : Nat) (a1 : Int32) (mem : Mm) : Option (Int32) := bp (f_M_sumOf_L4 N a1 0 0 mem) fun y_4 => some y_4.1
theorem L_M_sumOf_4 {X : Cx} {E : En} (S : Std X E prog_9_method_36_code R6 4 1)  {mem : Mm} : ∀ (n : Nat) (b1 : Int32) (b2 : Int32) (b3 : Int32) (z : Int32 × Int32), f_M_sumOf_L4 n b1 b2 b3 mem = some z → J X E 4 25 [(0, .ref (eb E + 91)), (1, .int b1), (2, .int z.1), (3, .int z.2)] [] SH mem → J X E 4 4 [(0, .ref (eb E + 91)), (1, .int b1), (2, .int b2), (3, .int b3)] [] SH mem := by
  intro n
  induction n with
  | zero =>
    intro b1 b2 b3 z h hk; cases h
  | succ n ih =>
    intro b1 b2 b3 z h hk
    rw [f_M_sumOf_L4] at h
    refine j_iload_n S D_M_sumOf_4 3 rfl rfl ?_
    refine j_bipush S D_M_sumOf_5 cb_6 ?_
    refine j_icmp_ge S D_M_sumOf_7 (fun c_7 => ?_) (fun c_7 => ?_)
    · have h := ifT c_7 h
      cases h
      exact j_locals [0, 1, 2, 3] rfl hk
    · have h := ifF c_7 h
      refine j_iload_n S D_M_sumOf_10 2 rfl rfl ?_
      refine j_aload_n S D_M_sumOf_11 0 rfl rfl ?_
      refine j_iload_n S D_M_sumOf_12 3 rfl rfl ?_
      refine j_iload_n S D_M_sumOf_13 1 rfl rfl ?_
      obtain ⟨r_14, e_14, h⟩ := bpE h
      refine j_callVI (As := [.int b3, .int b1]) S D_M_sumOf_14 mv_R6_107 (c_M_at0 (cxL X) E b3 b1 e_14) (by decide) sh_Mod rfl rfl rfl rfl (Nat.le_of_ble_eq_true rfl) ?_
      refine j_iadd S D_M_sumOf_17 ?_
      obtain ⟨x_18, hx_18, h⟩ := ltE h
      refine j_nm hx_18 ?_
      refine j_istore_n S D_M_sumOf_18 (lv := [(2, .int x_18), (0, .ref (eb E + 91)), (1, .int b1), (3, .int b3)]) rfl ⟨rfl, (Nat.le_of_ble_eq_true rfl)⟩ ?_
      refine j_iinc S D_M_sumOf_19 3 rfl (congrArg (fun z => b3 + z) ci_1) (lv := [(3, .int (b3 + 1)), (2, .int x_18), (0, .ref (eb E + 91)), (1, .int b1)]) rfl (Nat.le_of_ble_eq_true rfl) ?_
      refine j_goto S D_M_sumOf_22 ?_
      refine j_locals [2, 3, 1, 0] rfl (ih b1 x_18 (b3 + 1) _ h hk)
theorem c_M_sumOf (l : Launch) (E : En) (N : Nat) (a1 : Int32) {mem : Mm} {r : Int32} (h : f_M_sumOf N a1 mem = some r) : CtI l E 1 y_M_sumOf prog_9_method_36_code 4 (some .int) [.ref (eb E + 91), .int a1] SH mem r mem := by
  refine mk_CtI ⟨by decide, (Nat.le_of_ble_eq_true rfl)⟩ (fun X S hl hR => ?_)
  have S : Std X E prog_9_method_36_code R6 4 1 := S
  show J X E 4 0 [(0, .ref (eb E + 91)), (1, .int a1)] [] SH mem
  unfold f_M_sumOf at h
  refine j_iconst S D_M_sumOf_0 ci_0 ?_
  refine j_istore_n S D_M_sumOf_1 (lv := [(2, .int 0), (0, .ref (eb E + 91)), (1, .int a1)]) rfl ⟨rfl, (Nat.le_of_ble_eq_true rfl)⟩ ?_
  refine j_iconst S D_M_sumOf_2 ci_0 ?_
  refine j_istore_n S D_M_sumOf_3 (lv := [(3, .int 0), (2, .int 0), (0, .ref (eb E + 91)), (1, .int a1)]) rfl ⟨rfl, (Nat.le_of_ble_eq_true rfl)⟩ ?_
  refine j_locals [2, 3, 1, 0] rfl ?_
  obtain ⟨y_4, e_4, h⟩ := bpE h
  refine L_M_sumOf_4 S  N a1 0 0 _ e_4 ?_
  refine j_iload_n S D_M_sumOf_25 2 rfl rfl ?_
  exact rtI hR h _ _ D_M_sumOf_26

def y_M_grains : MethodName := ⟨"SandPictureModel", "grains", "(I)I"⟩
theorem D_M_grains_0 : decode prog_9_method_37_code 0 = .ok (.iload_n 1, 1) ∧ 0 + 1 = 1 := by decide +kernel
theorem D_M_grains_1 : decode prog_9_method_37_code 1 = .ok (.tableswitch 88 0 7 #[47, 54, 60, 60, 60, 69, 75, 81], 47) := by decide +kernel
theorem D_M_grains_48 : decode prog_9_method_37_code 48 = .ok (.aload_n 0, 1) ∧ 48 + 1 = 49 := by decide +kernel
theorem D_M_grains_49 : decode prog_9_method_37_code 49 = .ok (.getfield 9, 3) ∧ 49 + 3 = 52 := by decide +kernel
theorem D_M_grains_52 : decode prog_9_method_37_code 52 = .ok (.iconst 4, 1) ∧ 52 + 1 = 53 := by decide +kernel
theorem D_M_grains_53 : decode prog_9_method_37_code 53 = .ok (.iaload, 1) ∧ 53 + 1 = 54 := by decide +kernel
theorem D_M_grains_54 : decode prog_9_method_37_code 54 = .ok (.ireturn, 1) := by decide +kernel
theorem D_M_grains_55 : decode prog_9_method_37_code 55 = .ok (.aload_n 0, 1) ∧ 55 + 1 = 56 := by decide +kernel
theorem D_M_grains_56 : decode prog_9_method_37_code 56 = .ok (.iconst 1, 1) ∧ 56 + 1 = 57 := by decide +kernel
theorem D_M_grains_57 : decode prog_9_method_37_code 57 = .ok (.invokevirtual 159, 3) ∧ 57 + 3 = 60 := by decide +kernel
theorem D_M_grains_60 : decode prog_9_method_37_code 60 = .ok (.ireturn, 1) := by decide +kernel
theorem D_M_grains_61 : decode prog_9_method_37_code 61 = .ok (.aload_n 0, 1) ∧ 61 + 1 = 62 := by decide +kernel
theorem D_M_grains_62 : decode prog_9_method_37_code 62 = .ok (.getfield 9, 3) ∧ 62 + 3 = 65 := by decide +kernel
theorem D_M_grains_65 : decode prog_9_method_37_code 65 = .ok (.iconst 5, 1) ∧ 65 + 1 = 66 := by decide +kernel
theorem D_M_grains_66 : decode prog_9_method_37_code 66 = .ok (.iload_n 1, 1) ∧ 66 + 1 = 67 := by decide +kernel
theorem D_M_grains_67 : decode prog_9_method_37_code 67 = .ok (.iadd, 1) ∧ 67 + 1 = 68 := by decide +kernel
theorem D_M_grains_68 : decode prog_9_method_37_code 68 = .ok (.iaload, 1) ∧ 68 + 1 = 69 := by decide +kernel
theorem D_M_grains_69 : decode prog_9_method_37_code 69 = .ok (.ireturn, 1) := by decide +kernel
theorem D_M_grains_70 : decode prog_9_method_37_code 70 = .ok (.aload_n 0, 1) ∧ 70 + 1 = 71 := by decide +kernel
theorem D_M_grains_71 : decode prog_9_method_37_code 71 = .ok (.iconst 2, 1) ∧ 71 + 1 = 72 := by decide +kernel
theorem D_M_grains_72 : decode prog_9_method_37_code 72 = .ok (.invokevirtual 159, 3) ∧ 72 + 3 = 75 := by decide +kernel
theorem D_M_grains_75 : decode prog_9_method_37_code 75 = .ok (.ireturn, 1) := by decide +kernel
theorem D_M_grains_76 : decode prog_9_method_37_code 76 = .ok (.aload_n 0, 1) ∧ 76 + 1 = 77 := by decide +kernel
theorem D_M_grains_77 : decode prog_9_method_37_code 77 = .ok (.iconst 3, 1) ∧ 77 + 1 = 78 := by decide +kernel
theorem D_M_grains_78 : decode prog_9_method_37_code 78 = .ok (.invokevirtual 159, 3) ∧ 78 + 3 = 81 := by decide +kernel
theorem D_M_grains_81 : decode prog_9_method_37_code 81 = .ok (.ireturn, 1) := by decide +kernel
theorem D_M_grains_82 : decode prog_9_method_37_code 82 = .ok (.aload_n 0, 1) ∧ 82 + 1 = 83 := by decide +kernel
theorem D_M_grains_83 : decode prog_9_method_37_code 83 = .ok (.getfield 9, 3) ∧ 83 + 3 = 86 := by decide +kernel
theorem D_M_grains_86 : decode prog_9_method_37_code 86 = .ok (.iconst 5, 1) ∧ 86 + 1 = 87 := by decide +kernel
theorem D_M_grains_87 : decode prog_9_method_37_code 87 = .ok (.iaload, 1) ∧ 87 + 1 = 88 := by decide +kernel
theorem D_M_grains_88 : decode prog_9_method_37_code 88 = .ok (.ireturn, 1) := by decide +kernel
theorem D_M_grains_89 : decode prog_9_method_37_code 89 = .ok (.ldc 87, 2) ∧ 89 + 2 = 91 := by decide +kernel
theorem D_M_grains_91 : decode prog_9_method_37_code 91 = .ok (.ireturn, 1) := by decide +kernel
theorem D_M_grains_1o : decode prog_9_method_37_code 1 = .ok (.tableswitch 88 0 7 #[47, 54, 60, 60, 60, 69, 75, 81], 47) ∧ ((1 : Nat) : Int) + 88 = ((89 : Nat) : Int) := by decide +kernel
def f_M_grains (N : Nat) (a1 : Int32) (mem : Mm) : Option (Int32) := if a1 = 0 then some (mem 92 (ix 4)) else if a1 = 1 then bp (f_M_sumOf N 1 mem) fun r_57 => some r_57 else if a1 = 2 then if inb (5 + a1) 1436 = true then some (mem 92 (ix (5 + a1))) else none else if a1 = 3 then if inb (5 + a1) 1436 = true then some (mem 92 (ix (5 + a1))) else none else if a1 = 4 then if inb (5 + a1) 1436 = true then some (mem 92 (ix (5 + a1))) else none else if a1 = 5 then bp (f_M_sumOf N 2 mem) fun r_72 => some r_72 else if a1 = 6 then bp (f_M_sumOf N 3 mem) fun r_78 => some r_78 else if a1 = 7 then some (mem 92 (ix 5)) else some (-1000000001)
theorem c_M_grains (l : Launch) (E : En) (N : Nat) (a1 : Int32) {mem : Mm} {r : Int32} (h : f_M_grains N a1 mem = some r) : CtI l E 2 y_M_grains prog_9_method_37_code 2 (some .int) [.ref (eb E + 91), .int a1] SH mem r mem := by
  refine mk_CtI ⟨by decide, (Nat.le_of_ble_eq_true rfl)⟩ (fun X S hl hR => ?_)
  have S : Std X E prog_9_method_37_code R6 2 2 := S
  show J X E 2 0 [(0, .ref (eb E + 91)), (1, .int a1)] [] SH mem
  unfold f_M_grains at h
  refine j_iload_n S D_M_grains_0 1 rfl rfl ?_
  by_cases c_1_0 : a1 = 0
  · have h := ifT c_1_0 h
    refine j_tabIn (tg := 48) (off := 47) S D_M_grains_1 0 c_1_0 (by decide +kernel) ?_
    refine j_aload_n S D_M_grains_48 0 rfl rfl ?_
    refine j_getR S D_M_grains_49 fl_R6_9 sh_Mod rfl ?_
    refine j_iconst S D_M_grains_52 ci_4 ?_
    refine j_iald S D_M_grains_53 sh_92 inbc_4_1436 ?_
    exact rtI hR h _ _ D_M_grains_54
  · have h := ifF c_1_0 h
    by_cases c_1_1 : a1 = 1
    · have h := ifT c_1_1 h
      refine j_tabIn (tg := 55) (off := 54) S D_M_grains_1 1 c_1_1 (by decide +kernel) ?_
      refine j_aload_n S D_M_grains_55 0 rfl rfl ?_
      refine j_iconst S D_M_grains_56 ci_1 ?_
      obtain ⟨r_57, e_57, h⟩ := bpE h
      refine j_callVI (As := [.int 1]) S D_M_grains_57 mv_R6_159 (c_M_sumOf (cxL X) E N 1 e_57) (by decide) sh_Mod rfl rfl rfl rfl (Nat.le_of_ble_eq_true rfl) ?_
      exact rtI hR h _ _ D_M_grains_60
    · have h := ifF c_1_1 h
      by_cases c_1_2 : a1 = 2
      · have h := ifT c_1_2 h
        refine j_tabIn (tg := 61) (off := 60) S D_M_grains_1 2 c_1_2 (by decide +kernel) ?_
        refine j_aload_n S D_M_grains_61 0 rfl rfl ?_
        refine j_getR S D_M_grains_62 fl_R6_9 sh_Mod rfl ?_
        refine j_iconst S D_M_grains_65 ci_5 ?_
        refine j_iload_n S D_M_grains_66 1 rfl rfl ?_
        refine j_iadd S D_M_grains_67 ?_
        obtain ⟨g_68, h⟩ := gdE h
        refine j_iald S D_M_grains_68 sh_92 g_68 ?_
        exact rtI hR h _ _ D_M_grains_69
      · have h := ifF c_1_2 h
        by_cases c_1_3 : a1 = 3
        · have h := ifT c_1_3 h
          refine j_tabIn (tg := 61) (off := 60) S D_M_grains_1 3 c_1_3 (by decide +kernel) ?_
          refine j_aload_n S D_M_grains_61 0 rfl rfl ?_
          refine j_getR S D_M_grains_62 fl_R6_9 sh_Mod rfl ?_
          refine j_iconst S D_M_grains_65 ci_5 ?_
          refine j_iload_n S D_M_grains_66 1 rfl rfl ?_
          refine j_iadd S D_M_grains_67 ?_
          obtain ⟨g_68, h⟩ := gdE h
          refine j_iald S D_M_grains_68 sh_92 g_68 ?_
          exact rtI hR h _ _ D_M_grains_69
        · have h := ifF c_1_3 h
          by_cases c_1_4 : a1 = 4
          · have h := ifT c_1_4 h
            refine j_tabIn (tg := 61) (off := 60) S D_M_grains_1 4 c_1_4 (by decide +kernel) ?_
            refine j_aload_n S D_M_grains_61 0 rfl rfl ?_
            refine j_getR S D_M_grains_62 fl_R6_9 sh_Mod rfl ?_
            refine j_iconst S D_M_grains_65 ci_5 ?_
            refine j_iload_n S D_M_grains_66 1 rfl rfl ?_
            refine j_iadd S D_M_grains_67 ?_
            obtain ⟨g_68, h⟩ := gdE h
            refine j_iald S D_M_grains_68 sh_92 g_68 ?_
            exact rtI hR h _ _ D_M_grains_69
          · have h := ifF c_1_4 h
            by_cases c_1_5 : a1 = 5
            · have h := ifT c_1_5 h
              refine j_tabIn (tg := 70) (off := 69) S D_M_grains_1 5 c_1_5 (by decide +kernel) ?_
              refine j_aload_n S D_M_grains_70 0 rfl rfl ?_
              refine j_iconst S D_M_grains_71 ci_2 ?_
              obtain ⟨r_72, e_72, h⟩ := bpE h
              refine j_callVI (As := [.int 2]) S D_M_grains_72 mv_R6_159 (c_M_sumOf (cxL X) E N 2 e_72) (by decide) sh_Mod rfl rfl rfl rfl (Nat.le_of_ble_eq_true rfl) ?_
              exact rtI hR h _ _ D_M_grains_75
            · have h := ifF c_1_5 h
              by_cases c_1_6 : a1 = 6
              · have h := ifT c_1_6 h
                refine j_tabIn (tg := 76) (off := 75) S D_M_grains_1 6 c_1_6 (by decide +kernel) ?_
                refine j_aload_n S D_M_grains_76 0 rfl rfl ?_
                refine j_iconst S D_M_grains_77 ci_3 ?_
                obtain ⟨r_78, e_78, h⟩ := bpE h
                refine j_callVI (As := [.int 3]) S D_M_grains_78 mv_R6_159 (c_M_sumOf (cxL X) E N 3 e_78) (by decide) sh_Mod rfl rfl rfl rfl (Nat.le_of_ble_eq_true rfl) ?_
                exact rtI hR h _ _ D_M_grains_81
              · have h := ifF c_1_6 h
                by_cases c_1_7 : a1 = 7
                · have h := ifT c_1_7 h
                  refine j_tabIn (tg := 82) (off := 81) S D_M_grains_1 7 c_1_7 (by decide +kernel) ?_
                  refine j_aload_n S D_M_grains_82 0 rfl rfl ?_
                  refine j_getR S D_M_grains_83 fl_R6_9 sh_Mod rfl ?_
                  refine j_iconst S D_M_grains_86 ci_5 ?_
                  refine j_iald S D_M_grains_87 sh_92 inbc_5_1436 ?_
                  exact rtI hR h _ _ D_M_grains_88
                · have h := ifF c_1_7 h
                  refine j_tabOut S D_M_grains_1o (tout_0_7 c_1_0 c_1_1 c_1_2 c_1_3 c_1_4 c_1_5 c_1_6 c_1_7) ?_
                  refine j_ldc S D_M_grains_89 co_R6_87 ?_
                  exact rtI hR h _ _ D_M_grains_91

def y_M_sneeze : MethodName := ⟨"SandPictureModel", "sneeze", "(I)I"⟩
theorem D_M_sneeze_0 : decode prog_9_method_38_code 0 = .ok (.iload_n 1, 1) ∧ 0 + 1 = 1 := by decide +kernel
theorem D_M_sneeze_1 : decode prog_9_method_38_code 1 = .ok (.invokestatic 83, 3) ∧ 1 + 3 = 4 := by decide +kernel
theorem D_M_sneeze_4 : decode prog_9_method_38_code 4 = .ok (.ifCond .ne 6, 3) ∧ ((4 : Nat) : Int) + 6 = ((10 : Nat) : Int) ∧ 4 + 3 = 7 := by decide +kernel
theorem D_M_sneeze_10 : decode prog_9_method_38_code 10 = .ok (.aload_n 0, 1) ∧ 10 + 1 = 11 := by decide +kernel
theorem D_M_sneeze_11 : decode prog_9_method_38_code 11 = .ok (.bipush 10, 2) ∧ 11 + 2 = 13 := by decide +kernel
theorem D_M_sneeze_13 : decode prog_9_method_38_code 13 = .ok (.iconst 4, 1) ∧ 13 + 1 = 14 := by decide +kernel
theorem D_M_sneeze_14 : decode prog_9_method_38_code 14 = .ok (.iload_n 1, 1) ∧ 14 + 1 = 15 := by decide +kernel
theorem D_M_sneeze_15 : decode prog_9_method_38_code 15 = .ok (.imul, 1) ∧ 15 + 1 = 16 := by decide +kernel
theorem D_M_sneeze_16 : decode prog_9_method_38_code 16 = .ok (.iadd, 1) ∧ 16 + 1 = 17 := by decide +kernel
theorem D_M_sneeze_17 : decode prog_9_method_38_code 17 = .ok (.iconst 1, 1) ∧ 17 + 1 = 18 := by decide +kernel
theorem D_M_sneeze_18 : decode prog_9_method_38_code 18 = .ok (.iadd, 1) ∧ 18 + 1 = 19 := by decide +kernel
theorem D_M_sneeze_19 : decode prog_9_method_38_code 19 = .ok (.iconst 0, 1) ∧ 19 + 1 = 20 := by decide +kernel
theorem D_M_sneeze_20 : decode prog_9_method_38_code 20 = .ok (.invokevirtual 130, 3) ∧ 20 + 3 = 23 := by decide +kernel
theorem D_M_sneeze_23 : decode prog_9_method_38_code 23 = .ok (.istore_n 2, 1) ∧ 23 + 1 = 24 := by decide +kernel
theorem D_M_sneeze_24 : decode prog_9_method_38_code 24 = .ok (.aload_n 0, 1) ∧ 24 + 1 = 25 := by decide +kernel
theorem D_M_sneeze_25 : decode prog_9_method_38_code 25 = .ok (.getfield 9, 3) ∧ 25 + 3 = 28 := by decide +kernel
theorem D_M_sneeze_28 : decode prog_9_method_38_code 28 = .ok (.iconst 4, 1) ∧ 28 + 1 = 29 := by decide +kernel
theorem D_M_sneeze_29 : decode prog_9_method_38_code 29 = .ok (.dup2, 1) ∧ 29 + 1 = 30 := by decide +kernel
theorem D_M_sneeze_30 : decode prog_9_method_38_code 30 = .ok (.iaload, 1) ∧ 30 + 1 = 31 := by decide +kernel
theorem D_M_sneeze_31 : decode prog_9_method_38_code 31 = .ok (.iload_n 2, 1) ∧ 31 + 1 = 32 := by decide +kernel
theorem D_M_sneeze_32 : decode prog_9_method_38_code 32 = .ok (.iadd, 1) ∧ 32 + 1 = 33 := by decide +kernel
theorem D_M_sneeze_33 : decode prog_9_method_38_code 33 = .ok (.iastore, 1) ∧ 33 + 1 = 34 := by decide +kernel
theorem D_M_sneeze_34 : decode prog_9_method_38_code 34 = .ok (.iload_n 2, 1) ∧ 34 + 1 = 35 := by decide +kernel
theorem D_M_sneeze_35 : decode prog_9_method_38_code 35 = .ok (.ireturn, 1) := by decide +kernel
theorem D_M_sneeze_7 : decode prog_9_method_38_code 7 = .ok (.ldc 87, 2) ∧ 7 + 2 = 9 := by decide +kernel
theorem D_M_sneeze_9 : decode prog_9_method_38_code 9 = .ok (.ireturn, 1) := by decide +kernel
def f_M_sneeze (a1 : Int32) (mem : Mm) : Option (Int32 × Mm) := bp (f_M_isTable a1) fun r_1 => if r_1 = 0 then some ((-1000000001), mem) else bd (f_M_becomes ((10 + (4 * a1)) + 1) 0 mem) fun r_20 m_20 => lt (mst m_20 92 (ix 4) ((m_20 92 (ix 4)) + r_20)) fun m_33 => some (r_20, m_33)
theorem c_M_sneeze (l : Launch) (E : En) (a1 : Int32) {mem : Mm} {r : Int32} {m2 : Mm} (h : f_M_sneeze a1 mem = some (r, m2)) : CtI l E 2 y_M_sneeze prog_9_method_38_code 3 (some .int) [.ref (eb E + 91), .int a1] SH mem r m2 := by
  refine mk_CtI ⟨by decide, (Nat.le_of_ble_eq_true rfl)⟩ (fun X S hl hR => ?_)
  have S : Std X E prog_9_method_38_code R6 3 2 := S
  show J X E 3 0 [(0, .ref (eb E + 91)), (1, .int a1)] [] SH mem
  unfold f_M_sneeze at h
  refine j_iload_n S D_M_sneeze_0 1 rfl rfl ?_
  obtain ⟨r_1, e_1, h⟩ := bpE h
  refine j_callSI (As := [.int a1]) S D_M_sneeze_1 ms_R6_83 (c_M_isTable (cxL X) E a1 (mem := mem) e_1) (by decide) rfl rfl (Nat.le_of_ble_eq_true rfl) ?_
  refine j_if_ne S D_M_sneeze_4 (fun c_4 => ?_) (fun c_4 => ?_)
  · have h := ifF c_4 h
    refine j_aload_n S D_M_sneeze_10 0 rfl rfl ?_
    refine j_bipush S D_M_sneeze_11 cb_10 ?_
    refine j_iconst S D_M_sneeze_13 ci_4 ?_
    refine j_iload_n S D_M_sneeze_14 1 rfl rfl ?_
    refine j_imul S D_M_sneeze_15 ?_
    refine j_iadd S D_M_sneeze_16 ?_
    refine j_iconst S D_M_sneeze_17 ci_1 ?_
    refine j_iadd S D_M_sneeze_18 ?_
    refine j_iconst S D_M_sneeze_19 ci_0 ?_
    obtain ⟨r_20, m_20, e_20, h⟩ := bdE h
    refine j_callVI (As := [.int ((10 + (4 * a1)) + 1), .int 0]) S D_M_sneeze_20 mv_R6_130 (c_M_becomes (cxL X) E ((10 + (4 * a1)) + 1) 0 e_20) (by decide) sh_Mod rfl rfl rfl rfl (Nat.le_of_ble_eq_true rfl) ?_
    refine j_istore_n S D_M_sneeze_23 (lv := [(2, .int r_20), (0, .ref (eb E + 91)), (1, .int a1)]) rfl ⟨rfl, (Nat.le_of_ble_eq_true rfl)⟩ ?_
    refine j_aload_n S D_M_sneeze_24 1 rfl rfl ?_
    refine j_getR S D_M_sneeze_25 fl_R6_9 sh_Mod rfl ?_
    refine j_iconst S D_M_sneeze_28 ci_4 ?_
    refine j_dup2 S D_M_sneeze_29 ⟨rfl, rfl⟩ ?_
    refine j_iald S D_M_sneeze_30 sh_92 inbc_4_1436 ?_
    refine j_iload_n S D_M_sneeze_31 0 rfl rfl ?_
    refine j_iadd S D_M_sneeze_32 ?_
    obtain ⟨m_33, hm_33, h⟩ := ltE h
    refine j_iast S D_M_sneeze_33 sh_92 inbc_4_1436 ?_
    refine j_mem hm_33 ?_
    refine j_iload_n S D_M_sneeze_34 0 rfl rfl ?_
    exact rtM hR h _ _ D_M_sneeze_35
  · have h := ifT c_4 h
    refine j_ldc S D_M_sneeze_7 co_R6_87 ?_
    exact rtM hR h _ _ D_M_sneeze_9

def y_M_thinks : MethodName := ⟨"SandPictureModel", "thinks", "()V"⟩
theorem D_M_thinks_0 : decode prog_9_method_39_code 0 = .ok (.iconst 0, 1) ∧ 0 + 1 = 1 := by decide +kernel
theorem D_M_thinks_1 : decode prog_9_method_39_code 1 = .ok (.istore_n 1, 1) ∧ 1 + 1 = 2 := by decide +kernel
theorem D_M_thinks_2 : decode prog_9_method_39_code 2 = .ok (.iload_n 1, 1) ∧ 2 + 1 = 3 := by decide +kernel
theorem D_M_thinks_3 : decode prog_9_method_39_code 3 = .ok (.bipush 64, 2) ∧ 3 + 2 = 5 := by decide +kernel
theorem D_M_thinks_5 : decode prog_9_method_39_code 5 = .ok (.if_icmp .ge 21, 3) ∧ ((5 : Nat) : Int) + 21 = ((26 : Nat) : Int) ∧ 5 + 3 = 8 := by decide +kernel
theorem D_M_thinks_8 : decode prog_9_method_39_code 8 = .ok (.aload_n 0, 1) ∧ 8 + 1 = 9 := by decide +kernel
theorem D_M_thinks_9 : decode prog_9_method_39_code 9 = .ok (.getfield 23, 3) ∧ 9 + 3 = 12 := by decide +kernel
theorem D_M_thinks_12 : decode prog_9_method_39_code 12 = .ok (.iload_n 1, 1) ∧ 12 + 1 = 13 := by decide +kernel
theorem D_M_thinks_13 : decode prog_9_method_39_code 13 = .ok (.aload_n 0, 1) ∧ 13 + 1 = 14 := by decide +kernel
theorem D_M_thinks_14 : decode prog_9_method_39_code 14 = .ok (.getfield 9, 3) ∧ 14 + 3 = 17 := by decide +kernel
theorem D_M_thinks_17 : decode prog_9_method_39_code 17 = .ok (.iload_n 1, 1) ∧ 17 + 1 = 18 := by decide +kernel
theorem D_M_thinks_18 : decode prog_9_method_39_code 18 = .ok (.iaload, 1) ∧ 18 + 1 = 19 := by decide +kernel
theorem D_M_thinks_19 : decode prog_9_method_39_code 19 = .ok (.iastore, 1) ∧ 19 + 1 = 20 := by decide +kernel
theorem D_M_thinks_20 : decode prog_9_method_39_code 20 = .ok (.iinc 1 1, 3) ∧ 20 + 3 = 23 := by decide +kernel
theorem D_M_thinks_23 : decode prog_9_method_39_code 23 = .ok (.goto (-21), 3) ∧ ((23 : Nat) : Int) + (-21) = ((2 : Nat) : Int) := by decide +kernel
theorem D_M_thinks_26 : decode prog_9_method_39_code 26 = .ok (.return_, 1) := by decide +kernel
def f_M_thinks_L2  : Nat → Int32 → Mm → Option (Int32 × Mm)
  | 0, _, _ => none
  | n + 1, b1, mem => if 64 ≤ b1 then some (b1, mem) else if inb b1 1436 = true then if inb b1 64 = true then lt (mst mem 95 (ix b1) (mem 92 (ix b1))) fun m_19 => f_M_thinks_L2 n (b1 + 1) m_19 else none else none
def f_M_thinks (N : Nat)  (mem : Mm) : Option (Mm) := bd (f_M_thinks_L2 N 0 mem) fun y_2 m_2 => some m_2
theorem L_M_thinks_2 {X : Cx} {E : En} (S : Std X E prog_9_method_39_code R6 2 0)  : ∀ (n : Nat) (b1 : Int32) (mem : Mm) (z : Int32) (m2 : Mm), f_M_thinks_L2 n b1 mem = some (z, m2) → J X E 2 26 [(0, .ref (eb E + 91)), (1, .int z)] [] SH m2 → J X E 2 2 [(0, .ref (eb E + 91)), (1, .int b1)] [] SH mem := by
  intro n
  induction n with
  | zero =>
    intro b1 mem z m2 h hk; cases h
  | succ n ih =>
    intro b1 mem z m2 h hk
    rw [f_M_thinks_L2] at h
    refine j_iload_n S D_M_thinks_2 1 rfl rfl ?_
    refine j_bipush S D_M_thinks_3 cb_64 ?_
    refine j_icmp_ge S D_M_thinks_5 (fun c_5 => ?_) (fun c_5 => ?_)
    · have h := ifT c_5 h
      cases h
      exact j_locals [0, 1] rfl hk
    · have h := ifF c_5 h
      refine j_aload_n S D_M_thinks_8 0 rfl rfl ?_
      refine j_getR S D_M_thinks_9 fl_R6_23 sh_Mod rfl ?_
      refine j_iload_n S D_M_thinks_12 1 rfl rfl ?_
      refine j_aload_n S D_M_thinks_13 0 rfl rfl ?_
      refine j_getR S D_M_thinks_14 fl_R6_9 sh_Mod rfl ?_
      refine j_iload_n S D_M_thinks_17 1 rfl rfl ?_
      obtain ⟨g_18, h⟩ := gdE h
      refine j_iald S D_M_thinks_18 sh_92 g_18 ?_
      obtain ⟨g_19, h⟩ := gdE h
      obtain ⟨m_19, hm_19, h⟩ := ltE h
      refine j_iast S D_M_thinks_19 sh_95 g_19 ?_
      refine j_mem hm_19 ?_
      refine j_iinc S D_M_thinks_20 1 rfl (congrArg (fun z => b1 + z) ci_1) (lv := [(1, .int (b1 + 1)), (0, .ref (eb E + 91))]) rfl (Nat.le_of_ble_eq_true rfl) ?_
      refine j_goto S D_M_thinks_23 ?_
      refine j_locals [1, 0] rfl (ih (b1 + 1) m_19 _ _ h hk)
theorem c_M_thinks (l : Launch) (E : En) (N : Nat)  {mem : Mm} {m2 : Mm} (h : f_M_thinks N mem = some m2) : CtV l E 0 y_M_thinks prog_9_method_39_code 2 [.ref (eb E + 91)] SH mem m2 := by
  refine mk_CtV ⟨by decide, (Nat.le_of_ble_eq_true rfl)⟩ (fun X S hl hR => ?_)
  have S : Std X E prog_9_method_39_code R6 2 0 := S
  show J X E 2 0 [(0, .ref (eb E + 91))] [] SH mem
  unfold f_M_thinks at h
  refine j_iconst S D_M_thinks_0 ci_0 ?_
  refine j_istore_n S D_M_thinks_1 (lv := [(1, .int 0), (0, .ref (eb E + 91))]) rfl ⟨rfl, (Nat.le_of_ble_eq_true rfl)⟩ ?_
  refine j_locals [1, 0] rfl ?_
  obtain ⟨y_2, m_2, e_2, h⟩ := bdE h
  refine L_M_thinks_2 S  N 0 mem _ _ e_2 ?_
  exact rtV hR h _ _ D_M_thinks_26

def y_M_putsBack : MethodName := ⟨"SandPictureModel", "putsBack", "()V"⟩
theorem D_M_putsBack_0 : decode prog_9_method_40_code 0 = .ok (.iconst 0, 1) ∧ 0 + 1 = 1 := by decide +kernel
theorem D_M_putsBack_1 : decode prog_9_method_40_code 1 = .ok (.istore_n 1, 1) ∧ 1 + 1 = 2 := by decide +kernel
theorem D_M_putsBack_2 : decode prog_9_method_40_code 2 = .ok (.iload_n 1, 1) ∧ 2 + 1 = 3 := by decide +kernel
theorem D_M_putsBack_3 : decode prog_9_method_40_code 3 = .ok (.bipush 64, 2) ∧ 3 + 2 = 5 := by decide +kernel
theorem D_M_putsBack_5 : decode prog_9_method_40_code 5 = .ok (.if_icmp .ge 21, 3) ∧ ((5 : Nat) : Int) + 21 = ((26 : Nat) : Int) ∧ 5 + 3 = 8 := by decide +kernel
theorem D_M_putsBack_8 : decode prog_9_method_40_code 8 = .ok (.aload_n 0, 1) ∧ 8 + 1 = 9 := by decide +kernel
theorem D_M_putsBack_9 : decode prog_9_method_40_code 9 = .ok (.getfield 9, 3) ∧ 9 + 3 = 12 := by decide +kernel
theorem D_M_putsBack_12 : decode prog_9_method_40_code 12 = .ok (.iload_n 1, 1) ∧ 12 + 1 = 13 := by decide +kernel
theorem D_M_putsBack_13 : decode prog_9_method_40_code 13 = .ok (.aload_n 0, 1) ∧ 13 + 1 = 14 := by decide +kernel
theorem D_M_putsBack_14 : decode prog_9_method_40_code 14 = .ok (.getfield 23, 3) ∧ 14 + 3 = 17 := by decide +kernel
theorem D_M_putsBack_17 : decode prog_9_method_40_code 17 = .ok (.iload_n 1, 1) ∧ 17 + 1 = 18 := by decide +kernel
theorem D_M_putsBack_18 : decode prog_9_method_40_code 18 = .ok (.iaload, 1) ∧ 18 + 1 = 19 := by decide +kernel
theorem D_M_putsBack_19 : decode prog_9_method_40_code 19 = .ok (.iastore, 1) ∧ 19 + 1 = 20 := by decide +kernel
theorem D_M_putsBack_20 : decode prog_9_method_40_code 20 = .ok (.iinc 1 1, 3) ∧ 20 + 3 = 23 := by decide +kernel
theorem D_M_putsBack_23 : decode prog_9_method_40_code 23 = .ok (.goto (-21), 3) ∧ ((23 : Nat) : Int) + (-21) = ((2 : Nat) : Int) := by decide +kernel
theorem D_M_putsBack_26 : decode prog_9_method_40_code 26 = .ok (.aload_n 0, 1) ∧ 26 + 1 = 27 := by decide +kernel
theorem D_M_putsBack_27 : decode prog_9_method_40_code 27 = .ok (.iconst (-1), 1) ∧ 27 + 1 = 28 := by decide +kernel
theorem D_M_putsBack_28 : decode prog_9_method_40_code 28 = .ok (.putfield 19, 3) ∧ 28 + 3 = 31 := by decide +kernel
theorem D_M_putsBack_31 : decode prog_9_method_40_code 31 = .ok (.return_, 1) := by decide +kernel
def f_M_putsBack_L2  : Nat → Int32 → Mm → Option (Int32 × Mm)
  | 0, _, _ => none
  | n + 1, b1, mem => if 64 ≤ b1 then some (b1, mem) else if inb b1 64 = true then if inb b1 1436 = true then lt (mst mem 92 (ix b1) (mem 95 (ix b1))) fun m_19 => f_M_putsBack_L2 n (b1 + 1) m_19 else none else none
def f_M_putsBack (N : Nat)  (mem : Mm) : Option (Mm) := bd (f_M_putsBack_L2 N 0 mem) fun y_2 m_2 => lt (mst m_2 91 4 (-1)) fun m_28 => some m_28
theorem L_M_putsBack_2 {X : Cx} {E : En} (S : Std X E prog_9_method_40_code R6 2 0)  : ∀ (n : Nat) (b1 : Int32) (mem : Mm) (z : Int32) (m2 : Mm), f_M_putsBack_L2 n b1 mem = some (z, m2) → J X E 2 26 [(0, .ref (eb E + 91)), (1, .int z)] [] SH m2 → J X E 2 2 [(0, .ref (eb E + 91)), (1, .int b1)] [] SH mem := by
  intro n
  induction n with
  | zero =>
    intro b1 mem z m2 h hk; cases h
  | succ n ih =>
    intro b1 mem z m2 h hk
    rw [f_M_putsBack_L2] at h
    refine j_iload_n S D_M_putsBack_2 1 rfl rfl ?_
    refine j_bipush S D_M_putsBack_3 cb_64 ?_
    refine j_icmp_ge S D_M_putsBack_5 (fun c_5 => ?_) (fun c_5 => ?_)
    · have h := ifT c_5 h
      cases h
      exact j_locals [0, 1] rfl hk
    · have h := ifF c_5 h
      refine j_aload_n S D_M_putsBack_8 0 rfl rfl ?_
      refine j_getR S D_M_putsBack_9 fl_R6_9 sh_Mod rfl ?_
      refine j_iload_n S D_M_putsBack_12 1 rfl rfl ?_
      refine j_aload_n S D_M_putsBack_13 0 rfl rfl ?_
      refine j_getR S D_M_putsBack_14 fl_R6_23 sh_Mod rfl ?_
      refine j_iload_n S D_M_putsBack_17 1 rfl rfl ?_
      obtain ⟨g_18, h⟩ := gdE h
      refine j_iald S D_M_putsBack_18 sh_95 g_18 ?_
      obtain ⟨g_19, h⟩ := gdE h
      obtain ⟨m_19, hm_19, h⟩ := ltE h
      refine j_iast S D_M_putsBack_19 sh_92 g_19 ?_
      refine j_mem hm_19 ?_
      refine j_iinc S D_M_putsBack_20 1 rfl (congrArg (fun z => b1 + z) ci_1) (lv := [(1, .int (b1 + 1)), (0, .ref (eb E + 91))]) rfl (Nat.le_of_ble_eq_true rfl) ?_
      refine j_goto S D_M_putsBack_23 ?_
      refine j_locals [1, 0] rfl (ih (b1 + 1) m_19 _ _ h hk)
theorem c_M_putsBack (l : Launch) (E : En) (N : Nat)  {mem : Mm} {m2 : Mm} (h : f_M_putsBack N mem = some m2) : CtV l E 0 y_M_putsBack prog_9_method_40_code 2 [.ref (eb E + 91)] SH mem m2 := by
  refine mk_CtV ⟨by decide, (Nat.le_of_ble_eq_true rfl)⟩ (fun X S hl hR => ?_)
  have S : Std X E prog_9_method_40_code R6 2 0 := S
  show J X E 2 0 [(0, .ref (eb E + 91))] [] SH mem
  unfold f_M_putsBack at h
  refine j_iconst S D_M_putsBack_0 ci_0 ?_
  refine j_istore_n S D_M_putsBack_1 (lv := [(1, .int 0), (0, .ref (eb E + 91))]) rfl ⟨rfl, (Nat.le_of_ble_eq_true rfl)⟩ ?_
  refine j_locals [1, 0] rfl ?_
  obtain ⟨y_2, m_2, e_2, h⟩ := bdE h
  refine L_M_putsBack_2 S  N 0 mem _ _ e_2 ?_
  refine j_aload_n S D_M_putsBack_26 0 rfl rfl ?_
  refine j_iconst S D_M_putsBack_27 ci_m1 ?_
  obtain ⟨m_28, hm_28, h⟩ := ltE h
  refine j_putI S D_M_putsBack_28 fp_R6_19 sh_Mod rfl ?_
  refine j_mem hm_28 ?_
  exact rtV hR h _ _ D_M_putsBack_31

def y_M_behind : MethodName := ⟨"SandPictureModel", "behind", "(II)I"⟩
theorem D_M_behind_0 : decode prog_9_method_41_code 0 = .ok (.iload_n 1, 1) ∧ 0 + 1 = 1 := by decide +kernel
theorem D_M_behind_1 : decode prog_9_method_41_code 1 = .ok (.iconst 0, 1) ∧ 1 + 1 = 2 := by decide +kernel
theorem D_M_behind_2 : decode prog_9_method_41_code 2 = .ok (.bipush 100, 2) ∧ 2 + 2 = 4 := by decide +kernel
theorem D_M_behind_4 : decode prog_9_method_41_code 4 = .ok (.invokestatic 79, 3) ∧ 4 + 3 = 7 := by decide +kernel
theorem D_M_behind_7 : decode prog_9_method_41_code 7 = .ok (.ifCond .eq 12, 3) ∧ ((7 : Nat) : Int) + 12 = ((19 : Nat) : Int) ∧ 7 + 3 = 10 := by decide +kernel
theorem D_M_behind_19 : decode prog_9_method_41_code 19 = .ok (.ldc 87, 2) ∧ 19 + 2 = 21 := by decide +kernel
theorem D_M_behind_21 : decode prog_9_method_41_code 21 = .ok (.ireturn, 1) := by decide +kernel
theorem D_M_behind_10 : decode prog_9_method_41_code 10 = .ok (.iload_n 2, 1) ∧ 10 + 1 = 11 := by decide +kernel
theorem D_M_behind_11 : decode prog_9_method_41_code 11 = .ok (.iconst 0, 1) ∧ 11 + 1 = 12 := by decide +kernel
theorem D_M_behind_12 : decode prog_9_method_41_code 12 = .ok (.iconst 3, 1) ∧ 12 + 1 = 13 := by decide +kernel
theorem D_M_behind_13 : decode prog_9_method_41_code 13 = .ok (.invokestatic 79, 3) ∧ 13 + 3 = 16 := by decide +kernel
theorem D_M_behind_16 : decode prog_9_method_41_code 16 = .ok (.ifCond .ne 6, 3) ∧ ((16 : Nat) : Int) + 6 = ((22 : Nat) : Int) ∧ 16 + 3 = 19 := by decide +kernel
theorem D_M_behind_22 : decode prog_9_method_41_code 22 = .ok (.aload_n 0, 1) ∧ 22 + 1 = 23 := by decide +kernel
theorem D_M_behind_23 : decode prog_9_method_41_code 23 = .ok (.invokevirtual 162, 3) ∧ 23 + 3 = 26 := by decide +kernel
theorem D_M_behind_26 : decode prog_9_method_41_code 26 = .ok (.aload_n 0, 1) ∧ 26 + 1 = 27 := by decide +kernel
theorem D_M_behind_27 : decode prog_9_method_41_code 27 = .ok (.iload_n 1, 1) ∧ 27 + 1 = 28 := by decide +kernel
theorem D_M_behind_28 : decode prog_9_method_41_code 28 = .ok (.invokevirtual 156, 3) ∧ 28 + 3 = 31 := by decide +kernel
theorem D_M_behind_31 : decode prog_9_method_41_code 31 = .ok (.istore_n 3, 1) ∧ 31 + 1 = 32 := by decide +kernel
theorem D_M_behind_32 : decode prog_9_method_41_code 32 = .ok (.iload_n 2, 1) ∧ 32 + 1 = 33 := by decide +kernel
theorem D_M_behind_33 : decode prog_9_method_41_code 33 = .ok (.ifCond .ne 11, 3) ∧ ((33 : Nat) : Int) + 11 = ((44 : Nat) : Int) ∧ 33 + 3 = 36 := by decide +kernel
theorem D_M_behind_44 : decode prog_9_method_41_code 44 = .ok (.iload_n 2, 1) ∧ 44 + 1 = 45 := by decide +kernel
theorem D_M_behind_45 : decode prog_9_method_41_code 45 = .ok (.iconst 1, 1) ∧ 45 + 1 = 46 := by decide +kernel
theorem D_M_behind_46 : decode prog_9_method_41_code 46 = .ok (.if_icmp .ne 11, 3) ∧ ((46 : Nat) : Int) + 11 = ((57 : Nat) : Int) ∧ 46 + 3 = 49 := by decide +kernel
theorem D_M_behind_57 : decode prog_9_method_41_code 57 = .ok (.iload_n 2, 1) ∧ 57 + 1 = 58 := by decide +kernel
theorem D_M_behind_58 : decode prog_9_method_41_code 58 = .ok (.iconst 2, 1) ∧ 58 + 1 = 59 := by decide +kernel
theorem D_M_behind_71 : decode prog_9_method_41_code 71 = .ok (.aload_n 0, 1) ∧ 71 + 1 = 72 := by decide +kernel
theorem D_M_behind_72 : decode prog_9_method_41_code 72 = .ok (.getfield 9, 3) ∧ 72 + 3 = 75 := by decide +kernel
theorem D_M_behind_75 : decode prog_9_method_41_code 75 = .ok (.iconst 5, 1) ∧ 75 + 1 = 76 := by decide +kernel
theorem D_M_behind_76 : decode prog_9_method_41_code 76 = .ok (.iaload, 1) ∧ 76 + 1 = 77 := by decide +kernel
theorem D_M_behind_62 : decode prog_9_method_41_code 62 = .ok (.aload_n 0, 1) ∧ 62 + 1 = 63 := by decide +kernel
theorem D_M_behind_63 : decode prog_9_method_41_code 63 = .ok (.getfield 9, 3) ∧ 63 + 3 = 66 := by decide +kernel
theorem D_M_behind_66 : decode prog_9_method_41_code 66 = .ok (.iconst 4, 1) ∧ 66 + 1 = 67 := by decide +kernel
theorem D_M_behind_67 : decode prog_9_method_41_code 67 = .ok (.iaload, 1) ∧ 67 + 1 = 68 := by decide +kernel
theorem D_M_behind_68 : decode prog_9_method_41_code 68 = .ok (.goto 9, 3) ∧ ((68 : Nat) : Int) + 9 = ((77 : Nat) : Int) := by decide +kernel
theorem D_M_behind_59 : decode prog_9_method_41_code 59 = .ok (.if_icmp .ne 12, 3) ∧ ((59 : Nat) : Int) + 12 = ((71 : Nat) : Int) ∧ 59 + 3 = 62 := by decide +kernel
theorem D_M_behind_77 : decode prog_9_method_41_code 77 = .ok (.istore 4, 2) ∧ 77 + 2 = 79 := by decide +kernel
theorem D_M_behind_79 : decode prog_9_method_41_code 79 = .ok (.aload_n 0, 1) ∧ 79 + 1 = 80 := by decide +kernel
theorem D_M_behind_80 : decode prog_9_method_41_code 80 = .ok (.invokevirtual 165, 3) ∧ 80 + 3 = 83 := by decide +kernel
theorem D_M_behind_83 : decode prog_9_method_41_code 83 = .ok (.iload 4, 2) ∧ 83 + 2 = 85 := by decide +kernel
theorem D_M_behind_85 : decode prog_9_method_41_code 85 = .ok (.ireturn, 1) := by decide +kernel
theorem D_M_behind_49 : decode prog_9_method_41_code 49 = .ok (.aload_n 0, 1) ∧ 49 + 1 = 50 := by decide +kernel
theorem D_M_behind_50 : decode prog_9_method_41_code 50 = .ok (.iconst 2, 1) ∧ 50 + 1 = 51 := by decide +kernel
theorem D_M_behind_51 : decode prog_9_method_41_code 51 = .ok (.invokevirtual 159, 3) ∧ 51 + 3 = 54 := by decide +kernel
theorem D_M_behind_54 : decode prog_9_method_41_code 54 = .ok (.goto 23, 3) ∧ ((54 : Nat) : Int) + 23 = ((77 : Nat) : Int) := by decide +kernel
theorem D_M_behind_36 : decode prog_9_method_41_code 36 = .ok (.aload_n 0, 1) ∧ 36 + 1 = 37 := by decide +kernel
theorem D_M_behind_37 : decode prog_9_method_41_code 37 = .ok (.iconst 3, 1) ∧ 37 + 1 = 38 := by decide +kernel
theorem D_M_behind_38 : decode prog_9_method_41_code 38 = .ok (.invokevirtual 159, 3) ∧ 38 + 3 = 41 := by decide +kernel
theorem D_M_behind_41 : decode prog_9_method_41_code 41 = .ok (.goto 36, 3) ∧ ((41 : Nat) : Int) + 36 = ((77 : Nat) : Int) := by decide +kernel
def f_M_behind (N : Nat) (a1 : Int32) (a2 : Int32) (mem : Mm) : Option (Int32 × Mm) := bp (f_M_in a1 0 100) fun r_4 => if r_4 = 0 then some ((-1000000001), mem) else bp (f_M_in a2 0 3) fun r_13 => if r_13 = 0 then some ((-1000000001), mem) else bp (f_M_thinks N mem) fun m_23 => bd (f_M_goesOn N a1 m_23) fun r_28 m_28 => if a2 = 0 then bp (f_M_sumOf N 3 m_28) fun r_38 => bp (f_M_putsBack N m_28) fun m_80 => some (r_38, m_80) else if a2 = 1 then bp (f_M_sumOf N 2 m_28) fun r_51 => bp (f_M_putsBack N m_28) fun m_80 => some (r_51, m_80) else lt (if a2 = 2 then m_28 92 (ix 4) else m_28 92 (ix 5)) fun x_77 => bp (f_M_putsBack N m_28) fun m_80 => some (x_77, m_80)
theorem c_M_behind (l : Launch) (E : En) (N : Nat) (a1 : Int32) (a2 : Int32) {mem : Mm} {r : Int32} {m2 : Mm} (h : f_M_behind N a1 a2 mem = some (r, m2)) : CtI l E 6 y_M_behind prog_9_method_41_code 5 (some .int) [.ref (eb E + 91), .int a1, .int a2] SH mem r m2 := by
  refine mk_CtI ⟨by decide, (Nat.le_of_ble_eq_true rfl)⟩ (fun X S hl hR => ?_)
  have S : Std X E prog_9_method_41_code R6 5 6 := S
  show J X E 5 0 [(0, .ref (eb E + 91)), (1, .int a1), (2, .int a2)] [] SH mem
  unfold f_M_behind at h
  refine j_iload_n S D_M_behind_0 1 rfl rfl ?_
  refine j_iconst S D_M_behind_1 ci_0 ?_
  refine j_bipush S D_M_behind_2 cb_100 ?_
  obtain ⟨r_4, e_4, h⟩ := bpE h
  refine j_callSI (As := [.int a1, .int 0, .int 100]) S D_M_behind_4 ms_R6_79 (c_M_in (cxL X) E a1 0 100 (mem := mem) e_4) (by decide) rfl rfl (Nat.le_of_ble_eq_true rfl) ?_
  refine j_if_eq S D_M_behind_7 (fun c_7 => ?_) (fun c_7 => ?_)
  · have h := ifT c_7 h
    refine j_ldc S D_M_behind_19 co_R6_87 ?_
    exact rtM hR h _ _ D_M_behind_21
  · have h := ifF c_7 h
    refine j_iload_n S D_M_behind_10 2 rfl rfl ?_
    refine j_iconst S D_M_behind_11 ci_0 ?_
    refine j_iconst S D_M_behind_12 ci_3 ?_
    obtain ⟨r_13, e_13, h⟩ := bpE h
    refine j_callSI (As := [.int a2, .int 0, .int 3]) S D_M_behind_13 ms_R6_79 (c_M_in (cxL X) E a2 0 3 (mem := mem) e_13) (by decide) rfl rfl (Nat.le_of_ble_eq_true rfl) ?_
    refine j_if_ne S D_M_behind_16 (fun c_16 => ?_) (fun c_16 => ?_)
    · have h := ifF c_16 h
      refine j_aload_n S D_M_behind_22 0 rfl rfl ?_
      obtain ⟨m_23, e_23, h⟩ := bpE h
      refine j_callVV (As := []) S D_M_behind_23 mv_R6_162 (c_M_thinks (cxL X) E N e_23) (by decide) sh_Mod rfl rfl rfl rfl (Nat.le_of_ble_eq_true rfl) ?_
      refine j_aload_n S D_M_behind_26 0 rfl rfl ?_
      refine j_iload_n S D_M_behind_27 1 rfl rfl ?_
      obtain ⟨r_28, m_28, e_28, h⟩ := bdE h
      refine j_callVI (As := [.int a1]) S D_M_behind_28 mv_R6_156 (c_M_goesOn (cxL X) E N a1 e_28) (by decide) sh_Mod rfl rfl rfl rfl (Nat.le_of_ble_eq_true rfl) ?_
      refine j_istore_n S D_M_behind_31 (lv := [(3, .int r_28), (0, .ref (eb E + 91)), (1, .int a1), (2, .int a2)]) rfl ⟨rfl, (Nat.le_of_ble_eq_true rfl)⟩ ?_
      refine j_iload_n S D_M_behind_32 3 rfl rfl ?_
      refine j_if_ne S D_M_behind_33 (fun c_33 => ?_) (fun c_33 => ?_)
      · have h := ifF c_33 h
        refine j_iload_n S D_M_behind_44 3 rfl rfl ?_
        refine j_iconst S D_M_behind_45 ci_1 ?_
        refine j_icmp_ne S D_M_behind_46 (fun c_46 => ?_) (fun c_46 => ?_)
        · have h := ifF c_46 h
          refine j_iload_n S D_M_behind_57 3 rfl rfl ?_
          refine j_iconst S D_M_behind_58 ci_2 ?_
          refine j_dia (P := J X E 5 77 [(3, .int r_28), (0, .ref (eb E + 91)), (1, .int a1), (2, .int a2)] [.int (if a2 = 2 then m_28 92 (ix 4) else m_28 92 (ix 5))] SH m_28) (fun hj => ?_) ?_
          · refine j_icmp_ne S D_M_behind_59 (fun c_59 => ?_) (fun c_59 => ?_)
            · refine j_aload_n S D_M_behind_71 1 rfl rfl ?_
              refine j_getR S D_M_behind_72 fl_R6_9 sh_Mod rfl ?_
              refine j_iconst S D_M_behind_75 ci_5 ?_
              refine j_iald S D_M_behind_76 sh_92 inbc_5_1436 ?_
              exact j_jnF hj c_59
            · refine j_aload_n S D_M_behind_62 1 rfl rfl ?_
              refine j_getR S D_M_behind_63 fl_R6_9 sh_Mod rfl ?_
              refine j_iconst S D_M_behind_66 ci_4 ?_
              refine j_iald S D_M_behind_67 sh_92 inbc_4_1436 ?_
              refine j_goto S D_M_behind_68 ?_
              exact j_jnT hj c_59
          obtain ⟨x_77, hx_77, h⟩ := ltE h
          refine j_nm hx_77 ?_
          refine j_istore S D_M_behind_77 (lv := [(4, .int x_77), (3, .int r_28), (0, .ref (eb E + 91)), (1, .int a1), (2, .int a2)]) rfl (Nat.le_of_ble_eq_true rfl) ?_
          refine j_aload_n S D_M_behind_79 2 rfl rfl ?_
          obtain ⟨m_80, e_80, h⟩ := bpE h
          refine j_callVV (As := []) S D_M_behind_80 mv_R6_165 (c_M_putsBack (cxL X) E N e_80) (by decide) sh_Mod rfl rfl rfl rfl (Nat.le_of_ble_eq_true rfl) ?_
          refine j_iload S D_M_behind_83 0 rfl ?_
          exact rtM hR h _ _ D_M_behind_85
        · have h := ifT c_46 h
          refine j_aload_n S D_M_behind_49 1 rfl rfl ?_
          refine j_iconst S D_M_behind_50 ci_2 ?_
          obtain ⟨r_51, e_51, h⟩ := bpE h
          refine j_callVI (As := [.int 2]) S D_M_behind_51 mv_R6_159 (c_M_sumOf (cxL X) E N 2 e_51) (by decide) sh_Mod rfl rfl rfl rfl (Nat.le_of_ble_eq_true rfl) ?_
          refine j_goto S D_M_behind_54 ?_
          refine j_istore S D_M_behind_77 (lv := [(4, .int r_51), (3, .int r_28), (0, .ref (eb E + 91)), (1, .int a1), (2, .int a2)]) rfl (Nat.le_of_ble_eq_true rfl) ?_
          refine j_aload_n S D_M_behind_79 2 rfl rfl ?_
          obtain ⟨m_80, e_80, h⟩ := bpE h
          refine j_callVV (As := []) S D_M_behind_80 mv_R6_165 (c_M_putsBack (cxL X) E N e_80) (by decide) sh_Mod rfl rfl rfl rfl (Nat.le_of_ble_eq_true rfl) ?_
          refine j_iload S D_M_behind_83 0 rfl ?_
          exact rtM hR h _ _ D_M_behind_85
      · have h := ifT c_33 h
        refine j_aload_n S D_M_behind_36 1 rfl rfl ?_
        refine j_iconst S D_M_behind_37 ci_3 ?_
        obtain ⟨r_38, e_38, h⟩ := bpE h
        refine j_callVI (As := [.int 3]) S D_M_behind_38 mv_R6_159 (c_M_sumOf (cxL X) E N 3 e_38) (by decide) sh_Mod rfl rfl rfl rfl (Nat.le_of_ble_eq_true rfl) ?_
        refine j_goto S D_M_behind_41 ?_
        refine j_istore S D_M_behind_77 (lv := [(4, .int r_38), (3, .int r_28), (0, .ref (eb E + 91)), (1, .int a1), (2, .int a2)]) rfl (Nat.le_of_ble_eq_true rfl) ?_
        refine j_aload_n S D_M_behind_79 2 rfl rfl ?_
        obtain ⟨m_80, e_80, h⟩ := bpE h
        refine j_callVV (As := []) S D_M_behind_80 mv_R6_165 (c_M_putsBack (cxL X) E N e_80) (by decide) sh_Mod rfl rfl rfl rfl (Nat.le_of_ble_eq_true rfl) ?_
        refine j_iload S D_M_behind_83 0 rfl ?_
        exact rtM hR h _ _ D_M_behind_85
    · have h := ifT c_16 h
      refine j_ldc S D_M_behind_19 co_R6_87 ?_
      exact rtM hR h _ _ D_M_behind_21

def y_M_lacks : MethodName := ⟨"SandPictureModel", "lacks", "(I)I"⟩
theorem D_M_lacks_0 : decode prog_9_method_42_code 0 = .ok (.iload_n 1, 1) ∧ 0 + 1 = 1 := by decide +kernel
theorem D_M_lacks_1 : decode prog_9_method_42_code 1 = .ok (.iconst 0, 1) ∧ 1 + 1 = 2 := by decide +kernel
theorem D_M_lacks_2 : decode prog_9_method_42_code 2 = .ok (.bipush 100, 2) ∧ 2 + 2 = 4 := by decide +kernel
theorem D_M_lacks_4 : decode prog_9_method_42_code 4 = .ok (.invokestatic 79, 3) ∧ 4 + 3 = 7 := by decide +kernel
theorem D_M_lacks_7 : decode prog_9_method_42_code 7 = .ok (.ifCond .ne 6, 3) ∧ ((7 : Nat) : Int) + 6 = ((13 : Nat) : Int) ∧ 7 + 3 = 10 := by decide +kernel
theorem D_M_lacks_13 : decode prog_9_method_42_code 13 = .ok (.aload_n 0, 1) ∧ 13 + 1 = 14 := by decide +kernel
theorem D_M_lacks_14 : decode prog_9_method_42_code 14 = .ok (.invokevirtual 162, 3) ∧ 14 + 3 = 17 := by decide +kernel
theorem D_M_lacks_17 : decode prog_9_method_42_code 17 = .ok (.aload_n 0, 1) ∧ 17 + 1 = 18 := by decide +kernel
theorem D_M_lacks_18 : decode prog_9_method_42_code 18 = .ok (.iload_n 1, 1) ∧ 18 + 1 = 19 := by decide +kernel
theorem D_M_lacks_19 : decode prog_9_method_42_code 19 = .ok (.invokevirtual 156, 3) ∧ 19 + 3 = 22 := by decide +kernel
theorem D_M_lacks_22 : decode prog_9_method_42_code 22 = .ok (.istore_n 2, 1) ∧ 22 + 1 = 23 := by decide +kernel
theorem D_M_lacks_23 : decode prog_9_method_42_code 23 = .ok (.iconst 0, 1) ∧ 23 + 1 = 24 := by decide +kernel
theorem D_M_lacks_24 : decode prog_9_method_42_code 24 = .ok (.istore_n 3, 1) ∧ 24 + 1 = 25 := by decide +kernel
theorem D_M_lacks_25 : decode prog_9_method_42_code 25 = .ok (.iconst 0, 1) ∧ 25 + 1 = 26 := by decide +kernel
theorem D_M_lacks_26 : decode prog_9_method_42_code 26 = .ok (.istore 4, 2) ∧ 26 + 2 = 28 := by decide +kernel
theorem D_M_lacks_28 : decode prog_9_method_42_code 28 = .ok (.iload 4, 2) ∧ 28 + 2 = 30 := by decide +kernel
theorem D_M_lacks_30 : decode prog_9_method_42_code 30 = .ok (.bipush 6, 2) ∧ 30 + 2 = 32 := by decide +kernel
theorem D_M_lacks_32 : decode prog_9_method_42_code 32 = .ok (.if_icmp .ge 39, 3) ∧ ((32 : Nat) : Int) + 39 = ((71 : Nat) : Int) ∧ 32 + 3 = 35 := by decide +kernel
theorem D_M_lacks_35 : decode prog_9_method_42_code 35 = .ok (.iload_n 3, 1) ∧ 35 + 1 = 36 := by decide +kernel
theorem D_M_lacks_36 : decode prog_9_method_42_code 36 = .ok (.aload_n 0, 1) ∧ 36 + 1 = 37 := by decide +kernel
theorem D_M_lacks_37 : decode prog_9_method_42_code 37 = .ok (.iload 4, 2) ∧ 37 + 2 = 39 := by decide +kernel
theorem D_M_lacks_39 : decode prog_9_method_42_code 39 = .ok (.iconst 1, 1) ∧ 39 + 1 = 40 := by decide +kernel
theorem D_M_lacks_40 : decode prog_9_method_42_code 40 = .ok (.invokevirtual 107, 3) ∧ 40 + 3 = 43 := by decide +kernel
theorem D_M_lacks_43 : decode prog_9_method_42_code 43 = .ok (.aload_n 0, 1) ∧ 43 + 1 = 44 := by decide +kernel
theorem D_M_lacks_44 : decode prog_9_method_42_code 44 = .ok (.iload 4, 2) ∧ 44 + 2 = 46 := by decide +kernel
theorem D_M_lacks_46 : decode prog_9_method_42_code 46 = .ok (.iconst 0, 1) ∧ 46 + 1 = 47 := by decide +kernel
theorem D_M_lacks_47 : decode prog_9_method_42_code 47 = .ok (.invokevirtual 107, 3) ∧ 47 + 3 = 50 := by decide +kernel
theorem D_M_lacks_50 : decode prog_9_method_42_code 50 = .ok (.iconst 2, 1) ∧ 50 + 1 = 51 := by decide +kernel
theorem D_M_lacks_51 : decode prog_9_method_42_code 51 = .ok (.idiv, 1) ∧ 51 + 1 = 52 := by decide +kernel
theorem D_M_lacks_62 : decode prog_9_method_42_code 62 = .ok (.iconst 0, 1) ∧ 62 + 1 = 63 := by decide +kernel
theorem D_M_lacks_55 : decode prog_9_method_42_code 55 = .ok (.iconst 1, 1) ∧ 55 + 1 = 56 := by decide +kernel
theorem D_M_lacks_56 : decode prog_9_method_42_code 56 = .ok (.iload 4, 2) ∧ 56 + 2 = 58 := by decide +kernel
theorem D_M_lacks_58 : decode prog_9_method_42_code 58 = .ok (.ishl, 1) ∧ 58 + 1 = 59 := by decide +kernel
theorem D_M_lacks_59 : decode prog_9_method_42_code 59 = .ok (.goto 4, 3) ∧ ((59 : Nat) : Int) + 4 = ((63 : Nat) : Int) := by decide +kernel
theorem D_M_lacks_52 : decode prog_9_method_42_code 52 = .ok (.if_icmp .ge 10, 3) ∧ ((52 : Nat) : Int) + 10 = ((62 : Nat) : Int) ∧ 52 + 3 = 55 := by decide +kernel
theorem D_M_lacks_63 : decode prog_9_method_42_code 63 = .ok (.ior, 1) ∧ 63 + 1 = 64 := by decide +kernel
theorem D_M_lacks_64 : decode prog_9_method_42_code 64 = .ok (.istore_n 3, 1) ∧ 64 + 1 = 65 := by decide +kernel
theorem D_M_lacks_65 : decode prog_9_method_42_code 65 = .ok (.iinc 4 1, 3) ∧ 65 + 3 = 68 := by decide +kernel
theorem D_M_lacks_68 : decode prog_9_method_42_code 68 = .ok (.goto (-40), 3) ∧ ((68 : Nat) : Int) + (-40) = ((28 : Nat) : Int) := by decide +kernel
theorem D_M_lacks_71 : decode prog_9_method_42_code 71 = .ok (.aload_n 0, 1) ∧ 71 + 1 = 72 := by decide +kernel
theorem D_M_lacks_72 : decode prog_9_method_42_code 72 = .ok (.invokevirtual 165, 3) ∧ 72 + 3 = 75 := by decide +kernel
theorem D_M_lacks_75 : decode prog_9_method_42_code 75 = .ok (.iload_n 3, 1) ∧ 75 + 1 = 76 := by decide +kernel
theorem D_M_lacks_76 : decode prog_9_method_42_code 76 = .ok (.ireturn, 1) := by decide +kernel
theorem D_M_lacks_10 : decode prog_9_method_42_code 10 = .ok (.ldc 87, 2) ∧ 10 + 2 = 12 := by decide +kernel
theorem D_M_lacks_12 : decode prog_9_method_42_code 12 = .ok (.ireturn, 1) := by decide +kernel
def f_M_lacks_L28  : Nat → Int32 → Int32 → Int32 → Int32 → Mm → Option (Int32 × Int32)
  | 0, _, _, _, _, _ => none
  | n + 1, b1, b2, b3, b4, mem => if 6 ≤ b4 then some (b3, b4) else bp (f_M_at0 b4 1 mem) fun r_40 => bp (f_M_at0 b4 0 mem) fun r_47 => lt (b3 ||| (if (r_47 / 2) ≤ r_40 then (0 : Int32) else 1 <<< (b4 &&& 31))) fun x_64 => f_M_lacks_L28 n b1 b2 x_64 (b4 + 1) mem
def f_M_lacks (N : Nat) (a1 : Int32) (mem : Mm) : Option (Int32 × Mm) := bp (f_M_in a1 0 100) fun r_4 => if r_4 = 0 then some ((-1000000001), mem) else bp (f_M_thinks N mem) fun m_14 => bd (f_M_goesOn N a1 m_14) fun r_19 m_19 => bp (f_M_lacks_L28 N a1 r_19 0 0 m_19) fun y_28 => bp (f_M_putsBack N m_19) fun m_72 => some (y_28.1, m_72)
theorem L_M_lacks_28 {X : Cx} {E : En} (S : Std X E prog_9_method_42_code R6 5 6)  {mem : Mm} : ∀ (n : Nat) (b1 : Int32) (b2 : Int32) (b3 : Int32) (b4 : Int32) (z : Int32 × Int32), f_M_lacks_L28 n b1 b2 b3 b4 mem = some z → J X E 5 71 [(0, .ref (eb E + 91)), (1, .int b1), (2, .int b2), (3, .int z.1), (4, .int z.2)] [] SH mem → J X E 5 28 [(0, .ref (eb E + 91)), (1, .int b1), (2, .int b2), (3, .int b3), (4, .int b4)] [] SH mem := by
  intro n
  induction n with
  | zero =>
    intro b1 b2 b3 b4 z h hk; cases h
  | succ n ih =>
    intro b1 b2 b3 b4 z h hk
    rw [f_M_lacks_L28] at h
    refine j_iload S D_M_lacks_28 4 rfl ?_
    refine j_bipush S D_M_lacks_30 cb_6 ?_
    refine j_icmp_ge S D_M_lacks_32 (fun c_32 => ?_) (fun c_32 => ?_)
    · have h := ifT c_32 h
      cases h
      exact j_locals [0, 1, 2, 3, 4] rfl hk
    · have h := ifF c_32 h
      refine j_iload_n S D_M_lacks_35 3 rfl rfl ?_
      refine j_aload_n S D_M_lacks_36 0 rfl rfl ?_
      refine j_iload S D_M_lacks_37 4 rfl ?_
      refine j_iconst S D_M_lacks_39 ci_1 ?_
      obtain ⟨r_40, e_40, h⟩ := bpE h
      refine j_callVI (As := [.int b4, .int 1]) S D_M_lacks_40 mv_R6_107 (c_M_at0 (cxL X) E b4 1 e_40) (by decide) sh_Mod rfl rfl rfl rfl (Nat.le_of_ble_eq_true rfl) ?_
      refine j_aload_n S D_M_lacks_43 0 rfl rfl ?_
      refine j_iload S D_M_lacks_44 4 rfl ?_
      refine j_iconst S D_M_lacks_46 ci_0 ?_
      obtain ⟨r_47, e_47, h⟩ := bpE h
      refine j_callVI (As := [.int b4, .int 0]) S D_M_lacks_47 mv_R6_107 (c_M_at0 (cxL X) E b4 0 e_47) (by decide) sh_Mod rfl rfl rfl rfl (Nat.le_of_ble_eq_true rfl) ?_
      refine j_iconst S D_M_lacks_50 ci_2 ?_
      refine j_idiv S D_M_lacks_51 nz_2 ?_
      refine j_dia (P := J X E 5 63 [(0, .ref (eb E + 91)), (1, .int b1), (2, .int b2), (3, .int b3), (4, .int b4)] [.int (if (r_47 / 2) ≤ r_40 then (0 : Int32) else 1 <<< (b4 &&& 31)), .int b3] SH mem) (fun hj => ?_) ?_
      · refine j_icmp_ge S D_M_lacks_52 (fun c_52 => ?_) (fun c_52 => ?_)
        · refine j_iconst S D_M_lacks_62 ci_0 ?_
          exact j_jnT hj c_52
        · refine j_iconst S D_M_lacks_55 ci_1 ?_
          refine j_iload S D_M_lacks_56 4 rfl ?_
          refine j_ishl S D_M_lacks_58 ?_
          refine j_goto S D_M_lacks_59 ?_
          exact j_jnF hj c_52
      refine j_ior S D_M_lacks_63 ?_
      obtain ⟨x_64, hx_64, h⟩ := ltE h
      refine j_nm hx_64 ?_
      refine j_istore_n S D_M_lacks_64 (lv := [(3, .int x_64), (0, .ref (eb E + 91)), (1, .int b1), (2, .int b2), (4, .int b4)]) rfl ⟨rfl, (Nat.le_of_ble_eq_true rfl)⟩ ?_
      refine j_iinc S D_M_lacks_65 4 rfl (congrArg (fun z => b4 + z) ci_1) (lv := [(4, .int (b4 + 1)), (3, .int x_64), (0, .ref (eb E + 91)), (1, .int b1), (2, .int b2)]) rfl (Nat.le_of_ble_eq_true rfl) ?_
      refine j_goto S D_M_lacks_68 ?_
      refine j_locals [2, 3, 4, 1, 0] rfl (ih b1 b2 x_64 (b4 + 1) _ h hk)
theorem c_M_lacks (l : Launch) (E : En) (N : Nat) (a1 : Int32) {mem : Mm} {r : Int32} {m2 : Mm} (h : f_M_lacks N a1 mem = some (r, m2)) : CtI l E 6 y_M_lacks prog_9_method_42_code 5 (some .int) [.ref (eb E + 91), .int a1] SH mem r m2 := by
  refine mk_CtI ⟨by decide, (Nat.le_of_ble_eq_true rfl)⟩ (fun X S hl hR => ?_)
  have S : Std X E prog_9_method_42_code R6 5 6 := S
  show J X E 5 0 [(0, .ref (eb E + 91)), (1, .int a1)] [] SH mem
  unfold f_M_lacks at h
  refine j_iload_n S D_M_lacks_0 1 rfl rfl ?_
  refine j_iconst S D_M_lacks_1 ci_0 ?_
  refine j_bipush S D_M_lacks_2 cb_100 ?_
  obtain ⟨r_4, e_4, h⟩ := bpE h
  refine j_callSI (As := [.int a1, .int 0, .int 100]) S D_M_lacks_4 ms_R6_79 (c_M_in (cxL X) E a1 0 100 (mem := mem) e_4) (by decide) rfl rfl (Nat.le_of_ble_eq_true rfl) ?_
  refine j_if_ne S D_M_lacks_7 (fun c_7 => ?_) (fun c_7 => ?_)
  · have h := ifF c_7 h
    refine j_aload_n S D_M_lacks_13 0 rfl rfl ?_
    obtain ⟨m_14, e_14, h⟩ := bpE h
    refine j_callVV (As := []) S D_M_lacks_14 mv_R6_162 (c_M_thinks (cxL X) E N e_14) (by decide) sh_Mod rfl rfl rfl rfl (Nat.le_of_ble_eq_true rfl) ?_
    refine j_aload_n S D_M_lacks_17 0 rfl rfl ?_
    refine j_iload_n S D_M_lacks_18 1 rfl rfl ?_
    obtain ⟨r_19, m_19, e_19, h⟩ := bdE h
    refine j_callVI (As := [.int a1]) S D_M_lacks_19 mv_R6_156 (c_M_goesOn (cxL X) E N a1 e_19) (by decide) sh_Mod rfl rfl rfl rfl (Nat.le_of_ble_eq_true rfl) ?_
    refine j_istore_n S D_M_lacks_22 (lv := [(2, .int r_19), (0, .ref (eb E + 91)), (1, .int a1)]) rfl ⟨rfl, (Nat.le_of_ble_eq_true rfl)⟩ ?_
    refine j_iconst S D_M_lacks_23 ci_0 ?_
    refine j_istore_n S D_M_lacks_24 (lv := [(3, .int 0), (2, .int r_19), (0, .ref (eb E + 91)), (1, .int a1)]) rfl ⟨rfl, (Nat.le_of_ble_eq_true rfl)⟩ ?_
    refine j_iconst S D_M_lacks_25 ci_0 ?_
    refine j_istore S D_M_lacks_26 (lv := [(4, .int 0), (3, .int 0), (2, .int r_19), (0, .ref (eb E + 91)), (1, .int a1)]) rfl (Nat.le_of_ble_eq_true rfl) ?_
    refine j_locals [3, 4, 2, 1, 0] rfl ?_
    obtain ⟨y_28, e_28, h⟩ := bpE h
    refine L_M_lacks_28 S  N a1 r_19 0 0 _ e_28 ?_
    refine j_aload_n S D_M_lacks_71 0 rfl rfl ?_
    obtain ⟨m_72, e_72, h⟩ := bpE h
    refine j_callVV (As := []) S D_M_lacks_72 mv_R6_165 (c_M_putsBack (cxL X) E N e_72) (by decide) sh_Mod rfl rfl rfl rfl (Nat.le_of_ble_eq_true rfl) ?_
    refine j_iload_n S D_M_lacks_75 3 rfl rfl ?_
    exact rtM hR h _ _ D_M_lacks_76
  · have h := ifT c_7 h
    refine j_ldc S D_M_lacks_10 co_R6_87 ?_
    exact rtM hR h _ _ D_M_lacks_12

def y_M_dry : MethodName := ⟨"SandPictureModel", "dry", "(I)I"⟩
theorem D_M_dry_0 : decode prog_9_method_43_code 0 = .ok (.iload_n 1, 1) ∧ 0 + 1 = 1 := by decide +kernel
theorem D_M_dry_1 : decode prog_9_method_43_code 1 = .ok (.iconst 0, 1) ∧ 1 + 1 = 2 := by decide +kernel
theorem D_M_dry_2 : decode prog_9_method_43_code 2 = .ok (.iconst 2, 1) ∧ 2 + 1 = 3 := by decide +kernel
theorem D_M_dry_3 : decode prog_9_method_43_code 3 = .ok (.invokestatic 79, 3) ∧ 3 + 3 = 6 := by decide +kernel
theorem D_M_dry_6 : decode prog_9_method_43_code 6 = .ok (.ifCond .ne 6, 3) ∧ ((6 : Nat) : Int) + 6 = ((12 : Nat) : Int) ∧ 6 + 3 = 9 := by decide +kernel
theorem D_M_dry_12 : decode prog_9_method_43_code 12 = .ok (.aload_n 0, 1) ∧ 12 + 1 = 13 := by decide +kernel
theorem D_M_dry_13 : decode prog_9_method_43_code 13 = .ok (.invokevirtual 162, 3) ∧ 13 + 3 = 16 := by decide +kernel
theorem D_M_dry_16 : decode prog_9_method_43_code 16 = .ok (.iconst 0, 1) ∧ 16 + 1 = 17 := by decide +kernel
theorem D_M_dry_17 : decode prog_9_method_43_code 17 = .ok (.istore_n 2, 1) ∧ 17 + 1 = 18 := by decide +kernel
theorem D_M_dry_18 : decode prog_9_method_43_code 18 = .ok (.iload_n 2, 1) ∧ 18 + 1 = 19 := by decide +kernel
theorem D_M_dry_19 : decode prog_9_method_43_code 19 = .ok (.sipush 300, 3) ∧ 19 + 3 = 22 := by decide +kernel
theorem D_M_dry_22 : decode prog_9_method_43_code 22 = .ok (.if_icmp .gt 26, 3) ∧ ((22 : Nat) : Int) + 26 = ((48 : Nat) : Int) ∧ 22 + 3 = 25 := by decide +kernel
theorem D_M_dry_25 : decode prog_9_method_43_code 25 = .ok (.aload_n 0, 1) ∧ 25 + 1 = 26 := by decide +kernel
theorem D_M_dry_26 : decode prog_9_method_43_code 26 = .ok (.getfield 9, 3) ∧ 26 + 3 = 29 := by decide +kernel
theorem D_M_dry_29 : decode prog_9_method_43_code 29 = .ok (.bipush 7, 2) ∧ 29 + 2 = 31 := by decide +kernel
theorem D_M_dry_31 : decode prog_9_method_43_code 31 = .ok (.iload_n 1, 1) ∧ 31 + 1 = 32 := by decide +kernel
theorem D_M_dry_32 : decode prog_9_method_43_code 32 = .ok (.iadd, 1) ∧ 32 + 1 = 33 := by decide +kernel
theorem D_M_dry_33 : decode prog_9_method_43_code 33 = .ok (.iaload, 1) ∧ 33 + 1 = 34 := by decide +kernel
theorem D_M_dry_34 : decode prog_9_method_43_code 34 = .ok (.ifCond .le 14, 3) ∧ ((34 : Nat) : Int) + 14 = ((48 : Nat) : Int) ∧ 34 + 3 = 37 := by decide +kernel
theorem D_M_dry_37 : decode prog_9_method_43_code 37 = .ok (.aload_n 0, 1) ∧ 37 + 1 = 38 := by decide +kernel
theorem D_M_dry_38 : decode prog_9_method_43_code 38 = .ok (.invokevirtual 153, 3) ∧ 38 + 3 = 41 := by decide +kernel
theorem D_M_dry_41 : decode prog_9_method_43_code 41 = .ok (.istore_n 3, 1) ∧ 41 + 1 = 42 := by decide +kernel
theorem D_M_dry_42 : decode prog_9_method_43_code 42 = .ok (.iinc 2 1, 3) ∧ 42 + 3 = 45 := by decide +kernel
theorem D_M_dry_45 : decode prog_9_method_43_code 45 = .ok (.goto (-27), 3) ∧ ((45 : Nat) : Int) + (-27) = ((18 : Nat) : Int) := by decide +kernel
theorem D_M_dry_48 : decode prog_9_method_43_code 48 = .ok (.aload_n 0, 1) ∧ 48 + 1 = 49 := by decide +kernel
theorem D_M_dry_49 : decode prog_9_method_43_code 49 = .ok (.invokevirtual 165, 3) ∧ 49 + 3 = 52 := by decide +kernel
theorem D_M_dry_52 : decode prog_9_method_43_code 52 = .ok (.iload_n 2, 1) ∧ 52 + 1 = 53 := by decide +kernel
theorem D_M_dry_53 : decode prog_9_method_43_code 53 = .ok (.sipush 300, 3) ∧ 53 + 3 = 56 := by decide +kernel
theorem D_M_dry_63 : decode prog_9_method_43_code 63 = .ok (.ldc 168, 2) ∧ 63 + 2 = 65 := by decide +kernel
theorem D_M_dry_59 : decode prog_9_method_43_code 59 = .ok (.iload_n 2, 1) ∧ 59 + 1 = 60 := by decide +kernel
theorem D_M_dry_60 : decode prog_9_method_43_code 60 = .ok (.goto 5, 3) ∧ ((60 : Nat) : Int) + 5 = ((65 : Nat) : Int) := by decide +kernel
theorem D_M_dry_56 : decode prog_9_method_43_code 56 = .ok (.if_icmp .gt 7, 3) ∧ ((56 : Nat) : Int) + 7 = ((63 : Nat) : Int) ∧ 56 + 3 = 59 := by decide +kernel
theorem D_M_dry_65 : decode prog_9_method_43_code 65 = .ok (.ireturn, 1) := by decide +kernel
theorem D_M_dry_9 : decode prog_9_method_43_code 9 = .ok (.ldc 87, 2) ∧ 9 + 2 = 11 := by decide +kernel
theorem D_M_dry_11 : decode prog_9_method_43_code 11 = .ok (.ireturn, 1) := by decide +kernel
def f_M_dry_L18 (N : Nat)  : Nat → Int32 → Int32 → Mm → Option (Int32 × Mm)
  | 0, _, _, _ => none
  | n + 1, b1, b2, mem => if 300 < b2 then some (b2, mem) else if inb (7 + b1) 1436 = true then if mem 92 (ix (7 + b1)) ≤ 0 then some (b2, mem) else bd (f_M_hour N mem) fun r_38 m_38 => f_M_dry_L18 N n b1 (b2 + 1) m_38 else none
def f_M_dry (N : Nat) (a1 : Int32) (mem : Mm) : Option (Int32 × Mm) := bp (f_M_in a1 0 2) fun r_3 => if r_3 = 0 then some ((-1000000001), mem) else bp (f_M_thinks N mem) fun m_13 => bd (f_M_dry_L18 N N a1 0 m_13) fun y_18 m_18 => bp (f_M_putsBack N m_18) fun m_49 => some (if 300 < y_18 then ((-1000000005) : Int32) else y_18, m_49)
theorem L_M_dry_18 {X : Cx} {E : En} (S : Std X E prog_9_method_43_code R6 4 5) (N : Nat)  : ∀ (n : Nat) (b1 : Int32) (b2 : Int32) (mem : Mm) (z : Int32) (m2 : Mm), f_M_dry_L18 N n b1 b2 mem = some (z, m2) → J X E 4 48 [(0, .ref (eb E + 91)), (1, .int b1), (2, .int z)] [] SH m2 → J X E 4 18 [(0, .ref (eb E + 91)), (1, .int b1), (2, .int b2)] [] SH mem := by
  intro n
  induction n with
  | zero =>
    intro b1 b2 mem z m2 h hk; cases h
  | succ n ih =>
    intro b1 b2 mem z m2 h hk
    rw [f_M_dry_L18] at h
    refine j_iload_n S D_M_dry_18 2 rfl rfl ?_
    refine j_sipush S D_M_dry_19 cs_300 ?_
    refine j_icmp_gt S D_M_dry_22 (fun c_22 => ?_) (fun c_22 => ?_)
    · have h := ifT c_22 h
      cases h
      exact j_locals [0, 1, 2] rfl hk
    · have h := ifF c_22 h
      refine j_aload_n S D_M_dry_25 0 rfl rfl ?_
      refine j_getR S D_M_dry_26 fl_R6_9 sh_Mod rfl ?_
      refine j_bipush S D_M_dry_29 cb_7 ?_
      refine j_iload_n S D_M_dry_31 1 rfl rfl ?_
      refine j_iadd S D_M_dry_32 ?_
      obtain ⟨g_33, h⟩ := gdE h
      refine j_iald S D_M_dry_33 sh_92 g_33 ?_
      refine j_if_le S D_M_dry_34 (fun c_34 => ?_) (fun c_34 => ?_)
      · have h := ifT c_34 h
        cases h
        exact j_locals [0, 1, 2] rfl hk
      · have h := ifF c_34 h
        refine j_aload_n S D_M_dry_37 0 rfl rfl ?_
        obtain ⟨r_38, m_38, e_38, h⟩ := bdE h
        refine j_callVI (As := []) S D_M_dry_38 mv_R6_153 (c_M_hour (cxL X) E N e_38) (by decide) sh_Mod rfl rfl rfl rfl (Nat.le_of_ble_eq_true rfl) ?_
        refine j_istore_n S D_M_dry_41 (lv := [(3, .int r_38), (0, .ref (eb E + 91)), (1, .int b1), (2, .int b2)]) rfl ⟨rfl, (Nat.le_of_ble_eq_true rfl)⟩ ?_
        refine j_iinc S D_M_dry_42 3 rfl (congrArg (fun z => b2 + z) ci_1) (lv := [(2, .int (b2 + 1)), (3, .int r_38), (0, .ref (eb E + 91)), (1, .int b1)]) rfl (Nat.le_of_ble_eq_true rfl) ?_
        refine j_goto S D_M_dry_45 ?_
        refine j_locals [2, 3, 0] rfl (ih b1 (b2 + 1) m_38 _ _ h hk)
theorem c_M_dry (l : Launch) (E : En) (N : Nat) (a1 : Int32) {mem : Mm} {r : Int32} {m2 : Mm} (h : f_M_dry N a1 mem = some (r, m2)) : CtI l E 5 y_M_dry prog_9_method_43_code 4 (some .int) [.ref (eb E + 91), .int a1] SH mem r m2 := by
  refine mk_CtI ⟨by decide, (Nat.le_of_ble_eq_true rfl)⟩ (fun X S hl hR => ?_)
  have S : Std X E prog_9_method_43_code R6 4 5 := S
  show J X E 4 0 [(0, .ref (eb E + 91)), (1, .int a1)] [] SH mem
  unfold f_M_dry at h
  refine j_iload_n S D_M_dry_0 1 rfl rfl ?_
  refine j_iconst S D_M_dry_1 ci_0 ?_
  refine j_iconst S D_M_dry_2 ci_2 ?_
  obtain ⟨r_3, e_3, h⟩ := bpE h
  refine j_callSI (As := [.int a1, .int 0, .int 2]) S D_M_dry_3 ms_R6_79 (c_M_in (cxL X) E a1 0 2 (mem := mem) e_3) (by decide) rfl rfl (Nat.le_of_ble_eq_true rfl) ?_
  refine j_if_ne S D_M_dry_6 (fun c_6 => ?_) (fun c_6 => ?_)
  · have h := ifF c_6 h
    refine j_aload_n S D_M_dry_12 0 rfl rfl ?_
    obtain ⟨m_13, e_13, h⟩ := bpE h
    refine j_callVV (As := []) S D_M_dry_13 mv_R6_162 (c_M_thinks (cxL X) E N e_13) (by decide) sh_Mod rfl rfl rfl rfl (Nat.le_of_ble_eq_true rfl) ?_
    refine j_iconst S D_M_dry_16 ci_0 ?_
    refine j_istore_n S D_M_dry_17 (lv := [(2, .int 0), (0, .ref (eb E + 91)), (1, .int a1)]) rfl ⟨rfl, (Nat.le_of_ble_eq_true rfl)⟩ ?_
    refine j_locals [1, 2, 0] rfl ?_
    obtain ⟨y_18, m_18, e_18, h⟩ := bdE h
    refine L_M_dry_18 S N N a1 0 m_13 _ _ e_18 ?_
    refine j_aload_n S D_M_dry_48 0 rfl rfl ?_
    obtain ⟨m_49, e_49, h⟩ := bpE h
    refine j_callVV (As := []) S D_M_dry_49 mv_R6_165 (c_M_putsBack (cxL X) E N e_49) (by decide) sh_Mod rfl rfl rfl rfl (Nat.le_of_ble_eq_true rfl) ?_
    refine j_iload_n S D_M_dry_52 2 rfl rfl ?_
    refine j_sipush S D_M_dry_53 cs_300 ?_
    refine j_dia (P := J X E 4 65 [(0, .ref (eb E + 91)), (1, .int a1), (2, .int y_18)] [.int (if 300 < y_18 then ((-1000000005) : Int32) else y_18)] SH m_49) (fun hj => ?_) ?_
    · refine j_icmp_gt S D_M_dry_56 (fun c_56 => ?_) (fun c_56 => ?_)
      · refine j_ldc S D_M_dry_63 co_R6_168 ?_
        exact j_jnT hj c_56
      · refine j_iload_n S D_M_dry_59 2 rfl rfl ?_
        refine j_goto S D_M_dry_60 ?_
        exact j_jnF hj c_56
    exact rtM hR h _ _ D_M_dry_65
  · have h := ifT c_6 h
    refine j_ldc S D_M_dry_9 co_R6_87 ?_
    exact rtM hR h _ _ D_M_dry_11

def y_M_goes : MethodName := ⟨"SandPictureModel", "goes", "(III)I"⟩
theorem D_M_goes_0 : decode prog_9_method_44_code 0 = .ok (.aload_n 0, 1) ∧ 0 + 1 = 1 := by decide +kernel
theorem D_M_goes_1 : decode prog_9_method_44_code 1 = .ok (.iload_n 1, 1) ∧ 1 + 1 = 2 := by decide +kernel
theorem D_M_goes_2 : decode prog_9_method_44_code 2 = .ok (.invokevirtual 97, 3) ∧ 2 + 3 = 5 := by decide +kernel
theorem D_M_goes_5 : decode prog_9_method_44_code 5 = .ok (.ifCond .eq 22, 3) ∧ ((5 : Nat) : Int) + 22 = ((27 : Nat) : Int) ∧ 5 + 3 = 8 := by decide +kernel
theorem D_M_goes_27 : decode prog_9_method_44_code 27 = .ok (.ldc 87, 2) ∧ 27 + 2 = 29 := by decide +kernel
theorem D_M_goes_29 : decode prog_9_method_44_code 29 = .ok (.ireturn, 1) := by decide +kernel
theorem D_M_goes_8 : decode prog_9_method_44_code 8 = .ok (.iload_n 2, 1) ∧ 8 + 1 = 9 := by decide +kernel
theorem D_M_goes_9 : decode prog_9_method_44_code 9 = .ok (.iconst 1, 1) ∧ 9 + 1 = 10 := by decide +kernel
theorem D_M_goes_10 : decode prog_9_method_44_code 10 = .ok (.bipush 60, 2) ∧ 10 + 2 = 12 := by decide +kernel
theorem D_M_goes_12 : decode prog_9_method_44_code 12 = .ok (.invokestatic 79, 3) ∧ 12 + 3 = 15 := by decide +kernel
theorem D_M_goes_15 : decode prog_9_method_44_code 15 = .ok (.ifCond .eq 12, 3) ∧ ((15 : Nat) : Int) + 12 = ((27 : Nat) : Int) ∧ 15 + 3 = 18 := by decide +kernel
theorem D_M_goes_18 : decode prog_9_method_44_code 18 = .ok (.iload_n 3, 1) ∧ 18 + 1 = 19 := by decide +kernel
theorem D_M_goes_19 : decode prog_9_method_44_code 19 = .ok (.iconst 0, 1) ∧ 19 + 1 = 20 := by decide +kernel
theorem D_M_goes_20 : decode prog_9_method_44_code 20 = .ok (.iconst 1, 1) ∧ 20 + 1 = 21 := by decide +kernel
theorem D_M_goes_21 : decode prog_9_method_44_code 21 = .ok (.invokestatic 79, 3) ∧ 21 + 3 = 24 := by decide +kernel
theorem D_M_goes_24 : decode prog_9_method_44_code 24 = .ok (.ifCond .ne 6, 3) ∧ ((24 : Nat) : Int) + 6 = ((30 : Nat) : Int) ∧ 24 + 3 = 27 := by decide +kernel
theorem D_M_goes_30 : decode prog_9_method_44_code 30 = .ok (.aload_n 0, 1) ∧ 30 + 1 = 31 := by decide +kernel
theorem D_M_goes_31 : decode prog_9_method_44_code 31 = .ok (.invokevirtual 162, 3) ∧ 31 + 3 = 34 := by decide +kernel
theorem D_M_goes_34 : decode prog_9_method_44_code 34 = .ok (.iconst 0, 1) ∧ 34 + 1 = 35 := by decide +kernel
theorem D_M_goes_35 : decode prog_9_method_44_code 35 = .ok (.istore 4, 2) ∧ 35 + 2 = 37 := by decide +kernel
theorem D_M_goes_37 : decode prog_9_method_44_code 37 = .ok (.iconst (-1), 1) ∧ 37 + 1 = 38 := by decide +kernel
theorem D_M_goes_38 : decode prog_9_method_44_code 38 = .ok (.istore 5, 2) ∧ 38 + 2 = 40 := by decide +kernel
theorem D_M_goes_40 : decode prog_9_method_44_code 40 = .ok (.iconst 0, 1) ∧ 40 + 1 = 41 := by decide +kernel
theorem D_M_goes_41 : decode prog_9_method_44_code 41 = .ok (.istore 6, 2) ∧ 41 + 2 = 43 := by decide +kernel
theorem D_M_goes_43 : decode prog_9_method_44_code 43 = .ok (.iload 6, 2) ∧ 43 + 2 = 45 := by decide +kernel
theorem D_M_goes_45 : decode prog_9_method_44_code 45 = .ok (.bipush 6, 2) ∧ 45 + 2 = 47 := by decide +kernel
theorem D_M_goes_47 : decode prog_9_method_44_code 47 = .ok (.if_icmp .ge 74, 3) ∧ ((47 : Nat) : Int) + 74 = ((121 : Nat) : Int) ∧ 47 + 3 = 50 := by decide +kernel
theorem D_M_goes_50 : decode prog_9_method_44_code 50 = .ok (.aload_n 0, 1) ∧ 50 + 1 = 51 := by decide +kernel
theorem D_M_goes_51 : decode prog_9_method_44_code 51 = .ok (.getfield 9, 3) ∧ 51 + 3 = 54 := by decide +kernel
theorem D_M_goes_54 : decode prog_9_method_44_code 54 = .ok (.bipush 34, 2) ∧ 54 + 2 = 56 := by decide +kernel
theorem D_M_goes_56 : decode prog_9_method_44_code 56 = .ok (.iconst 3, 1) ∧ 56 + 1 = 57 := by decide +kernel
theorem D_M_goes_57 : decode prog_9_method_44_code 57 = .ok (.iload_n 1, 1) ∧ 57 + 1 = 58 := by decide +kernel
theorem D_M_goes_58 : decode prog_9_method_44_code 58 = .ok (.imul, 1) ∧ 58 + 1 = 59 := by decide +kernel
theorem D_M_goes_59 : decode prog_9_method_44_code 59 = .ok (.iadd, 1) ∧ 59 + 1 = 60 := by decide +kernel
theorem D_M_goes_60 : decode prog_9_method_44_code 60 = .ok (.iconst 2, 1) ∧ 60 + 1 = 61 := by decide +kernel
theorem D_M_goes_61 : decode prog_9_method_44_code 61 = .ok (.iadd, 1) ∧ 61 + 1 = 62 := by decide +kernel
theorem D_M_goes_62 : decode prog_9_method_44_code 62 = .ok (.iload 6, 2) ∧ 62 + 2 = 64 := by decide +kernel
theorem D_M_goes_64 : decode prog_9_method_44_code 64 = .ok (.iastore, 1) ∧ 64 + 1 = 65 := by decide +kernel
theorem D_M_goes_65 : decode prog_9_method_44_code 65 = .ok (.aload_n 0, 1) ∧ 65 + 1 = 66 := by decide +kernel
theorem D_M_goes_66 : decode prog_9_method_44_code 66 = .ok (.iload_n 2, 1) ∧ 66 + 1 = 67 := by decide +kernel
theorem D_M_goes_67 : decode prog_9_method_44_code 67 = .ok (.invokevirtual 156, 3) ∧ 67 + 3 = 70 := by decide +kernel
theorem D_M_goes_70 : decode prog_9_method_44_code 70 = .ok (.istore 7, 2) ∧ 70 + 2 = 72 := by decide +kernel
theorem D_M_goes_72 : decode prog_9_method_44_code 72 = .ok (.aload_n 0, 1) ∧ 72 + 1 = 73 := by decide +kernel
theorem D_M_goes_73 : decode prog_9_method_44_code 73 = .ok (.iconst 3, 1) ∧ 73 + 1 = 74 := by decide +kernel
theorem D_M_goes_74 : decode prog_9_method_44_code 74 = .ok (.invokevirtual 159, 3) ∧ 74 + 3 = 77 := by decide +kernel
theorem D_M_goes_77 : decode prog_9_method_44_code 77 = .ok (.istore 8, 2) ∧ 77 + 2 = 79 := by decide +kernel
theorem D_M_goes_79 : decode prog_9_method_44_code 79 = .ok (.aload_n 0, 1) ∧ 79 + 1 = 80 := by decide +kernel
theorem D_M_goes_80 : decode prog_9_method_44_code 80 = .ok (.invokevirtual 165, 3) ∧ 80 + 3 = 83 := by decide +kernel
theorem D_M_goes_83 : decode prog_9_method_44_code 83 = .ok (.iload 8, 2) ∧ 83 + 2 = 85 := by decide +kernel
theorem D_M_goes_85 : decode prog_9_method_44_code 85 = .ok (.iload 5, 2) ∧ 85 + 2 = 87 := by decide +kernel
theorem D_M_goes_95 : decode prog_9_method_44_code 95 = .ok (.iload 4, 2) ∧ 95 + 2 = 97 := by decide +kernel
theorem D_M_goes_90 : decode prog_9_method_44_code 90 = .ok (.iload 6, 2) ∧ 90 + 2 = 92 := by decide +kernel
theorem D_M_goes_92 : decode prog_9_method_44_code 92 = .ok (.goto 5, 3) ∧ ((92 : Nat) : Int) + 5 = ((97 : Nat) : Int) := by decide +kernel
theorem D_M_goes_87 : decode prog_9_method_44_code 87 = .ok (.if_icmp .le 8, 3) ∧ ((87 : Nat) : Int) + 8 = ((95 : Nat) : Int) ∧ 87 + 3 = 90 := by decide +kernel
theorem D_M_goes_97 : decode prog_9_method_44_code 97 = .ok (.istore 4, 2) ∧ 97 + 2 = 99 := by decide +kernel
theorem D_M_goes_99 : decode prog_9_method_44_code 99 = .ok (.iload 8, 2) ∧ 99 + 2 = 101 := by decide +kernel
theorem D_M_goes_101 : decode prog_9_method_44_code 101 = .ok (.iload 5, 2) ∧ 101 + 2 = 103 := by decide +kernel
theorem D_M_goes_111 : decode prog_9_method_44_code 111 = .ok (.iload 5, 2) ∧ 111 + 2 = 113 := by decide +kernel
theorem D_M_goes_106 : decode prog_9_method_44_code 106 = .ok (.iload 8, 2) ∧ 106 + 2 = 108 := by decide +kernel
theorem D_M_goes_108 : decode prog_9_method_44_code 108 = .ok (.goto 5, 3) ∧ ((108 : Nat) : Int) + 5 = ((113 : Nat) : Int) := by decide +kernel
theorem D_M_goes_103 : decode prog_9_method_44_code 103 = .ok (.if_icmp .le 8, 3) ∧ ((103 : Nat) : Int) + 8 = ((111 : Nat) : Int) ∧ 103 + 3 = 106 := by decide +kernel
theorem D_M_goes_113 : decode prog_9_method_44_code 113 = .ok (.istore 5, 2) ∧ 113 + 2 = 115 := by decide +kernel
theorem D_M_goes_115 : decode prog_9_method_44_code 115 = .ok (.iinc 6 1, 3) ∧ 115 + 3 = 118 := by decide +kernel
theorem D_M_goes_118 : decode prog_9_method_44_code 118 = .ok (.goto (-75), 3) ∧ ((118 : Nat) : Int) + (-75) = ((43 : Nat) : Int) := by decide +kernel
theorem D_M_goes_121 : decode prog_9_method_44_code 121 = .ok (.iload_n 3, 1) ∧ 121 + 1 = 122 := by decide +kernel
theorem D_M_goes_130 : decode prog_9_method_44_code 130 = .ok (.iload 5, 2) ∧ 130 + 2 = 132 := by decide +kernel
theorem D_M_goes_125 : decode prog_9_method_44_code 125 = .ok (.iload 4, 2) ∧ 125 + 2 = 127 := by decide +kernel
theorem D_M_goes_127 : decode prog_9_method_44_code 127 = .ok (.goto 5, 3) ∧ ((127 : Nat) : Int) + 5 = ((132 : Nat) : Int) := by decide +kernel
theorem D_M_goes_122 : decode prog_9_method_44_code 122 = .ok (.ifCond .ne 8, 3) ∧ ((122 : Nat) : Int) + 8 = ((130 : Nat) : Int) ∧ 122 + 3 = 125 := by decide +kernel
theorem D_M_goes_132 : decode prog_9_method_44_code 132 = .ok (.ireturn, 1) := by decide +kernel
def f_M_goes_L43 (N : Nat)  : Nat → Int32 → Int32 → Int32 → Int32 → Int32 → Int32 → Mm → Option ((Int32 × Int32 × Int32) × Mm)
  | 0, _, _, _, _, _, _, _ => none
  | n + 1, b1, b2, b3, b4, b5, b6, mem => if 6 ≤ b6 then some ((b4, b5, b6), mem) else if inb ((34 + (3 * b1)) + 2) 1436 = true then lt (mst mem 92 (ix ((34 + (3 * b1)) + 2)) b6) fun m_64 => bd (f_M_goesOn N b2 m_64) fun r_67 m_67 => bp (f_M_sumOf N 3 m_67) fun r_74 => bp (f_M_putsBack N m_67) fun m_80 => lt (if r_74 ≤ b5 then b4 else b6) fun x_97 => lt (if r_74 ≤ b5 then b5 else r_74) fun x_113 => f_M_goes_L43 N n b1 b2 b3 x_97 x_113 (b6 + 1) m_80 else none
def f_M_goes (N : Nat) (a1 : Int32) (a2 : Int32) (a3 : Int32) (mem : Mm) : Option (Int32 × Mm) := bp (f_M_isMonk a1 mem) fun r_2 => if r_2 = 0 then some ((-1000000001), mem) else bp (f_M_in a2 1 60) fun r_12 => if r_12 = 0 then some ((-1000000001), mem) else bp (f_M_in a3 0 1) fun r_21 => if r_21 = 0 then some ((-1000000001), mem) else bp (f_M_thinks N mem) fun m_31 => bd (f_M_goes_L43 N N a1 a2 a3 0 (-1) 0 m_31) fun y_43 m_43 => some (if a3 = 0 then y_43.1 else y_43.2.1, m_43)
theorem L_M_goes_43 {X : Cx} {E : En} (S : Std X E prog_9_method_44_code R6 9 6) (N : Nat)  : ∀ (n : Nat) (b1 : Int32) (b2 : Int32) (b3 : Int32) (b4 : Int32) (b5 : Int32) (b6 : Int32) (mem : Mm) (z : Int32 × Int32 × Int32) (m2 : Mm), f_M_goes_L43 N n b1 b2 b3 b4 b5 b6 mem = some (z, m2) → J X E 9 121 [(0, .ref (eb E + 91)), (1, .int b1), (2, .int b2), (3, .int b3), (4, .int z.1), (5, .int z.2.1), (6, .int z.2.2)] [] SH m2 → J X E 9 43 [(0, .ref (eb E + 91)), (1, .int b1), (2, .int b2), (3, .int b3), (4, .int b4), (5, .int b5), (6, .int b6)] [] SH mem := by
  intro n
  induction n with
  | zero =>
    intro b1 b2 b3 b4 b5 b6 mem z m2 h hk; cases h
  | succ n ih =>
    intro b1 b2 b3 b4 b5 b6 mem z m2 h hk
    rw [f_M_goes_L43] at h
    refine j_iload S D_M_goes_43 6 rfl ?_
    refine j_bipush S D_M_goes_45 cb_6 ?_
    refine j_icmp_ge S D_M_goes_47 (fun c_47 => ?_) (fun c_47 => ?_)
    · have h := ifT c_47 h
      cases h
      exact j_locals [0, 1, 2, 3, 4, 5, 6] rfl hk
    · have h := ifF c_47 h
      refine j_aload_n S D_M_goes_50 0 rfl rfl ?_
      refine j_getR S D_M_goes_51 fl_R6_9 sh_Mod rfl ?_
      refine j_bipush S D_M_goes_54 cb_34 ?_
      refine j_iconst S D_M_goes_56 ci_3 ?_
      refine j_iload_n S D_M_goes_57 1 rfl rfl ?_
      refine j_imul S D_M_goes_58 ?_
      refine j_iadd S D_M_goes_59 ?_
      refine j_iconst S D_M_goes_60 ci_2 ?_
      refine j_iadd S D_M_goes_61 ?_
      refine j_iload S D_M_goes_62 6 rfl ?_
      obtain ⟨g_64, h⟩ := gdE h
      obtain ⟨m_64, hm_64, h⟩ := ltE h
      refine j_iast S D_M_goes_64 sh_92 g_64 ?_
      refine j_mem hm_64 ?_
      refine j_aload_n S D_M_goes_65 0 rfl rfl ?_
      refine j_iload_n S D_M_goes_66 2 rfl rfl ?_
      obtain ⟨r_67, m_67, e_67, h⟩ := bdE h
      refine j_callVI (As := [.int b2]) S D_M_goes_67 mv_R6_156 (c_M_goesOn (cxL X) E N b2 e_67) (by decide) sh_Mod rfl rfl rfl rfl (Nat.le_of_ble_eq_true rfl) ?_
      refine j_istore S D_M_goes_70 (lv := [(7, .int r_67), (0, .ref (eb E + 91)), (1, .int b1), (2, .int b2), (3, .int b3), (4, .int b4), (5, .int b5), (6, .int b6)]) rfl (Nat.le_of_ble_eq_true rfl) ?_
      refine j_aload_n S D_M_goes_72 1 rfl rfl ?_
      refine j_iconst S D_M_goes_73 ci_3 ?_
      obtain ⟨r_74, e_74, h⟩ := bpE h
      refine j_callVI (As := [.int 3]) S D_M_goes_74 mv_R6_159 (c_M_sumOf (cxL X) E N 3 e_74) (by decide) sh_Mod rfl rfl rfl rfl (Nat.le_of_ble_eq_true rfl) ?_
      refine j_istore S D_M_goes_77 (lv := [(8, .int r_74), (7, .int r_67), (0, .ref (eb E + 91)), (1, .int b1), (2, .int b2), (3, .int b3), (4, .int b4), (5, .int b5), (6, .int b6)]) rfl (Nat.le_of_ble_eq_true rfl) ?_
      refine j_aload_n S D_M_goes_79 2 rfl rfl ?_
      obtain ⟨m_80, e_80, h⟩ := bpE h
      refine j_callVV (As := []) S D_M_goes_80 mv_R6_165 (c_M_putsBack (cxL X) E N e_80) (by decide) sh_Mod rfl rfl rfl rfl (Nat.le_of_ble_eq_true rfl) ?_
      refine j_iload S D_M_goes_83 0 rfl ?_
      refine j_iload S D_M_goes_85 7 rfl ?_
      refine j_dia (P := J X E 9 97 [(8, .int r_74), (7, .int r_67), (0, .ref (eb E + 91)), (1, .int b1), (2, .int b2), (3, .int b3), (4, .int b4), (5, .int b5), (6, .int b6)] [.int (if r_74 ≤ b5 then b4 else b6)] SH m_80) (fun hj => ?_) ?_
      · refine j_icmp_le S D_M_goes_87 (fun c_87 => ?_) (fun c_87 => ?_)
        · refine j_iload S D_M_goes_95 6 rfl ?_
          exact j_jnT hj c_87
        · refine j_iload S D_M_goes_90 8 rfl ?_
          refine j_goto S D_M_goes_92 ?_
          exact j_jnF hj c_87
      obtain ⟨x_97, hx_97, h⟩ := ltE h
      refine j_nm hx_97 ?_
      refine j_istore S D_M_goes_97 (lv := [(4, .int x_97), (8, .int r_74), (7, .int r_67), (0, .ref (eb E + 91)), (1, .int b1), (2, .int b2), (3, .int b3), (5, .int b5), (6, .int b6)]) rfl (Nat.le_of_ble_eq_true rfl) ?_
      refine j_iload S D_M_goes_99 1 rfl ?_
      refine j_iload S D_M_goes_101 7 rfl ?_
      refine j_dia (P := J X E 9 113 [(4, .int x_97), (8, .int r_74), (7, .int r_67), (0, .ref (eb E + 91)), (1, .int b1), (2, .int b2), (3, .int b3), (5, .int b5), (6, .int b6)] [.int (if r_74 ≤ b5 then b5 else r_74)] SH m_80) (fun hj => ?_) ?_
      · refine j_icmp_le S D_M_goes_103 (fun c_103 => ?_) (fun c_103 => ?_)
        · refine j_iload S D_M_goes_111 7 rfl ?_
          exact j_jnT hj c_103
        · refine j_iload S D_M_goes_106 1 rfl ?_
          refine j_goto S D_M_goes_108 ?_
          exact j_jnF hj c_103
      obtain ⟨x_113, hx_113, h⟩ := ltE h
      refine j_nm hx_113 ?_
      refine j_istore S D_M_goes_113 (lv := [(5, .int x_113), (4, .int x_97), (8, .int r_74), (7, .int r_67), (0, .ref (eb E + 91)), (1, .int b1), (2, .int b2), (3, .int b3), (6, .int b6)]) rfl (Nat.le_of_ble_eq_true rfl) ?_
      refine j_iinc S D_M_goes_115 8 rfl (congrArg (fun z => b6 + z) ci_1) (lv := [(6, .int (b6 + 1)), (5, .int x_113), (4, .int x_97), (8, .int r_74), (7, .int r_67), (0, .ref (eb E + 91)), (1, .int b1), (2, .int b2), (3, .int b3)]) rfl (Nat.le_of_ble_eq_true rfl) ?_
      refine j_goto S D_M_goes_118 ?_
      refine j_locals [5, 6, 7, 8, 2, 1, 0] rfl (ih b1 b2 b3 x_97 x_113 (b6 + 1) m_80 _ _ h hk)
theorem c_M_goes (l : Launch) (E : En) (N : Nat) (a1 : Int32) (a2 : Int32) (a3 : Int32) {mem : Mm} {r : Int32} {m2 : Mm} (h : f_M_goes N a1 a2 a3 mem = some (r, m2)) : CtI l E 6 y_M_goes prog_9_method_44_code 9 (some .int) [.ref (eb E + 91), .int a1, .int a2, .int a3] SH mem r m2 := by
  refine mk_CtI ⟨by decide, (Nat.le_of_ble_eq_true rfl)⟩ (fun X S hl hR => ?_)
  have S : Std X E prog_9_method_44_code R6 9 6 := S
  show J X E 9 0 [(0, .ref (eb E + 91)), (1, .int a1), (2, .int a2), (3, .int a3)] [] SH mem
  unfold f_M_goes at h
  refine j_aload_n S D_M_goes_0 0 rfl rfl ?_
  refine j_iload_n S D_M_goes_1 1 rfl rfl ?_
  obtain ⟨r_2, e_2, h⟩ := bpE h
  refine j_callVI (As := [.int a1]) S D_M_goes_2 mv_R6_97 (c_M_isMonk (cxL X) E a1 e_2) (by decide) sh_Mod rfl rfl rfl rfl (Nat.le_of_ble_eq_true rfl) ?_
  refine j_if_eq S D_M_goes_5 (fun c_5 => ?_) (fun c_5 => ?_)
  · have h := ifT c_5 h
    refine j_ldc S D_M_goes_27 co_R6_87 ?_
    exact rtM hR h _ _ D_M_goes_29
  · have h := ifF c_5 h
    refine j_iload_n S D_M_goes_8 2 rfl rfl ?_
    refine j_iconst S D_M_goes_9 ci_1 ?_
    refine j_bipush S D_M_goes_10 cb_60 ?_
    obtain ⟨r_12, e_12, h⟩ := bpE h
    refine j_callSI (As := [.int a2, .int 1, .int 60]) S D_M_goes_12 ms_R6_79 (c_M_in (cxL X) E a2 1 60 (mem := mem) e_12) (by decide) rfl rfl (Nat.le_of_ble_eq_true rfl) ?_
    refine j_if_eq S D_M_goes_15 (fun c_15 => ?_) (fun c_15 => ?_)
    · have h := ifT c_15 h
      refine j_ldc S D_M_goes_27 co_R6_87 ?_
      exact rtM hR h _ _ D_M_goes_29
    · have h := ifF c_15 h
      refine j_iload_n S D_M_goes_18 3 rfl rfl ?_
      refine j_iconst S D_M_goes_19 ci_0 ?_
      refine j_iconst S D_M_goes_20 ci_1 ?_
      obtain ⟨r_21, e_21, h⟩ := bpE h
      refine j_callSI (As := [.int a3, .int 0, .int 1]) S D_M_goes_21 ms_R6_79 (c_M_in (cxL X) E a3 0 1 (mem := mem) e_21) (by decide) rfl rfl (Nat.le_of_ble_eq_true rfl) ?_
      refine j_if_ne S D_M_goes_24 (fun c_24 => ?_) (fun c_24 => ?_)
      · have h := ifF c_24 h
        refine j_aload_n S D_M_goes_30 0 rfl rfl ?_
        obtain ⟨m_31, e_31, h⟩ := bpE h
        refine j_callVV (As := []) S D_M_goes_31 mv_R6_162 (c_M_thinks (cxL X) E N e_31) (by decide) sh_Mod rfl rfl rfl rfl (Nat.le_of_ble_eq_true rfl) ?_
        refine j_iconst S D_M_goes_34 ci_0 ?_
        refine j_istore S D_M_goes_35 (lv := [(4, .int 0), (0, .ref (eb E + 91)), (1, .int a1), (2, .int a2), (3, .int a3)]) rfl (Nat.le_of_ble_eq_true rfl) ?_
        refine j_iconst S D_M_goes_37 ci_m1 ?_
        refine j_istore S D_M_goes_38 (lv := [(5, .int (-1)), (4, .int 0), (0, .ref (eb E + 91)), (1, .int a1), (2, .int a2), (3, .int a3)]) rfl (Nat.le_of_ble_eq_true rfl) ?_
        refine j_iconst S D_M_goes_40 ci_0 ?_
        refine j_istore S D_M_goes_41 (lv := [(6, .int 0), (5, .int (-1)), (4, .int 0), (0, .ref (eb E + 91)), (1, .int a1), (2, .int a2), (3, .int a3)]) rfl (Nat.le_of_ble_eq_true rfl) ?_
        refine j_locals [3, 4, 5, 6, 2, 1, 0] rfl ?_
        obtain ⟨y_43, m_43, e_43, h⟩ := bdE h
        refine L_M_goes_43 S N N a1 a2 a3 0 (-1) 0 m_31 _ _ e_43 ?_
        refine j_iload_n S D_M_goes_121 3 rfl rfl ?_
        refine j_dia (P := J X E 9 132 [(0, .ref (eb E + 91)), (1, .int a1), (2, .int a2), (3, .int a3), (4, .int y_43.1), (5, .int y_43.2.1), (6, .int y_43.2.2)] [.int (if a3 = 0 then y_43.1 else y_43.2.1)] SH m_43) (fun hj => ?_) ?_
        · refine j_if_ne S D_M_goes_122 (fun c_122 => ?_) (fun c_122 => ?_)
          · refine j_iload S D_M_goes_130 5 rfl ?_
            exact j_jnF hj c_122
          · refine j_iload S D_M_goes_125 4 rfl ?_
            refine j_goto S D_M_goes_127 ?_
            exact j_jnT hj c_122
        exact rtM hR h _ _ D_M_goes_132
      · have h := ifT c_24 h
        refine j_ldc S D_M_goes_27 co_R6_87 ?_
        exact rtM hR h _ _ D_M_goes_29

def y_M_blamed : MethodName := ⟨"SandPictureModel", "blamed", "(I)I"⟩
theorem D_M_blamed_0 : decode prog_9_method_45_code 0 = .ok (.iload_n 1, 1) ∧ 0 + 1 = 1 := by decide +kernel
theorem D_M_blamed_1 : decode prog_9_method_45_code 1 = .ok (.iconst 1, 1) ∧ 1 + 1 = 2 := by decide +kernel
theorem D_M_blamed_2 : decode prog_9_method_45_code 2 = .ok (.bipush 60, 2) ∧ 2 + 2 = 4 := by decide +kernel
theorem D_M_blamed_4 : decode prog_9_method_45_code 4 = .ok (.invokestatic 79, 3) ∧ 4 + 3 = 7 := by decide +kernel
theorem D_M_blamed_7 : decode prog_9_method_45_code 7 = .ok (.ifCond .ne 6, 3) ∧ ((7 : Nat) : Int) + 6 = ((13 : Nat) : Int) ∧ 7 + 3 = 10 := by decide +kernel
theorem D_M_blamed_13 : decode prog_9_method_45_code 13 = .ok (.aload_n 0, 1) ∧ 13 + 1 = 14 := by decide +kernel
theorem D_M_blamed_14 : decode prog_9_method_45_code 14 = .ok (.invokevirtual 162, 3) ∧ 14 + 3 = 17 := by decide +kernel
theorem D_M_blamed_17 : decode prog_9_method_45_code 17 = .ok (.ldc 168, 2) ∧ 17 + 2 = 19 := by decide +kernel
theorem D_M_blamed_19 : decode prog_9_method_45_code 19 = .ok (.istore_n 2, 1) ∧ 19 + 1 = 20 := by decide +kernel
theorem D_M_blamed_20 : decode prog_9_method_45_code 20 = .ok (.iconst 0, 1) ∧ 20 + 1 = 21 := by decide +kernel
theorem D_M_blamed_21 : decode prog_9_method_45_code 21 = .ok (.istore_n 3, 1) ∧ 21 + 1 = 22 := by decide +kernel
theorem D_M_blamed_22 : decode prog_9_method_45_code 22 = .ok (.iconst 0, 1) ∧ 22 + 1 = 23 := by decide +kernel
theorem D_M_blamed_23 : decode prog_9_method_45_code 23 = .ok (.istore 4, 2) ∧ 23 + 2 = 25 := by decide +kernel
theorem D_M_blamed_25 : decode prog_9_method_45_code 25 = .ok (.iload 4, 2) ∧ 25 + 2 = 27 := by decide +kernel
theorem D_M_blamed_27 : decode prog_9_method_45_code 27 = .ok (.aload_n 0, 1) ∧ 27 + 1 = 28 := by decide +kernel
theorem D_M_blamed_28 : decode prog_9_method_45_code 28 = .ok (.getfield 9, 3) ∧ 28 + 3 = 31 := by decide +kernel
theorem D_M_blamed_31 : decode prog_9_method_45_code 31 = .ok (.iconst 1, 1) ∧ 31 + 1 = 32 := by decide +kernel
theorem D_M_blamed_32 : decode prog_9_method_45_code 32 = .ok (.iaload, 1) ∧ 32 + 1 = 33 := by decide +kernel
theorem D_M_blamed_33 : decode prog_9_method_45_code 33 = .ok (.if_icmp .ge 72, 3) ∧ ((33 : Nat) : Int) + 72 = ((105 : Nat) : Int) ∧ 33 + 3 = 36 := by decide +kernel
theorem D_M_blamed_36 : decode prog_9_method_45_code 36 = .ok (.aload_n 0, 1) ∧ 36 + 1 = 37 := by decide +kernel
theorem D_M_blamed_37 : decode prog_9_method_45_code 37 = .ok (.iload 4, 2) ∧ 37 + 2 = 39 := by decide +kernel
theorem D_M_blamed_39 : decode prog_9_method_45_code 39 = .ok (.putfield 19, 3) ∧ 39 + 3 = 42 := by decide +kernel
theorem D_M_blamed_42 : decode prog_9_method_45_code 42 = .ok (.aload_n 0, 1) ∧ 42 + 1 = 43 := by decide +kernel
theorem D_M_blamed_43 : decode prog_9_method_45_code 43 = .ok (.iload_n 1, 1) ∧ 43 + 1 = 44 := by decide +kernel
theorem D_M_blamed_44 : decode prog_9_method_45_code 44 = .ok (.invokevirtual 156, 3) ∧ 44 + 3 = 47 := by decide +kernel
theorem D_M_blamed_47 : decode prog_9_method_45_code 47 = .ok (.istore 5, 2) ∧ 47 + 2 = 49 := by decide +kernel
theorem D_M_blamed_49 : decode prog_9_method_45_code 49 = .ok (.aload_n 0, 1) ∧ 49 + 1 = 50 := by decide +kernel
theorem D_M_blamed_50 : decode prog_9_method_45_code 50 = .ok (.iconst 2, 1) ∧ 50 + 1 = 51 := by decide +kernel
theorem D_M_blamed_51 : decode prog_9_method_45_code 51 = .ok (.invokevirtual 159, 3) ∧ 51 + 3 = 54 := by decide +kernel
theorem D_M_blamed_54 : decode prog_9_method_45_code 54 = .ok (.aload_n 0, 1) ∧ 54 + 1 = 55 := by decide +kernel
theorem D_M_blamed_55 : decode prog_9_method_45_code 55 = .ok (.getfield 9, 3) ∧ 55 + 3 = 58 := by decide +kernel
theorem D_M_blamed_58 : decode prog_9_method_45_code 58 = .ok (.iconst 4, 1) ∧ 58 + 1 = 59 := by decide +kernel
theorem D_M_blamed_59 : decode prog_9_method_45_code 59 = .ok (.iaload, 1) ∧ 59 + 1 = 60 := by decide +kernel
theorem D_M_blamed_60 : decode prog_9_method_45_code 60 = .ok (.iadd, 1) ∧ 60 + 1 = 61 := by decide +kernel
theorem D_M_blamed_61 : decode prog_9_method_45_code 61 = .ok (.istore 6, 2) ∧ 61 + 2 = 63 := by decide +kernel
theorem D_M_blamed_63 : decode prog_9_method_45_code 63 = .ok (.aload_n 0, 1) ∧ 63 + 1 = 64 := by decide +kernel
theorem D_M_blamed_64 : decode prog_9_method_45_code 64 = .ok (.invokevirtual 165, 3) ∧ 64 + 3 = 67 := by decide +kernel
theorem D_M_blamed_67 : decode prog_9_method_45_code 67 = .ok (.iload_n 2, 1) ∧ 67 + 1 = 68 := by decide +kernel
theorem D_M_blamed_68 : decode prog_9_method_45_code 68 = .ok (.ldc 168, 2) ∧ 68 + 2 = 70 := by decide +kernel
theorem D_M_blamed_79 : decode prog_9_method_45_code 79 = .ok (.iload 4, 2) ∧ 79 + 2 = 81 := by decide +kernel
theorem D_M_blamed_81 : decode prog_9_method_45_code 81 = .ok (.goto 4, 3) ∧ ((81 : Nat) : Int) + 4 = ((85 : Nat) : Int) := by decide +kernel
theorem D_M_blamed_73 : decode prog_9_method_45_code 73 = .ok (.iload 6, 2) ∧ 73 + 2 = 75 := by decide +kernel
theorem D_M_blamed_75 : decode prog_9_method_45_code 75 = .ok (.iload_n 3, 1) ∧ 75 + 1 = 76 := by decide +kernel
theorem D_M_blamed_84 : decode prog_9_method_45_code 84 = .ok (.iload_n 2, 1) ∧ 84 + 1 = 85 := by decide +kernel
theorem D_M_blamed_76 : decode prog_9_method_45_code 76 = .ok (.if_icmp .ge 8, 3) ∧ ((76 : Nat) : Int) + 8 = ((84 : Nat) : Int) ∧ 76 + 3 = 79 := by decide +kernel
theorem D_M_blamed_70 : decode prog_9_method_45_code 70 = .ok (.if_icmp .eq 9, 3) ∧ ((70 : Nat) : Int) + 9 = ((79 : Nat) : Int) ∧ 70 + 3 = 73 := by decide +kernel
theorem D_M_blamed_85 : decode prog_9_method_45_code 85 = .ok (.istore_n 2, 1) ∧ 85 + 1 = 86 := by decide +kernel
theorem D_M_blamed_86 : decode prog_9_method_45_code 86 = .ok (.iload_n 2, 1) ∧ 86 + 1 = 87 := by decide +kernel
theorem D_M_blamed_87 : decode prog_9_method_45_code 87 = .ok (.iload 4, 2) ∧ 87 + 2 = 89 := by decide +kernel
theorem D_M_blamed_97 : decode prog_9_method_45_code 97 = .ok (.iload_n 3, 1) ∧ 97 + 1 = 98 := by decide +kernel
theorem D_M_blamed_92 : decode prog_9_method_45_code 92 = .ok (.iload 6, 2) ∧ 92 + 2 = 94 := by decide +kernel
theorem D_M_blamed_94 : decode prog_9_method_45_code 94 = .ok (.goto 4, 3) ∧ ((94 : Nat) : Int) + 4 = ((98 : Nat) : Int) := by decide +kernel
theorem D_M_blamed_89 : decode prog_9_method_45_code 89 = .ok (.if_icmp .ne 8, 3) ∧ ((89 : Nat) : Int) + 8 = ((97 : Nat) : Int) ∧ 89 + 3 = 92 := by decide +kernel
theorem D_M_blamed_98 : decode prog_9_method_45_code 98 = .ok (.istore_n 3, 1) ∧ 98 + 1 = 99 := by decide +kernel
theorem D_M_blamed_99 : decode prog_9_method_45_code 99 = .ok (.iinc 4 1, 3) ∧ 99 + 3 = 102 := by decide +kernel
theorem D_M_blamed_102 : decode prog_9_method_45_code 102 = .ok (.goto (-77), 3) ∧ ((102 : Nat) : Int) + (-77) = ((25 : Nat) : Int) := by decide +kernel
theorem D_M_blamed_105 : decode prog_9_method_45_code 105 = .ok (.iload_n 2, 1) ∧ 105 + 1 = 106 := by decide +kernel
theorem D_M_blamed_106 : decode prog_9_method_45_code 106 = .ok (.ireturn, 1) := by decide +kernel
theorem D_M_blamed_10 : decode prog_9_method_45_code 10 = .ok (.ldc 87, 2) ∧ 10 + 2 = 12 := by decide +kernel
theorem D_M_blamed_12 : decode prog_9_method_45_code 12 = .ok (.ireturn, 1) := by decide +kernel
def f_M_blamed_L25 (N : Nat)  : Nat → Int32 → Int32 → Int32 → Int32 → Mm → Option ((Int32 × Int32 × Int32) × Mm)
  | 0, _, _, _, _, _ => none
  | n + 1, b1, b2, b3, b4, mem => if mem 92 (ix 1) ≤ b4 then some ((b2, b3, b4), mem) else lt (mst mem 91 4 b4) fun m_39 => bd (f_M_goesOn N b1 m_39) fun r_44 m_44 => bp (f_M_sumOf N 2 m_44) fun r_51 => lt (r_51 + (m_44 92 (ix 4))) fun x_61 => bp (f_M_putsBack N m_44) fun m_64 => lt (if b2 = (-1000000005) then b4 else if b3 ≤ x_61 then b2 else b4) fun x_85 => lt (if x_85 = b4 then x_61 else b3) fun x_98 => f_M_blamed_L25 N n b1 x_85 x_98 (b4 + 1) m_64
def f_M_blamed (N : Nat) (a1 : Int32) (mem : Mm) : Option (Int32 × Mm) := bp (f_M_in a1 1 60) fun r_4 => if r_4 = 0 then some ((-1000000001), mem) else bp (f_M_thinks N mem) fun m_14 => bd (f_M_blamed_L25 N N a1 (-1000000005) 0 0 m_14) fun y_25 m_25 => some (y_25.1, m_25)
theorem L_M_blamed_25 {X : Cx} {E : En} (S : Std X E prog_9_method_45_code R6 7 6) (N : Nat)  : ∀ (n : Nat) (b1 : Int32) (b2 : Int32) (b3 : Int32) (b4 : Int32) (mem : Mm) (z : Int32 × Int32 × Int32) (m2 : Mm), f_M_blamed_L25 N n b1 b2 b3 b4 mem = some (z, m2) → J X E 7 105 [(0, .ref (eb E + 91)), (1, .int b1), (2, .int z.1), (3, .int z.2.1), (4, .int z.2.2)] [] SH m2 → J X E 7 25 [(0, .ref (eb E + 91)), (1, .int b1), (2, .int b2), (3, .int b3), (4, .int b4)] [] SH mem := by
  intro n
  induction n with
  | zero =>
    intro b1 b2 b3 b4 mem z m2 h hk; cases h
  | succ n ih =>
    intro b1 b2 b3 b4 mem z m2 h hk
    rw [f_M_blamed_L25] at h
    refine j_iload S D_M_blamed_25 4 rfl ?_
    refine j_aload_n S D_M_blamed_27 0 rfl rfl ?_
    refine j_getR S D_M_blamed_28 fl_R6_9 sh_Mod rfl ?_
    refine j_iconst S D_M_blamed_31 ci_1 ?_
    refine j_iald S D_M_blamed_32 sh_92 inbc_1_1436 ?_
    refine j_icmp_ge S D_M_blamed_33 (fun c_33 => ?_) (fun c_33 => ?_)
    · have h := ifT c_33 h
      cases h
      exact j_locals [0, 1, 2, 3, 4] rfl hk
    · have h := ifF c_33 h
      refine j_aload_n S D_M_blamed_36 0 rfl rfl ?_
      refine j_iload S D_M_blamed_37 4 rfl ?_
      obtain ⟨m_39, hm_39, h⟩ := ltE h
      refine j_putI S D_M_blamed_39 fp_R6_19 sh_Mod rfl ?_
      refine j_mem hm_39 ?_
      refine j_aload_n S D_M_blamed_42 0 rfl rfl ?_
      refine j_iload_n S D_M_blamed_43 1 rfl rfl ?_
      obtain ⟨r_44, m_44, e_44, h⟩ := bdE h
      refine j_callVI (As := [.int b1]) S D_M_blamed_44 mv_R6_156 (c_M_goesOn (cxL X) E N b1 e_44) (by decide) sh_Mod rfl rfl rfl rfl (Nat.le_of_ble_eq_true rfl) ?_
      refine j_istore S D_M_blamed_47 (lv := [(5, .int r_44), (0, .ref (eb E + 91)), (1, .int b1), (2, .int b2), (3, .int b3), (4, .int b4)]) rfl (Nat.le_of_ble_eq_true rfl) ?_
      refine j_aload_n S D_M_blamed_49 1 rfl rfl ?_
      refine j_iconst S D_M_blamed_50 ci_2 ?_
      obtain ⟨r_51, e_51, h⟩ := bpE h
      refine j_callVI (As := [.int 2]) S D_M_blamed_51 mv_R6_159 (c_M_sumOf (cxL X) E N 2 e_51) (by decide) sh_Mod rfl rfl rfl rfl (Nat.le_of_ble_eq_true rfl) ?_
      refine j_aload_n S D_M_blamed_54 1 rfl rfl ?_
      refine j_getR S D_M_blamed_55 fl_R6_9 sh_Mod rfl ?_
      refine j_iconst S D_M_blamed_58 ci_4 ?_
      refine j_iald S D_M_blamed_59 sh_92 inbc_4_1436 ?_
      refine j_iadd S D_M_blamed_60 ?_
      obtain ⟨x_61, hx_61, h⟩ := ltE h
      refine j_nm hx_61 ?_
      refine j_istore S D_M_blamed_61 (lv := [(6, .int x_61), (5, .int r_44), (0, .ref (eb E + 91)), (1, .int b1), (2, .int b2), (3, .int b3), (4, .int b4)]) rfl (Nat.le_of_ble_eq_true rfl) ?_
      refine j_aload_n S D_M_blamed_63 2 rfl rfl ?_
      obtain ⟨m_64, e_64, h⟩ := bpE h
      refine j_callVV (As := []) S D_M_blamed_64 mv_R6_165 (c_M_putsBack (cxL X) E N e_64) (by decide) sh_Mod rfl rfl rfl rfl (Nat.le_of_ble_eq_true rfl) ?_
      refine j_iload_n S D_M_blamed_67 4 rfl rfl ?_
      refine j_ldc S D_M_blamed_68 co_R6_168 ?_
      refine j_dia (P := J X E 7 85 [(6, .int x_61), (5, .int r_44), (0, .ref (eb E + 91)), (1, .int b1), (2, .int b2), (3, .int b3), (4, .int b4)] [.int (if b2 = (-1000000005) then b4 else if b3 ≤ x_61 then b2 else b4)] SH m_64) (fun hj => ?_) ?_
      · refine j_icmp_eq S D_M_blamed_70 (fun c_70 => ?_) (fun c_70 => ?_)
        · refine j_iload S D_M_blamed_79 6 rfl ?_
          refine j_goto S D_M_blamed_81 ?_
          exact j_jnT hj c_70
        · refine j_iload S D_M_blamed_73 0 rfl ?_
          refine j_iload_n S D_M_blamed_75 5 rfl rfl ?_
          refine j_dia (P := J X E 7 85 [(6, .int x_61), (5, .int r_44), (0, .ref (eb E + 91)), (1, .int b1), (2, .int b2), (3, .int b3), (4, .int b4)] [.int (if b3 ≤ x_61 then b2 else b4)] SH m_64) (fun hj => ?_) ?_
          · refine j_icmp_ge S D_M_blamed_76 (fun c_76 => ?_) (fun c_76 => ?_)
            · refine j_iload_n S D_M_blamed_84 4 rfl rfl ?_
              exact j_jnT hj c_76
            · refine j_iload S D_M_blamed_79 6 rfl ?_
              refine j_goto S D_M_blamed_81 ?_
              exact j_jnF hj c_76
          exact j_jnF hj c_70
      obtain ⟨x_85, hx_85, h⟩ := ltE h
      refine j_nm hx_85 ?_
      refine j_istore_n S D_M_blamed_85 (lv := [(2, .int x_85), (6, .int x_61), (5, .int r_44), (0, .ref (eb E + 91)), (1, .int b1), (3, .int b3), (4, .int b4)]) rfl ⟨rfl, (Nat.le_of_ble_eq_true rfl)⟩ ?_
      refine j_iload_n S D_M_blamed_86 0 rfl rfl ?_
      refine j_iload S D_M_blamed_87 6 rfl ?_
      refine j_dia (P := J X E 7 98 [(2, .int x_85), (6, .int x_61), (5, .int r_44), (0, .ref (eb E + 91)), (1, .int b1), (3, .int b3), (4, .int b4)] [.int (if x_85 = b4 then x_61 else b3)] SH m_64) (fun hj => ?_) ?_
      · refine j_icmp_ne S D_M_blamed_89 (fun c_89 => ?_) (fun c_89 => ?_)
        · refine j_iload_n S D_M_blamed_97 5 rfl rfl ?_
          exact j_jnF hj c_89
        · refine j_iload S D_M_blamed_92 1 rfl ?_
          refine j_goto S D_M_blamed_94 ?_
          exact j_jnT hj c_89
      obtain ⟨x_98, hx_98, h⟩ := ltE h
      refine j_nm hx_98 ?_
      refine j_istore_n S D_M_blamed_98 (lv := [(3, .int x_98), (2, .int x_85), (6, .int x_61), (5, .int r_44), (0, .ref (eb E + 91)), (1, .int b1), (4, .int b4)]) rfl ⟨rfl, (Nat.le_of_ble_eq_true rfl)⟩ ?_
      refine j_iinc S D_M_blamed_99 6 rfl (congrArg (fun z => b4 + z) ci_1) (lv := [(4, .int (b4 + 1)), (3, .int x_98), (2, .int x_85), (6, .int x_61), (5, .int r_44), (0, .ref (eb E + 91)), (1, .int b1)]) rfl (Nat.le_of_ble_eq_true rfl) ?_
      refine j_goto S D_M_blamed_102 ?_
      refine j_locals [5, 6, 2, 1, 0] rfl (ih b1 x_85 x_98 (b4 + 1) m_64 _ _ h hk)
theorem c_M_blamed (l : Launch) (E : En) (N : Nat) (a1 : Int32) {mem : Mm} {r : Int32} {m2 : Mm} (h : f_M_blamed N a1 mem = some (r, m2)) : CtI l E 6 y_M_blamed prog_9_method_45_code 7 (some .int) [.ref (eb E + 91), .int a1] SH mem r m2 := by
  refine mk_CtI ⟨by decide, (Nat.le_of_ble_eq_true rfl)⟩ (fun X S hl hR => ?_)
  have S : Std X E prog_9_method_45_code R6 7 6 := S
  show J X E 7 0 [(0, .ref (eb E + 91)), (1, .int a1)] [] SH mem
  unfold f_M_blamed at h
  refine j_iload_n S D_M_blamed_0 1 rfl rfl ?_
  refine j_iconst S D_M_blamed_1 ci_1 ?_
  refine j_bipush S D_M_blamed_2 cb_60 ?_
  obtain ⟨r_4, e_4, h⟩ := bpE h
  refine j_callSI (As := [.int a1, .int 1, .int 60]) S D_M_blamed_4 ms_R6_79 (c_M_in (cxL X) E a1 1 60 (mem := mem) e_4) (by decide) rfl rfl (Nat.le_of_ble_eq_true rfl) ?_
  refine j_if_ne S D_M_blamed_7 (fun c_7 => ?_) (fun c_7 => ?_)
  · have h := ifF c_7 h
    refine j_aload_n S D_M_blamed_13 0 rfl rfl ?_
    obtain ⟨m_14, e_14, h⟩ := bpE h
    refine j_callVV (As := []) S D_M_blamed_14 mv_R6_162 (c_M_thinks (cxL X) E N e_14) (by decide) sh_Mod rfl rfl rfl rfl (Nat.le_of_ble_eq_true rfl) ?_
    refine j_ldc S D_M_blamed_17 co_R6_168 ?_
    refine j_istore_n S D_M_blamed_19 (lv := [(2, .int (-1000000005)), (0, .ref (eb E + 91)), (1, .int a1)]) rfl ⟨rfl, (Nat.le_of_ble_eq_true rfl)⟩ ?_
    refine j_iconst S D_M_blamed_20 ci_0 ?_
    refine j_istore_n S D_M_blamed_21 (lv := [(3, .int 0), (2, .int (-1000000005)), (0, .ref (eb E + 91)), (1, .int a1)]) rfl ⟨rfl, (Nat.le_of_ble_eq_true rfl)⟩ ?_
    refine j_iconst S D_M_blamed_22 ci_0 ?_
    refine j_istore S D_M_blamed_23 (lv := [(4, .int 0), (3, .int 0), (2, .int (-1000000005)), (0, .ref (eb E + 91)), (1, .int a1)]) rfl (Nat.le_of_ble_eq_true rfl) ?_
    refine j_locals [3, 4, 2, 1, 0] rfl ?_
    obtain ⟨y_25, m_25, e_25, h⟩ := bdE h
    refine L_M_blamed_25 S N N a1 (-1000000005) 0 0 m_14 _ _ e_25 ?_
    refine j_iload_n S D_M_blamed_105 2 rfl rfl ?_
    exact rtM hR h _ _ D_M_blamed_106
  · have h := ifT c_7 h
    refine j_ldc S D_M_blamed_10 co_R6_87 ?_
    exact rtM hR h _ _ D_M_blamed_12

def y_M_never : MethodName := ⟨"SandPictureModel", "never", "()I"⟩
theorem D_M_never_0 : decode prog_9_method_46_code 0 = .ok (.aload_n 0, 1) ∧ 0 + 1 = 1 := by decide +kernel
theorem D_M_never_1 : decode prog_9_method_46_code 1 = .ok (.invokevirtual 162, 3) ∧ 1 + 3 = 4 := by decide +kernel
theorem D_M_never_4 : decode prog_9_method_46_code 4 = .ok (.iconst 0, 1) ∧ 4 + 1 = 5 := by decide +kernel
theorem D_M_never_5 : decode prog_9_method_46_code 5 = .ok (.istore_n 1, 1) ∧ 5 + 1 = 6 := by decide +kernel
theorem D_M_never_6 : decode prog_9_method_46_code 6 = .ok (.iload_n 1, 1) ∧ 6 + 1 = 7 := by decide +kernel
theorem D_M_never_7 : decode prog_9_method_46_code 7 = .ok (.sipush 300, 3) ∧ 7 + 3 = 10 := by decide +kernel
theorem D_M_never_10 : decode prog_9_method_46_code 10 = .ok (.if_icmp .gt 29, 3) ∧ ((10 : Nat) : Int) + 29 = ((39 : Nat) : Int) ∧ 10 + 3 = 13 := by decide +kernel
theorem D_M_never_13 : decode prog_9_method_46_code 13 = .ok (.aload_n 0, 1) ∧ 13 + 1 = 14 := by decide +kernel
theorem D_M_never_14 : decode prog_9_method_46_code 14 = .ok (.getfield 9, 3) ∧ 14 + 3 = 17 := by decide +kernel
theorem D_M_never_17 : decode prog_9_method_46_code 17 = .ok (.iconst 5, 1) ∧ 17 + 1 = 18 := by decide +kernel
theorem D_M_never_18 : decode prog_9_method_46_code 18 = .ok (.iaload, 1) ∧ 18 + 1 = 19 := by decide +kernel
theorem D_M_never_19 : decode prog_9_method_46_code 19 = .ok (.aload_n 0, 1) ∧ 19 + 1 = 20 := by decide +kernel
theorem D_M_never_20 : decode prog_9_method_46_code 20 = .ok (.getfield 23, 3) ∧ 20 + 3 = 23 := by decide +kernel
theorem D_M_never_23 : decode prog_9_method_46_code 23 = .ok (.iconst 5, 1) ∧ 23 + 1 = 24 := by decide +kernel
theorem D_M_never_24 : decode prog_9_method_46_code 24 = .ok (.iaload, 1) ∧ 24 + 1 = 25 := by decide +kernel
theorem D_M_never_25 : decode prog_9_method_46_code 25 = .ok (.if_icmp .ne 14, 3) ∧ ((25 : Nat) : Int) + 14 = ((39 : Nat) : Int) ∧ 25 + 3 = 28 := by decide +kernel
theorem D_M_never_28 : decode prog_9_method_46_code 28 = .ok (.aload_n 0, 1) ∧ 28 + 1 = 29 := by decide +kernel
theorem D_M_never_29 : decode prog_9_method_46_code 29 = .ok (.invokevirtual 153, 3) ∧ 29 + 3 = 32 := by decide +kernel
theorem D_M_never_32 : decode prog_9_method_46_code 32 = .ok (.istore_n 2, 1) ∧ 32 + 1 = 33 := by decide +kernel
theorem D_M_never_33 : decode prog_9_method_46_code 33 = .ok (.iinc 1 1, 3) ∧ 33 + 3 = 36 := by decide +kernel
theorem D_M_never_36 : decode prog_9_method_46_code 36 = .ok (.goto (-30), 3) ∧ ((36 : Nat) : Int) + (-30) = ((6 : Nat) : Int) := by decide +kernel
theorem D_M_never_39 : decode prog_9_method_46_code 39 = .ok (.aload_n 0, 1) ∧ 39 + 1 = 40 := by decide +kernel
theorem D_M_never_40 : decode prog_9_method_46_code 40 = .ok (.invokevirtual 165, 3) ∧ 40 + 3 = 43 := by decide +kernel
theorem D_M_never_43 : decode prog_9_method_46_code 43 = .ok (.iload_n 1, 1) ∧ 43 + 1 = 44 := by decide +kernel
theorem D_M_never_44 : decode prog_9_method_46_code 44 = .ok (.sipush 300, 3) ∧ 44 + 3 = 47 := by decide +kernel
theorem D_M_never_54 : decode prog_9_method_46_code 54 = .ok (.ldc 168, 2) ∧ 54 + 2 = 56 := by decide +kernel
theorem D_M_never_50 : decode prog_9_method_46_code 50 = .ok (.iload_n 1, 1) ∧ 50 + 1 = 51 := by decide +kernel
theorem D_M_never_51 : decode prog_9_method_46_code 51 = .ok (.goto 5, 3) ∧ ((51 : Nat) : Int) + 5 = ((56 : Nat) : Int) := by decide +kernel
theorem D_M_never_47 : decode prog_9_method_46_code 47 = .ok (.if_icmp .gt 7, 3) ∧ ((47 : Nat) : Int) + 7 = ((54 : Nat) : Int) ∧ 47 + 3 = 50 := by decide +kernel
theorem D_M_never_56 : decode prog_9_method_46_code 56 = .ok (.ireturn, 1) := by decide +kernel
def f_M_never_L6 (N : Nat)  : Nat → Int32 → Mm → Option (Int32 × Mm)
  | 0, _, _ => none
  | n + 1, b1, mem => if 300 < b1 then some (b1, mem) else if mem 92 (ix 5) = mem 95 (ix 5) then bd (f_M_hour N mem) fun r_29 m_29 => f_M_never_L6 N n (b1 + 1) m_29 else some (b1, mem)
def f_M_never (N : Nat)  (mem : Mm) : Option (Int32 × Mm) := bp (f_M_thinks N mem) fun m_1 => bd (f_M_never_L6 N N 0 m_1) fun y_6 m_6 => bp (f_M_putsBack N m_6) fun m_40 => some (if 300 < y_6 then ((-1000000005) : Int32) else y_6, m_40)
theorem L_M_never_6 {X : Cx} {E : En} (S : Std X E prog_9_method_46_code R6 3 5) (N : Nat)  : ∀ (n : Nat) (b1 : Int32) (mem : Mm) (z : Int32) (m2 : Mm), f_M_never_L6 N n b1 mem = some (z, m2) → J X E 3 39 [(0, .ref (eb E + 91)), (1, .int z)] [] SH m2 → J X E 3 6 [(0, .ref (eb E + 91)), (1, .int b1)] [] SH mem := by
  intro n
  induction n with
  | zero =>
    intro b1 mem z m2 h hk; cases h
  | succ n ih =>
    intro b1 mem z m2 h hk
    rw [f_M_never_L6] at h
    refine j_iload_n S D_M_never_6 1 rfl rfl ?_
    refine j_sipush S D_M_never_7 cs_300 ?_
    refine j_icmp_gt S D_M_never_10 (fun c_10 => ?_) (fun c_10 => ?_)
    · have h := ifT c_10 h
      cases h
      exact j_locals [0, 1] rfl hk
    · have h := ifF c_10 h
      refine j_aload_n S D_M_never_13 0 rfl rfl ?_
      refine j_getR S D_M_never_14 fl_R6_9 sh_Mod rfl ?_
      refine j_iconst S D_M_never_17 ci_5 ?_
      refine j_iald S D_M_never_18 sh_92 inbc_5_1436 ?_
      refine j_aload_n S D_M_never_19 0 rfl rfl ?_
      refine j_getR S D_M_never_20 fl_R6_23 sh_Mod rfl ?_
      refine j_iconst S D_M_never_23 ci_5 ?_
      refine j_iald S D_M_never_24 sh_95 inbc_5_64 ?_
      refine j_icmp_ne S D_M_never_25 (fun c_25 => ?_) (fun c_25 => ?_)
      · have h := ifF c_25 h
        cases h
        exact j_locals [0, 1] rfl hk
      · have h := ifT c_25 h
        refine j_aload_n S D_M_never_28 0 rfl rfl ?_
        obtain ⟨r_29, m_29, e_29, h⟩ := bdE h
        refine j_callVI (As := []) S D_M_never_29 mv_R6_153 (c_M_hour (cxL X) E N e_29) (by decide) sh_Mod rfl rfl rfl rfl (Nat.le_of_ble_eq_true rfl) ?_
        refine j_istore_n S D_M_never_32 (lv := [(2, .int r_29), (0, .ref (eb E + 91)), (1, .int b1)]) rfl ⟨rfl, (Nat.le_of_ble_eq_true rfl)⟩ ?_
        refine j_iinc S D_M_never_33 2 rfl (congrArg (fun z => b1 + z) ci_1) (lv := [(1, .int (b1 + 1)), (2, .int r_29), (0, .ref (eb E + 91))]) rfl (Nat.le_of_ble_eq_true rfl) ?_
        refine j_goto S D_M_never_36 ?_
        refine j_locals [2, 0] rfl (ih (b1 + 1) m_29 _ _ h hk)
theorem c_M_never (l : Launch) (E : En) (N : Nat)  {mem : Mm} {r : Int32} {m2 : Mm} (h : f_M_never N mem = some (r, m2)) : CtI l E 5 y_M_never prog_9_method_46_code 3 (some .int) [.ref (eb E + 91)] SH mem r m2 := by
  refine mk_CtI ⟨by decide, (Nat.le_of_ble_eq_true rfl)⟩ (fun X S hl hR => ?_)
  have S : Std X E prog_9_method_46_code R6 3 5 := S
  show J X E 3 0 [(0, .ref (eb E + 91))] [] SH mem
  unfold f_M_never at h
  refine j_aload_n S D_M_never_0 0 rfl rfl ?_
  obtain ⟨m_1, e_1, h⟩ := bpE h
  refine j_callVV (As := []) S D_M_never_1 mv_R6_162 (c_M_thinks (cxL X) E N e_1) (by decide) sh_Mod rfl rfl rfl rfl (Nat.le_of_ble_eq_true rfl) ?_
  refine j_iconst S D_M_never_4 ci_0 ?_
  refine j_istore_n S D_M_never_5 (lv := [(1, .int 0), (0, .ref (eb E + 91))]) rfl ⟨rfl, (Nat.le_of_ble_eq_true rfl)⟩ ?_
  refine j_locals [1, 0] rfl ?_
  obtain ⟨y_6, m_6, e_6, h⟩ := bdE h
  refine L_M_never_6 S N N 0 m_1 _ _ e_6 ?_
  refine j_aload_n S D_M_never_39 0 rfl rfl ?_
  obtain ⟨m_40, e_40, h⟩ := bpE h
  refine j_callVV (As := []) S D_M_never_40 mv_R6_165 (c_M_putsBack (cxL X) E N e_40) (by decide) sh_Mod rfl rfl rfl rfl (Nat.le_of_ble_eq_true rfl) ?_
  refine j_iload_n S D_M_never_43 1 rfl rfl ?_
  refine j_sipush S D_M_never_44 cs_300 ?_
  refine j_dia (P := J X E 3 56 [(0, .ref (eb E + 91)), (1, .int y_6)] [.int (if 300 < y_6 then ((-1000000005) : Int32) else y_6)] SH m_40) (fun hj => ?_) ?_
  · refine j_icmp_gt S D_M_never_47 (fun c_47 => ?_) (fun c_47 => ?_)
    · refine j_ldc S D_M_never_54 co_R6_168 ?_
      exact j_jnT hj c_47
    · refine j_iload_n S D_M_never_50 1 rfl rfl ?_
      refine j_goto S D_M_never_51 ?_
      exact j_jnF hj c_47
  exact rtM hR h _ _ D_M_never_56
