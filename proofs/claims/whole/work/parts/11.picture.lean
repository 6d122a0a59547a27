def y_P_become : MethodName := ⟨"SandPicture$Picture", "become", "(LSandPicture$Picture;)V"⟩
theorem D_P_become_0 : decode prog_3_method_2_code 0 = .ok (.aload_n 0, 1) ∧ 0 + 1 = 1 := by decide +kernel
theorem D_P_become_1 : decode prog_3_method_2_code 1 = .ok (.aload_n 1, 1) ∧ 1 + 1 = 2 := by decide +kernel
theorem D_P_become_2 : decode prog_3_method_2_code 2 = .ok (.getfield 9, 3) ∧ 2 + 3 = 5 := by decide +kernel
theorem D_P_become_5 : decode prog_3_method_2_code 5 = .ok (.putfield 9, 3) ∧ 5 + 3 = 8 := by decide +kernel
theorem D_P_become_8 : decode prog_3_method_2_code 8 = .ok (.aload_n 1, 1) ∧ 8 + 1 = 9 := by decide +kernel
theorem D_P_become_9 : decode prog_3_method_2_code 9 = .ok (.getfield 16, 3) ∧ 9 + 3 = 12 := by decide +kernel
theorem D_P_become_12 : decode prog_3_method_2_code 12 = .ok (.iconst 0, 1) ∧ 12 + 1 = 13 := by decide +kernel
theorem D_P_become_13 : decode prog_3_method_2_code 13 = .ok (.aload_n 0, 1) ∧ 13 + 1 = 14 := by decide +kernel
theorem D_P_become_14 : decode prog_3_method_2_code 14 = .ok (.getfield 16, 3) ∧ 14 + 3 = 17 := by decide +kernel
theorem D_P_become_17 : decode prog_3_method_2_code 17 = .ok (.iconst 0, 1) ∧ 17 + 1 = 18 := by decide +kernel
theorem D_P_become_18 : decode prog_3_method_2_code 18 = .ok (.iconst 3, 1) ∧ 18 + 1 = 19 := by decide +kernel
theorem D_P_become_19 : decode prog_3_method_2_code 19 = .ok (.invokestatic 72, 3) ∧ 19 + 3 = 22 := by decide +kernel
theorem D_P_become_22 : decode prog_3_method_2_code 22 = .ok (.aload_n 0, 1) ∧ 22 + 1 = 23 := by decide +kernel
theorem D_P_become_23 : decode prog_3_method_2_code 23 = .ok (.aload_n 1, 1) ∧ 23 + 1 = 24 := by decide +kernel
theorem D_P_become_24 : decode prog_3_method_2_code 24 = .ok (.getfield 20, 3) ∧ 24 + 3 = 27 := by decide +kernel
theorem D_P_become_27 : decode prog_3_method_2_code 27 = .ok (.putfield 20, 3) ∧ 27 + 3 = 30 := by decide +kernel
theorem D_P_become_30 : decode prog_3_method_2_code 30 = .ok (.aload_n 1, 1) ∧ 30 + 1 = 31 := by decide +kernel
theorem D_P_become_31 : decode prog_3_method_2_code 31 = .ok (.getfield 23, 3) ∧ 31 + 3 = 34 := by decide +kernel
theorem D_P_become_34 : decode prog_3_method_2_code 34 = .ok (.iconst 0, 1) ∧ 34 + 1 = 35 := by decide +kernel
theorem D_P_become_35 : decode prog_3_method_2_code 35 = .ok (.aload_n 0, 1) ∧ 35 + 1 = 36 := by decide +kernel
theorem D_P_become_36 : decode prog_3_method_2_code 36 = .ok (.getfield 23, 3) ∧ 36 + 3 = 39 := by decide +kernel
theorem D_P_become_39 : decode prog_3_method_2_code 39 = .ok (.iconst 0, 1) ∧ 39 + 1 = 40 := by decide +kernel
theorem D_P_become_40 : decode prog_3_method_2_code 40 = .ok (.bipush 10, 2) ∧ 40 + 2 = 42 := by decide +kernel
theorem D_P_become_42 : decode prog_3_method_2_code 42 = .ok (.invokestatic 72, 3) ∧ 42 + 3 = 45 := by decide +kernel
theorem D_P_become_45 : decode prog_3_method_2_code 45 = .ok (.aload_n 1, 1) ∧ 45 + 1 = 46 := by decide +kernel
theorem D_P_become_46 : decode prog_3_method_2_code 46 = .ok (.getfield 26, 3) ∧ 46 + 3 = 49 := by decide +kernel
theorem D_P_become_49 : decode prog_3_method_2_code 49 = .ok (.iconst 0, 1) ∧ 49 + 1 = 50 := by decide +kernel
theorem D_P_become_50 : decode prog_3_method_2_code 50 = .ok (.aload_n 0, 1) ∧ 50 + 1 = 51 := by decide +kernel
theorem D_P_become_51 : decode prog_3_method_2_code 51 = .ok (.getfield 26, 3) ∧ 51 + 3 = 54 := by decide +kernel
theorem D_P_become_54 : decode prog_3_method_2_code 54 = .ok (.iconst 0, 1) ∧ 54 + 1 = 55 := by decide +kernel
theorem D_P_become_55 : decode prog_3_method_2_code 55 = .ok (.bipush 10, 2) ∧ 55 + 2 = 57 := by decide +kernel
theorem D_P_become_57 : decode prog_3_method_2_code 57 = .ok (.invokestatic 72, 3) ∧ 57 + 3 = 60 := by decide +kernel
theorem D_P_become_60 : decode prog_3_method_2_code 60 = .ok (.aload_n 1, 1) ∧ 60 + 1 = 61 := by decide +kernel
theorem D_P_become_61 : decode prog_3_method_2_code 61 = .ok (.getfield 29, 3) ∧ 61 + 3 = 64 := by decide +kernel
theorem D_P_become_64 : decode prog_3_method_2_code 64 = .ok (.iconst 0, 1) ∧ 64 + 1 = 65 := by decide +kernel
theorem D_P_become_65 : decode prog_3_method_2_code 65 = .ok (.aload_n 0, 1) ∧ 65 + 1 = 66 := by decide +kernel
theorem D_P_become_66 : decode prog_3_method_2_code 66 = .ok (.getfield 29, 3) ∧ 66 + 3 = 69 := by decide +kernel
theorem D_P_become_69 : decode prog_3_method_2_code 69 = .ok (.iconst 0, 1) ∧ 69 + 1 = 70 := by decide +kernel
theorem D_P_become_70 : decode prog_3_method_2_code 70 = .ok (.bipush 10, 2) ∧ 70 + 2 = 72 := by decide +kernel
theorem D_P_become_72 : decode prog_3_method_2_code 72 = .ok (.invokestatic 72, 3) ∧ 72 + 3 = 75 := by decide +kernel
theorem D_P_become_75 : decode prog_3_method_2_code 75 = .ok (.aload_n 1, 1) ∧ 75 + 1 = 76 := by decide +kernel
theorem D_P_become_76 : decode prog_3_method_2_code 76 = .ok (.getfield 32, 3) ∧ 76 + 3 = 79 := by decide +kernel
theorem D_P_become_79 : decode prog_3_method_2_code 79 = .ok (.iconst 0, 1) ∧ 79 + 1 = 80 := by decide +kernel
theorem D_P_become_80 : decode prog_3_method_2_code 80 = .ok (.aload_n 0, 1) ∧ 80 + 1 = 81 := by decide +kernel
theorem D_P_become_81 : decode prog_3_method_2_code 81 = .ok (.getfield 32, 3) ∧ 81 + 3 = 84 := by decide +kernel
theorem D_P_become_84 : decode prog_3_method_2_code 84 = .ok (.iconst 0, 1) ∧ 84 + 1 = 85 := by decide +kernel
theorem D_P_become_85 : decode prog_3_method_2_code 85 = .ok (.bipush 6, 2) ∧ 85 + 2 = 87 := by decide +kernel
theorem D_P_become_87 : decode prog_3_method_2_code 87 = .ok (.invokestatic 72, 3) ∧ 87 + 3 = 90 := by decide +kernel
theorem D_P_become_90 : decode prog_3_method_2_code 90 = .ok (.aload_n 1, 1) ∧ 90 + 1 = 91 := by decide +kernel
theorem D_P_become_91 : decode prog_3_method_2_code 91 = .ok (.getfield 35, 3) ∧ 91 + 3 = 94 := by decide +kernel
theorem D_P_become_94 : decode prog_3_method_2_code 94 = .ok (.iconst 0, 1) ∧ 94 + 1 = 95 := by decide +kernel
theorem D_P_become_95 : decode prog_3_method_2_code 95 = .ok (.aload_n 0, 1) ∧ 95 + 1 = 96 := by decide +kernel
theorem D_P_become_96 : decode prog_3_method_2_code 96 = .ok (.getfield 35, 3) ∧ 96 + 3 = 99 := by decide +kernel
theorem D_P_become_99 : decode prog_3_method_2_code 99 = .ok (.iconst 0, 1) ∧ 99 + 1 = 100 := by decide +kernel
theorem D_P_become_100 : decode prog_3_method_2_code 100 = .ok (.bipush 6, 2) ∧ 100 + 2 = 102 := by decide +kernel
theorem D_P_become_102 : decode prog_3_method_2_code 102 = .ok (.invokestatic 72, 3) ∧ 102 + 3 = 105 := by decide +kernel
theorem D_P_become_105 : decode prog_3_method_2_code 105 = .ok (.aload_n 1, 1) ∧ 105 + 1 = 106 := by decide +kernel
theorem D_P_become_106 : decode prog_3_method_2_code 106 = .ok (.getfield 38, 3) ∧ 106 + 3 = 109 := by decide +kernel
theorem D_P_become_109 : decode prog_3_method_2_code 109 = .ok (.iconst 0, 1) ∧ 109 + 1 = 110 := by decide +kernel
theorem D_P_become_110 : decode prog_3_method_2_code 110 = .ok (.aload_n 0, 1) ∧ 110 + 1 = 111 := by decide +kernel
theorem D_P_become_111 : decode prog_3_method_2_code 111 = .ok (.getfield 38, 3) ∧ 111 + 3 = 114 := by decide +kernel
theorem D_P_become_114 : decode prog_3_method_2_code 114 = .ok (.iconst 0, 1) ∧ 114 + 1 = 115 := by decide +kernel
theorem D_P_become_115 : decode prog_3_method_2_code 115 = .ok (.bipush 6, 2) ∧ 115 + 2 = 117 := by decide +kernel
theorem D_P_become_117 : decode prog_3_method_2_code 117 = .ok (.invokestatic 72, 3) ∧ 117 + 3 = 120 := by decide +kernel
theorem D_P_become_120 : decode prog_3_method_2_code 120 = .ok (.aload_n 1, 1) ∧ 120 + 1 = 121 := by decide +kernel
theorem D_P_become_121 : decode prog_3_method_2_code 121 = .ok (.getfield 41, 3) ∧ 121 + 3 = 124 := by decide +kernel
theorem D_P_become_124 : decode prog_3_method_2_code 124 = .ok (.iconst 0, 1) ∧ 124 + 1 = 125 := by decide +kernel
theorem D_P_become_125 : decode prog_3_method_2_code 125 = .ok (.aload_n 0, 1) ∧ 125 + 1 = 126 := by decide +kernel
theorem D_P_become_126 : decode prog_3_method_2_code 126 = .ok (.getfield 41, 3) ∧ 126 + 3 = 129 := by decide +kernel
theorem D_P_become_129 : decode prog_3_method_2_code 129 = .ok (.iconst 0, 1) ∧ 129 + 1 = 130 := by decide +kernel
theorem D_P_become_130 : decode prog_3_method_2_code 130 = .ok (.bipush 6, 2) ∧ 130 + 2 = 132 := by decide +kernel
theorem D_P_become_132 : decode prog_3_method_2_code 132 = .ok (.invokestatic 72, 3) ∧ 132 + 3 = 135 := by decide +kernel
theorem D_P_become_135 : decode prog_3_method_2_code 135 = .ok (.aload_n 1, 1) ∧ 135 + 1 = 136 := by decide +kernel
theorem D_P_become_136 : decode prog_3_method_2_code 136 = .ok (.getfield 44, 3) ∧ 136 + 3 = 139 := by decide +kernel
theorem D_P_become_139 : decode prog_3_method_2_code 139 = .ok (.iconst 0, 1) ∧ 139 + 1 = 140 := by decide +kernel
theorem D_P_become_140 : decode prog_3_method_2_code 140 = .ok (.aload_n 0, 1) ∧ 140 + 1 = 141 := by decide +kernel
theorem D_P_become_141 : decode prog_3_method_2_code 141 = .ok (.getfield 44, 3) ∧ 141 + 3 = 144 := by decide +kernel
theorem D_P_become_144 : decode prog_3_method_2_code 144 = .ok (.iconst 0, 1) ∧ 144 + 1 = 145 := by decide +kernel
theorem D_P_become_145 : decode prog_3_method_2_code 145 = .ok (.iconst 3, 1) ∧ 145 + 1 = 146 := by decide +kernel
theorem D_P_become_146 : decode prog_3_method_2_code 146 = .ok (.invokestatic 72, 3) ∧ 146 + 3 = 149 := by decide +kernel
theorem D_P_become_149 : decode prog_3_method_2_code 149 = .ok (.aload_n 0, 1) ∧ 149 + 1 = 150 := by decide +kernel
theorem D_P_become_150 : decode prog_3_method_2_code 150 = .ok (.aload_n 1, 1) ∧ 150 + 1 = 151 := by decide +kernel
theorem D_P_become_151 : decode prog_3_method_2_code 151 = .ok (.getfield 47, 3) ∧ 151 + 3 = 154 := by decide +kernel
theorem D_P_become_154 : decode prog_3_method_2_code 154 = .ok (.putfield 47, 3) ∧ 154 + 3 = 157 := by decide +kernel
theorem D_P_become_157 : decode prog_3_method_2_code 157 = .ok (.aload_n 0, 1) ∧ 157 + 1 = 158 := by decide +kernel
theorem D_P_become_158 : decode prog_3_method_2_code 158 = .ok (.aload_n 1, 1) ∧ 158 + 1 = 159 := by decide +kernel
theorem D_P_become_159 : decode prog_3_method_2_code 159 = .ok (.getfield 50, 3) ∧ 159 + 3 = 162 := by decide +kernel
theorem D_P_become_162 : decode prog_3_method_2_code 162 = .ok (.putfield 50, 3) ∧ 162 + 3 = 165 := by decide +kernel
theorem D_P_become_165 : decode prog_3_method_2_code 165 = .ok (.aload_n 0, 1) ∧ 165 + 1 = 166 := by decide +kernel
theorem D_P_become_166 : decode prog_3_method_2_code 166 = .ok (.aload_n 1, 1) ∧ 166 + 1 = 167 := by decide +kernel
theorem D_P_become_167 : decode prog_3_method_2_code 167 = .ok (.getfield 53, 3) ∧ 167 + 3 = 170 := by decide +kernel
theorem D_P_become_170 : decode prog_3_method_2_code 170 = .ok (.putfield 53, 3) ∧ 170 + 3 = 173 := by decide +kernel
theorem D_P_become_173 : decode prog_3_method_2_code 173 = .ok (.aload_n 0, 1) ∧ 173 + 1 = 174 := by decide +kernel
theorem D_P_become_174 : decode prog_3_method_2_code 174 = .ok (.aload_n 1, 1) ∧ 174 + 1 = 175 := by decide +kernel
theorem D_P_become_175 : decode prog_3_method_2_code 175 = .ok (.getfield 56, 3) ∧ 175 + 3 = 178 := by decide +kernel
theorem D_P_become_178 : decode prog_3_method_2_code 178 = .ok (.putfield 56, 3) ∧ 178 + 3 = 181 := by decide +kernel
theorem D_P_become_181 : decode prog_3_method_2_code 181 = .ok (.aload_n 0, 1) ∧ 181 + 1 = 182 := by decide +kernel
theorem D_P_become_182 : decode prog_3_method_2_code 182 = .ok (.aload_n 1, 1) ∧ 182 + 1 = 183 := by decide +kernel
theorem D_P_become_183 : decode prog_3_method_2_code 183 = .ok (.getfield 59, 3) ∧ 183 + 3 = 186 := by decide +kernel
theorem D_P_become_186 : decode prog_3_method_2_code 186 = .ok (.putfield 59, 3) ∧ 186 + 3 = 189 := by decide +kernel
theorem D_P_become_189 : decode prog_3_method_2_code 189 = .ok (.aload_n 0, 1) ∧ 189 + 1 = 190 := by decide +kernel
theorem D_P_become_190 : decode prog_3_method_2_code 190 = .ok (.iconst (-1), 1) ∧ 190 + 1 = 191 := by decide +kernel
theorem D_P_become_191 : decode prog_3_method_2_code 191 = .ok (.putfield 62, 3) ∧ 191 + 3 = 194 := by decide +kernel
theorem D_P_become_194 : decode prog_3_method_2_code 194 = .ok (.return_, 1) := by decide +kernel
def f_P_become (p : Nat) (o1 : Nat) (mem : Mm) : Option (Mm) := lt (mst mem p 2 (mem o1 2)) fun m_5 => lt (va_up m_5 (p + 1) (va_cpy (m_5 (o1 + 1)) (m_5 (p + 1)) (ix 0) (ix 0) (ix 3))) fun m_19 => lt (mst m_19 p 4 (m_19 o1 4)) fun m_27 => lt (va_up m_27 (p + 2) (va_cpy (m_27 (o1 + 2)) (m_27 (p + 2)) (ix 0) (ix 0) (ix 10))) fun m_42 => lt (va_up m_42 (p + 3) (va_cpy (m_42 (o1 + 3)) (m_42 (p + 3)) (ix 0) (ix 0) (ix 10))) fun m_57 => lt (va_up m_57 (p + 4) (va_cpy (m_57 (o1 + 4)) (m_57 (p + 4)) (ix 0) (ix 0) (ix 10))) fun m_72 => lt (va_up m_72 (p + 5) (va_cpy (m_72 (o1 + 5)) (m_72 (p + 5)) (ix 0) (ix 0) (ix 6))) fun m_87 => lt (va_up m_87 (p + 6) (va_cpy (m_87 (o1 + 6)) (m_87 (p + 6)) (ix 0) (ix 0) (ix 6))) fun m_102 => lt (va_up m_102 (p + 7) (va_cpy (m_102 (o1 + 7)) (m_102 (p + 7)) (ix 0) (ix 0) (ix 6))) fun m_117 => lt (va_up m_117 (p + 8) (va_cpy (m_117 (o1 + 8)) (m_117 (p + 8)) (ix 0) (ix 0) (ix 6))) fun m_132 => lt (va_up m_132 (p + 9) (va_cpy (m_132 (o1 + 9)) (m_132 (p + 9)) (ix 0) (ix 0) (ix 3))) fun m_146 => lt (mst m_146 p 13 (m_146 o1 13)) fun m_154 => lt (mst m_154 p 14 (m_154 o1 14)) fun m_162 => lt (mst m_162 p 15 (m_162 o1 15)) fun m_170 => lt (mst m_170 p 16 (m_170 o1 16)) fun m_178 => lt (mst m_178 p 17 (m_178 o1 17)) fun m_186 => lt (mst m_186 p 18 (-1)) fun m_191 => some m_191
theorem c_P_become (l : Launch) (E : En) (p : Nat) (hp : isPic p) (o1 : Nat) (ho1 : isPic o1) {mem : Mm} {m2 : Mm} (h : f_P_become p o1 mem = some m2) : CtV l E 1 y_P_become prog_3_method_2_code 2 [.ref (eb E + p), .ref (eb E + o1)] SH mem m2 := by
  refine mk_CtV ⟨by decide, (Nat.le_of_ble_eq_true rfl)⟩ (fun X S hl hR => ?_)
  have S : Std X E prog_3_method_2_code R0 2 1 := S
  show J X E 2 0 [(0, .ref (eb E + p)), (1, .ref (eb E + o1))] [] SH mem
  unfold f_P_become at h
  refine j_aload_n S D_P_become_0 0 rfl rfl ?_
  refine j_aload_n S D_P_become_1 1 rfl rfl ?_
  refine j_getI S D_P_become_2 fl_R0_9 (sh_pic ho1) rfl ?_
  obtain ⟨m_5, hm_5, h⟩ := ltE h
  refine j_putI S D_P_become_5 fp_R0_9 (sh_pic hp) rfl ?_
  refine j_mem hm_5 ?_
  refine j_aload_n S D_P_become_8 1 rfl rfl ?_
  refine j_getR S D_P_become_9 fl_R0_16 (sh_pic ho1) rfl ?_
  refine j_iconst S D_P_become_12 ci_0 ?_
  refine j_aload_n S D_P_become_13 0 rfl rfl ?_
  refine j_getR S D_P_become_14 fl_R0_16 (sh_pic hp) rfl ?_
  refine j_iconst S D_P_become_17 ci_0 ?_
  refine j_iconst S D_P_become_18 ci_3 ?_
  obtain ⟨m_19, hm_19, h⟩ := ltE h
  refine j_copy S D_P_become_19 (by decide) ac_R0_72 (Nat.le_of_ble_eq_true rfl) (sh_pic1 ho1) (sh_pic1 hp) nn_3 cp_0_3_3 cp_0_3_3 ?_
  refine j_mem hm_19 ?_
  refine j_aload_n S D_P_become_22 0 rfl rfl ?_
  refine j_aload_n S D_P_become_23 1 rfl rfl ?_
  refine j_getI S D_P_become_24 fl_R0_20 (sh_pic ho1) rfl ?_
  obtain ⟨m_27, hm_27, h⟩ := ltE h
  refine j_putI S D_P_become_27 fp_R0_20 (sh_pic hp) rfl ?_
  refine j_mem hm_27 ?_
  refine j_aload_n S D_P_become_30 1 rfl rfl ?_
  refine j_getR S D_P_become_31 fl_R0_23 (sh_pic ho1) rfl ?_
  refine j_iconst S D_P_become_34 ci_0 ?_
  refine j_aload_n S D_P_become_35 0 rfl rfl ?_
  refine j_getR S D_P_become_36 fl_R0_23 (sh_pic hp) rfl ?_
  refine j_iconst S D_P_become_39 ci_0 ?_
  refine j_bipush S D_P_become_40 cb_10 ?_
  obtain ⟨m_42, hm_42, h⟩ := ltE h
  refine j_copy S D_P_become_42 (by decide) ac_R0_72 (Nat.le_of_ble_eq_true rfl) (sh_pic2 ho1) (sh_pic2 hp) nn_10 cp_0_10_10 cp_0_10_10 ?_
  refine j_mem hm_42 ?_
  refine j_aload_n S D_P_become_45 1 rfl rfl ?_
  refine j_getR S D_P_become_46 fl_R0_26 (sh_pic ho1) rfl ?_
  refine j_iconst S D_P_become_49 ci_0 ?_
  refine j_aload_n S D_P_become_50 0 rfl rfl ?_
  refine j_getR S D_P_become_51 fl_R0_26 (sh_pic hp) rfl ?_
  refine j_iconst S D_P_become_54 ci_0 ?_
  refine j_bipush S D_P_become_55 cb_10 ?_
  obtain ⟨m_57, hm_57, h⟩ := ltE h
  refine j_copy S D_P_become_57 (by decide) ac_R0_72 (Nat.le_of_ble_eq_true rfl) (sh_pic3 ho1) (sh_pic3 hp) nn_10 cp_0_10_10 cp_0_10_10 ?_
  refine j_mem hm_57 ?_
  refine j_aload_n S D_P_become_60 1 rfl rfl ?_
  refine j_getR S D_P_become_61 fl_R0_29 (sh_pic ho1) rfl ?_
  refine j_iconst S D_P_become_64 ci_0 ?_
  refine j_aload_n S D_P_become_65 0 rfl rfl ?_
  refine j_getR S D_P_become_66 fl_R0_29 (sh_pic hp) rfl ?_
  refine j_iconst S D_P_become_69 ci_0 ?_
  refine j_bipush S D_P_become_70 cb_10 ?_
  obtain ⟨m_72, hm_72, h⟩ := ltE h
  refine j_copy S D_P_become_72 (by decide) ac_R0_72 (Nat.le_of_ble_eq_true rfl) (sh_pic4 ho1) (sh_pic4 hp) nn_10 cp_0_10_10 cp_0_10_10 ?_
  refine j_mem hm_72 ?_
  refine j_aload_n S D_P_become_75 1 rfl rfl ?_
  refine j_getR S D_P_become_76 fl_R0_32 (sh_pic ho1) rfl ?_
  refine j_iconst S D_P_become_79 ci_0 ?_
  refine j_aload_n S D_P_become_80 0 rfl rfl ?_
  refine j_getR S D_P_become_81 fl_R0_32 (sh_pic hp) rfl ?_
  refine j_iconst S D_P_become_84 ci_0 ?_
  refine j_bipush S D_P_become_85 cb_6 ?_
  obtain ⟨m_87, hm_87, h⟩ := ltE h
  refine j_copy S D_P_become_87 (by decide) ac_R0_72 (Nat.le_of_ble_eq_true rfl) (sh_pic5 ho1) (sh_pic5 hp) nn_6 cp_0_6_6 cp_0_6_6 ?_
  refine j_mem hm_87 ?_
  refine j_aload_n S D_P_become_90 1 rfl rfl ?_
  refine j_getR S D_P_become_91 fl_R0_35 (sh_pic ho1) rfl ?_
  refine j_iconst S D_P_become_94 ci_0 ?_
  refine j_aload_n S D_P_become_95 0 rfl rfl ?_
  refine j_getR S D_P_become_96 fl_R0_35 (sh_pic hp) rfl ?_
  refine j_iconst S D_P_become_99 ci_0 ?_
  refine j_bipush S D_P_become_100 cb_6 ?_
  obtain ⟨m_102, hm_102, h⟩ := ltE h
  refine j_copy S D_P_become_102 (by decide) ac_R0_72 (Nat.le_of_ble_eq_true rfl) (sh_pic6 ho1) (sh_pic6 hp) nn_6 cp_0_6_6 cp_0_6_6 ?_
  refine j_mem hm_102 ?_
  refine j_aload_n S D_P_become_105 1 rfl rfl ?_
  refine j_getR S D_P_become_106 fl_R0_38 (sh_pic ho1) rfl ?_
  refine j_iconst S D_P_become_109 ci_0 ?_
  refine j_aload_n S D_P_become_110 0 rfl rfl ?_
  refine j_getR S D_P_become_111 fl_R0_38 (sh_pic hp) rfl ?_
  refine j_iconst S D_P_become_114 ci_0 ?_
  refine j_bipush S D_P_become_115 cb_6 ?_
  obtain ⟨m_117, hm_117, h⟩ := ltE h
  refine j_copy S D_P_become_117 (by decide) ac_R0_72 (Nat.le_of_ble_eq_true rfl) (sh_pic7 ho1) (sh_pic7 hp) nn_6 cp_0_6_6 cp_0_6_6 ?_
  refine j_mem hm_117 ?_
  refine j_aload_n S D_P_become_120 1 rfl rfl ?_
  refine j_getR S D_P_become_121 fl_R0_41 (sh_pic ho1) rfl ?_
  refine j_iconst S D_P_become_124 ci_0 ?_
  refine j_aload_n S D_P_become_125 0 rfl rfl ?_
  refine j_getR S D_P_become_126 fl_R0_41 (sh_pic hp) rfl ?_
  refine j_iconst S D_P_become_129 ci_0 ?_
  refine j_bipush S D_P_become_130 cb_6 ?_
  obtain ⟨m_132, hm_132, h⟩ := ltE h
  refine j_copy S D_P_become_132 (by decide) ac_R0_72 (Nat.le_of_ble_eq_true rfl) (sh_pic8 ho1) (sh_pic8 hp) nn_6 cp_0_6_6 cp_0_6_6 ?_
  refine j_mem hm_132 ?_
  refine j_aload_n S D_P_become_135 1 rfl rfl ?_
  refine j_getR S D_P_become_136 fl_R0_44 (sh_pic ho1) rfl ?_
  refine j_iconst S D_P_become_139 ci_0 ?_
  refine j_aload_n S D_P_become_140 0 rfl rfl ?_
  refine j_getR S D_P_become_141 fl_R0_44 (sh_pic hp) rfl ?_
  refine j_iconst S D_P_become_144 ci_0 ?_
  refine j_iconst S D_P_become_145 ci_3 ?_
  obtain ⟨m_146, hm_146, h⟩ := ltE h
  refine j_copy S D_P_become_146 (by decide) ac_R0_72 (Nat.le_of_ble_eq_true rfl) (sh_pic9 ho1) (sh_pic9 hp) nn_3 cp_0_3_3 cp_0_3_3 ?_
  refine j_mem hm_146 ?_
  refine j_aload_n S D_P_become_149 0 rfl rfl ?_
  refine j_aload_n S D_P_become_150 1 rfl rfl ?_
  refine j_getI S D_P_become_151 fl_R0_47 (sh_pic ho1) rfl ?_
  obtain ⟨m_154, hm_154, h⟩ := ltE h
  refine j_putI S D_P_become_154 fp_R0_47 (sh_pic hp) rfl ?_
  refine j_mem hm_154 ?_
  refine j_aload_n S D_P_become_157 0 rfl rfl ?_
  refine j_aload_n S D_P_become_158 1 rfl rfl ?_
  refine j_getI S D_P_become_159 fl_R0_50 (sh_pic ho1) rfl ?_
  obtain ⟨m_162, hm_162, h⟩ := ltE h
  refine j_putI S D_P_become_162 fp_R0_50 (sh_pic hp) rfl ?_
  refine j_mem hm_162 ?_
  refine j_aload_n S D_P_become_165 0 rfl rfl ?_
  refine j_aload_n S D_P_become_166 1 rfl rfl ?_
  refine j_getI S D_P_become_167 fl_R0_53 (sh_pic ho1) rfl ?_
  obtain ⟨m_170, hm_170, h⟩ := ltE h
  refine j_putI S D_P_become_170 fp_R0_53 (sh_pic hp) rfl ?_
  refine j_mem hm_170 ?_
  refine j_aload_n S D_P_become_173 0 rfl rfl ?_
  refine j_aload_n S D_P_become_174 1 rfl rfl ?_
  refine j_getI S D_P_become_175 fl_R0_56 (sh_pic ho1) rfl ?_
  obtain ⟨m_178, hm_178, h⟩ := ltE h
  refine j_putI S D_P_become_178 fp_R0_56 (sh_pic hp) rfl ?_
  refine j_mem hm_178 ?_
  refine j_aload_n S D_P_become_181 0 rfl rfl ?_
  refine j_aload_n S D_P_become_182 1 rfl rfl ?_
  refine j_getI S D_P_become_183 fl_R0_59 (sh_pic ho1) rfl ?_
  obtain ⟨m_186, hm_186, h⟩ := ltE h
  refine j_putI S D_P_become_186 fp_R0_59 (sh_pic hp) rfl ?_
  refine j_mem hm_186 ?_
  refine j_aload_n S D_P_become_189 0 rfl rfl ?_
  refine j_iconst S D_P_become_190 ci_m1 ?_
  obtain ⟨m_191, hm_191, h⟩ := ltE h
  refine j_putI S D_P_become_191 fp_R0_62 (sh_pic hp) rfl ?_
  refine j_mem hm_191 ?_
  exact rtV hR h _ _ D_P_become_194

def y_P_addMonk : MethodName := ⟨"SandPicture$Picture", "addMonk", "(III)I"⟩
theorem D_P_addMonk_0 : decode prog_3_method_3_code 0 = .ok (.aload_n 0, 1) ∧ 0 + 1 = 1 := by decide +kernel
theorem D_P_addMonk_1 : decode prog_3_method_3_code 1 = .ok (.getfield 20, 3) ∧ 1 + 3 = 4 := by decide +kernel
theorem D_P_addMonk_4 : decode prog_3_method_3_code 4 = .ok (.bipush 10, 2) ∧ 4 + 2 = 6 := by decide +kernel
theorem D_P_addMonk_6 : decode prog_3_method_3_code 6 = .ok (.if_icmp .lt 6, 3) ∧ ((6 : Nat) : Int) + 6 = ((12 : Nat) : Int) ∧ 6 + 3 = 9 := by decide +kernel
theorem D_P_addMonk_12 : decode prog_3_method_3_code 12 = .ok (.aload_n 0, 1) ∧ 12 + 1 = 13 := by decide +kernel
theorem D_P_addMonk_13 : decode prog_3_method_3_code 13 = .ok (.getfield 23, 3) ∧ 13 + 3 = 16 := by decide +kernel
theorem D_P_addMonk_16 : decode prog_3_method_3_code 16 = .ok (.aload_n 0, 1) ∧ 16 + 1 = 17 := by decide +kernel
theorem D_P_addMonk_17 : decode prog_3_method_3_code 17 = .ok (.getfield 20, 3) ∧ 17 + 3 = 20 := by decide +kernel
theorem D_P_addMonk_20 : decode prog_3_method_3_code 20 = .ok (.iload_n 1, 1) ∧ 20 + 1 = 21 := by decide +kernel
theorem D_P_addMonk_21 : decode prog_3_method_3_code 21 = .ok (.iastore, 1) ∧ 21 + 1 = 22 := by decide +kernel
theorem D_P_addMonk_22 : decode prog_3_method_3_code 22 = .ok (.aload_n 0, 1) ∧ 22 + 1 = 23 := by decide +kernel
theorem D_P_addMonk_23 : decode prog_3_method_3_code 23 = .ok (.getfield 26, 3) ∧ 23 + 3 = 26 := by decide +kernel
theorem D_P_addMonk_26 : decode prog_3_method_3_code 26 = .ok (.aload_n 0, 1) ∧ 26 + 1 = 27 := by decide +kernel
theorem D_P_addMonk_27 : decode prog_3_method_3_code 27 = .ok (.getfield 20, 3) ∧ 27 + 3 = 30 := by decide +kernel
theorem D_P_addMonk_30 : decode prog_3_method_3_code 30 = .ok (.iload_n 2, 1) ∧ 30 + 1 = 31 := by decide +kernel
theorem D_P_addMonk_31 : decode prog_3_method_3_code 31 = .ok (.iastore, 1) ∧ 31 + 1 = 32 := by decide +kernel
theorem D_P_addMonk_32 : decode prog_3_method_3_code 32 = .ok (.aload_n 0, 1) ∧ 32 + 1 = 33 := by decide +kernel
theorem D_P_addMonk_33 : decode prog_3_method_3_code 33 = .ok (.getfield 29, 3) ∧ 33 + 3 = 36 := by decide +kernel
theorem D_P_addMonk_36 : decode prog_3_method_3_code 36 = .ok (.aload_n 0, 1) ∧ 36 + 1 = 37 := by decide +kernel
theorem D_P_addMonk_37 : decode prog_3_method_3_code 37 = .ok (.getfield 20, 3) ∧ 37 + 3 = 40 := by decide +kernel
theorem D_P_addMonk_40 : decode prog_3_method_3_code 40 = .ok (.iload_n 3, 1) ∧ 40 + 1 = 41 := by decide +kernel
theorem D_P_addMonk_41 : decode prog_3_method_3_code 41 = .ok (.iastore, 1) ∧ 41 + 1 = 42 := by decide +kernel
theorem D_P_addMonk_42 : decode prog_3_method_3_code 42 = .ok (.aload_n 0, 1) ∧ 42 + 1 = 43 := by decide +kernel
theorem D_P_addMonk_43 : decode prog_3_method_3_code 43 = .ok (.dup, 1) ∧ 43 + 1 = 44 := by decide +kernel
theorem D_P_addMonk_44 : decode prog_3_method_3_code 44 = .ok (.getfield 20, 3) ∧ 44 + 3 = 47 := by decide +kernel
theorem D_P_addMonk_47 : decode prog_3_method_3_code 47 = .ok (.iconst 1, 1) ∧ 47 + 1 = 48 := by decide +kernel
theorem D_P_addMonk_48 : decode prog_3_method_3_code 48 = .ok (.iadd, 1) ∧ 48 + 1 = 49 := by decide +kernel
theorem D_P_addMonk_49 : decode prog_3_method_3_code 49 = .ok (.putfield 20, 3) ∧ 49 + 3 = 52 := by decide +kernel
theorem D_P_addMonk_52 : decode prog_3_method_3_code 52 = .ok (.aload_n 0, 1) ∧ 52 + 1 = 53 := by decide +kernel
theorem D_P_addMonk_53 : decode prog_3_method_3_code 53 = .ok (.getfield 20, 3) ∧ 53 + 3 = 56 := by decide +kernel
theorem D_P_addMonk_56 : decode prog_3_method_3_code 56 = .ok (.iconst 1, 1) ∧ 56 + 1 = 57 := by decide +kernel
theorem D_P_addMonk_57 : decode prog_3_method_3_code 57 = .ok (.isub, 1) ∧ 57 + 1 = 58 := by decide +kernel
theorem D_P_addMonk_58 : decode prog_3_method_3_code 58 = .ok (.ireturn, 1) := by decide +kernel
theorem D_P_addMonk_9 : decode prog_3_method_3_code 9 = .ok (.ldc 78, 2) ∧ 9 + 2 = 11 := by decide +kernel
theorem D_P_addMonk_11 : decode prog_3_method_3_code 11 = .ok (.ireturn, 1) := by decide +kernel
def f_P_addMonk (p : Nat) (a1 : Int32) (a2 : Int32) (a3 : Int32) (mem : Mm) : Option (Int32 × Mm) := if mem p 4 < 10 then if inb (mem p 4) 10 = true then lt (mst mem (p + 2) (ix (mem p 4)) a1) fun m_21 => if inb (m_21 p 4) 10 = true then lt (mst m_21 (p + 3) (ix (m_21 p 4)) a2) fun m_31 => if inb (m_31 p 4) 10 = true then lt (mst m_31 (p + 4) (ix (m_31 p 4)) a3) fun m_41 => lt (mst m_41 p 4 ((m_41 p 4) + 1)) fun m_49 => some ((m_49 p 4) - 1, m_49) else none else none else none else some ((-1000000003), mem)
theorem c_P_addMonk (l : Launch) (E : En) (p : Nat) (hp : isPic p) (a1 : Int32) (a2 : Int32) (a3 : Int32) {mem : Mm} {r : Int32} {m2 : Mm} (h : f_P_addMonk p a1 a2 a3 mem = some (r, m2)) : CtI l E 0 y_P_addMonk prog_3_method_3_code 4 (some .int) [.ref (eb E + p), .int a1, .int a2, .int a3] SH mem r m2 := by
  refine mk_CtI ⟨by decide, (Nat.le_of_ble_eq_true rfl)⟩ (fun X S hl hR => ?_)
  have S : Std X E prog_3_method_3_code R0 4 0 := S
  show J X E 4 0 [(0, .ref (eb E + p)), (1, .int a1), (2, .int a2), (3, .int a3)] [] SH mem
  unfold f_P_addMonk at h
  refine j_aload_n S D_P_addMonk_0 0 rfl rfl ?_
  refine j_getI S D_P_addMonk_1 fl_R0_20 (sh_pic hp) rfl ?_
  refine j_bipush S D_P_addMonk_4 cb_10 ?_
  refine j_icmp_lt S D_P_addMonk_6 (fun c_6 => ?_) (fun c_6 => ?_)
  · have h := ifT c_6 h
    refine j_aload_n S D_P_addMonk_12 0 rfl rfl ?_
    refine j_getR S D_P_addMonk_13 fl_R0_23 (sh_pic hp) rfl ?_
    refine j_aload_n S D_P_addMonk_16 0 rfl rfl ?_
    refine j_getI S D_P_addMonk_17 fl_R0_20 (sh_pic hp) rfl ?_
    refine j_iload_n S D_P_addMonk_20 1 rfl rfl ?_
    obtain ⟨g_21, h⟩ := gdE h
    obtain ⟨m_21, hm_21, h⟩ := ltE h
    refine j_iast S D_P_addMonk_21 (sh_pic2 hp) g_21 ?_
    refine j_mem hm_21 ?_
    refine j_aload_n S D_P_addMonk_22 0 rfl rfl ?_
    refine j_getR S D_P_addMonk_23 fl_R0_26 (sh_pic hp) rfl ?_
    refine j_aload_n S D_P_addMonk_26 0 rfl rfl ?_
    refine j_getI S D_P_addMonk_27 fl_R0_20 (sh_pic hp) rfl ?_
    refine j_iload_n S D_P_addMonk_30 2 rfl rfl ?_
    obtain ⟨g_31, h⟩ := gdE h
    obtain ⟨m_31, hm_31, h⟩ := ltE h
    refine j_iast S D_P_addMonk_31 (sh_pic3 hp) g_31 ?_
    refine j_mem hm_31 ?_
    refine j_aload_n S D_P_addMonk_32 0 rfl rfl ?_
    refine j_getR S D_P_addMonk_33 fl_R0_29 (sh_pic hp) rfl ?_
    refine j_aload_n S D_P_addMonk_36 0 rfl rfl ?_
    refine j_getI S D_P_addMonk_37 fl_R0_20 (sh_pic hp) rfl ?_
    refine j_iload_n S D_P_addMonk_40 3 rfl rfl ?_
    obtain ⟨g_41, h⟩ := gdE h
    obtain ⟨m_41, hm_41, h⟩ := ltE h
    refine j_iast S D_P_addMonk_41 (sh_pic4 hp) g_41 ?_
    refine j_mem hm_41 ?_
    refine j_aload_n S D_P_addMonk_42 0 rfl rfl ?_
    refine j_dup S D_P_addMonk_43 rfl ?_
    refine j_getI S D_P_addMonk_44 fl_R0_20 (sh_pic hp) rfl ?_
    refine j_iconst S D_P_addMonk_47 ci_1 ?_
    refine j_iadd S D_P_addMonk_48 ?_
    obtain ⟨m_49, hm_49, h⟩ := ltE h
    refine j_putI S D_P_addMonk_49 fp_R0_20 (sh_pic hp) rfl ?_
    refine j_mem hm_49 ?_
    refine j_aload_n S D_P_addMonk_52 0 rfl rfl ?_
    refine j_getI S D_P_addMonk_53 fl_R0_20 (sh_pic hp) rfl ?_
    refine j_iconst S D_P_addMonk_56 ci_1 ?_
    refine j_isub S D_P_addMonk_57 ?_
    exact rtM hR h _ _ D_P_addMonk_58
  · have h := ifF c_6 h
    refine j_ldc S D_P_addMonk_9 co_R0_78 ?_
    exact rtM hR h _ _ D_P_addMonk_11

def y_P_draw : MethodName := ⟨"SandPicture$Picture", "draw", "()I"⟩
theorem D_P_draw_0 : decode prog_3_method_5_code 0 = .ok (.aload_n 0, 1) ∧ 0 + 1 = 1 := by decide +kernel
theorem D_P_draw_1 : decode prog_3_method_5_code 1 = .ok (.aload_n 0, 1) ∧ 1 + 1 = 2 := by decide +kernel
theorem D_P_draw_2 : decode prog_3_method_5_code 2 = .ok (.getfield 59, 3) ∧ 2 + 3 = 5 := by decide +kernel
theorem D_P_draw_5 : decode prog_3_method_5_code 5 = .ok (.ldc 87, 2) ∧ 5 + 2 = 7 := by decide +kernel
theorem D_P_draw_7 : decode prog_3_method_5_code 7 = .ok (.imul, 1) ∧ 7 + 1 = 8 := by decide +kernel
theorem D_P_draw_8 : decode prog_3_method_5_code 8 = .ok (.sipush 12345, 3) ∧ 8 + 3 = 11 := by decide +kernel
theorem D_P_draw_11 : decode prog_3_method_5_code 11 = .ok (.iadd, 1) ∧ 11 + 1 = 12 := by decide +kernel
theorem D_P_draw_12 : decode prog_3_method_5_code 12 = .ok (.putfield 59, 3) ∧ 12 + 3 = 15 := by decide +kernel
theorem D_P_draw_15 : decode prog_3_method_5_code 15 = .ok (.aload_n 0, 1) ∧ 15 + 1 = 16 := by decide +kernel
theorem D_P_draw_16 : decode prog_3_method_5_code 16 = .ok (.getfield 59, 3) ∧ 16 + 3 = 19 := by decide +kernel
theorem D_P_draw_19 : decode prog_3_method_5_code 19 = .ok (.bipush 8, 2) ∧ 19 + 2 = 21 := by decide +kernel
theorem D_P_draw_21 : decode prog_3_method_5_code 21 = .ok (.iushr, 1) ∧ 21 + 1 = 22 := by decide +kernel
theorem D_P_draw_22 : decode prog_3_method_5_code 22 = .ok (.ireturn, 1) := by decide +kernel
def f_P_draw (p : Nat) (mem : Mm) : Option (Int32 × Mm) := lt (mst mem p 17 (((mem p 17) * 1103515245) + 12345)) fun m_12 => some (((m_12 p 17).toUInt32 >>> ((8 : Int32).toUInt32 &&& Int32.toUInt32 31)).toInt32, m_12)
theorem c_P_draw (l : Launch) (E : En) (p : Nat) (hp : isPic p) {mem : Mm} {r : Int32} {m2 : Mm} (h : f_P_draw p mem = some (r, m2)) : CtI l E 0 y_P_draw prog_3_method_5_code 1 (some .int) [.ref (eb E + p)] SH mem r m2 := by
  refine mk_CtI ⟨by decide, (Nat.le_of_ble_eq_true rfl)⟩ (fun X S hl hR => ?_)
  have S : Std X E prog_3_method_5_code R0 1 0 := S
  show J X E 1 0 [(0, .ref (eb E + p))] [] SH mem
  unfold f_P_draw at h
  refine j_aload_n S D_P_draw_0 0 rfl rfl ?_
  refine j_aload_n S D_P_draw_1 0 rfl rfl ?_
  refine j_getI S D_P_draw_2 fl_R0_59 (sh_pic hp) rfl ?_
  refine j_ldc S D_P_draw_5 co_R0_87 ?_
  refine j_imul S D_P_draw_7 ?_
  refine j_sipush S D_P_draw_8 cs_12345 ?_
  refine j_iadd S D_P_draw_11 ?_
  obtain ⟨m_12, hm_12, h⟩ := ltE h
  refine j_putI S D_P_draw_12 fp_R0_59 (sh_pic hp) rfl ?_
  refine j_mem hm_12 ?_
  refine j_aload_n S D_P_draw_15 0 rfl rfl ?_
  refine j_getI S D_P_draw_16 fl_R0_59 (sh_pic hp) rfl ?_
  refine j_bipush S D_P_draw_19 cb_8 ?_
  refine j_iushr S D_P_draw_21 ?_
  exact rtM hR h _ _ D_P_draw_22

def y_P_drawMonk : MethodName := ⟨"SandPicture$Picture", "drawMonk", "()V"⟩
theorem D_P_drawMonk_0 : decode prog_3_method_4_code 0 = .ok (.aload_n 0, 1) ∧ 0 + 1 = 1 := by decide +kernel
theorem D_P_drawMonk_1 : decode prog_3_method_4_code 1 = .ok (.invokevirtual 79, 3) ∧ 1 + 3 = 4 := by decide +kernel
theorem D_P_drawMonk_4 : decode prog_3_method_4_code 4 = .ok (.bipush 6, 2) ∧ 4 + 2 = 6 := by decide +kernel
theorem D_P_drawMonk_6 : decode prog_3_method_4_code 6 = .ok (.irem, 1) ∧ 6 + 1 = 7 := by decide +kernel
theorem D_P_drawMonk_7 : decode prog_3_method_4_code 7 = .ok (.istore_n 1, 1) ∧ 7 + 1 = 8 := by decide +kernel
theorem D_P_drawMonk_8 : decode prog_3_method_4_code 8 = .ok (.iconst 1, 1) ∧ 8 + 1 = 9 := by decide +kernel
theorem D_P_drawMonk_9 : decode prog_3_method_4_code 9 = .ok (.aload_n 0, 1) ∧ 9 + 1 = 10 := by decide +kernel
theorem D_P_drawMonk_10 : decode prog_3_method_4_code 10 = .ok (.invokevirtual 79, 3) ∧ 10 + 3 = 13 := by decide +kernel
theorem D_P_drawMonk_13 : decode prog_3_method_4_code 13 = .ok (.bipush 20, 2) ∧ 13 + 2 = 15 := by decide +kernel
theorem D_P_drawMonk_15 : decode prog_3_method_4_code 15 = .ok (.irem, 1) ∧ 15 + 1 = 16 := by decide +kernel
theorem D_P_drawMonk_16 : decode prog_3_method_4_code 16 = .ok (.iadd, 1) ∧ 16 + 1 = 17 := by decide +kernel
theorem D_P_drawMonk_17 : decode prog_3_method_4_code 17 = .ok (.istore_n 2, 1) ∧ 17 + 1 = 18 := by decide +kernel
theorem D_P_drawMonk_18 : decode prog_3_method_4_code 18 = .ok (.aload_n 0, 1) ∧ 18 + 1 = 19 := by decide +kernel
theorem D_P_drawMonk_19 : decode prog_3_method_4_code 19 = .ok (.invokevirtual 79, 3) ∧ 19 + 3 = 22 := by decide +kernel
theorem D_P_drawMonk_22 : decode prog_3_method_4_code 22 = .ok (.bipush 6, 2) ∧ 22 + 2 = 24 := by decide +kernel
theorem D_P_drawMonk_24 : decode prog_3_method_4_code 24 = .ok (.irem, 1) ∧ 24 + 1 = 25 := by decide +kernel
theorem D_P_drawMonk_25 : decode prog_3_method_4_code 25 = .ok (.istore_n 3, 1) ∧ 25 + 1 = 26 := by decide +kernel
theorem D_P_drawMonk_26 : decode prog_3_method_4_code 26 = .ok (.aload_n 0, 1) ∧ 26 + 1 = 27 := by decide +kernel
theorem D_P_drawMonk_27 : decode prog_3_method_4_code 27 = .ok (.iload_n 1, 1) ∧ 27 + 1 = 28 := by decide +kernel
theorem D_P_drawMonk_28 : decode prog_3_method_4_code 28 = .ok (.iload_n 2, 1) ∧ 28 + 1 = 29 := by decide +kernel
theorem D_P_drawMonk_29 : decode prog_3_method_4_code 29 = .ok (.iload_n 3, 1) ∧ 29 + 1 = 30 := by decide +kernel
theorem D_P_drawMonk_30 : decode prog_3_method_4_code 30 = .ok (.invokevirtual 83, 3) ∧ 30 + 3 = 33 := by decide +kernel
theorem D_P_drawMonk_33 : decode prog_3_method_4_code 33 = .ok (.pop, 1) ∧ 33 + 1 = 34 := by decide +kernel
theorem D_P_drawMonk_34 : decode prog_3_method_4_code 34 = .ok (.return_, 1) := by decide +kernel
def f_P_drawMonk (p : Nat) (mem : Mm) : Option (Mm) := bd (f_P_draw p mem) fun r_1 m_1 => lt (r_1 - r_1 / 6 * 6) fun x_7 => bd (f_P_draw p m_1) fun r_10 m_10 => lt (1 + (r_10 - r_10 / 20 * 20)) fun x_17 => bd (f_P_draw p m_10) fun r_19 m_19 => lt (r_19 - r_19 / 6 * 6) fun x_25 => bd (f_P_addMonk p x_7 x_17 x_25 m_19) fun r_30 m_30 => some m_30
theorem c_P_drawMonk (l : Launch) (E : En) (p : Nat) (hp : isPic p) {mem : Mm} {m2 : Mm} (h : f_P_drawMonk p mem = some m2) : CtV l E 1 y_P_drawMonk prog_3_method_4_code 4 [.ref (eb E + p)] SH mem m2 := by
  refine mk_CtV ⟨by decide, (Nat.le_of_ble_eq_true rfl)⟩ (fun X S hl hR => ?_)
  have S : Std X E prog_3_method_4_code R0 4 1 := S
  show J X E 4 0 [(0, .ref (eb E + p))] [] SH mem
  unfold f_P_drawMonk at h
  refine j_aload_n S D_P_drawMonk_0 0 rfl rfl ?_
  obtain ⟨r_1, m_1, e_1, h⟩ := bdE h
  refine j_callVI (As := []) S D_P_drawMonk_1 mv_R0_79 (c_P_draw (cxL X) E p hp e_1) (by decide) (sh_pic hp) rfl rfl rfl rfl (Nat.le_of_ble_eq_true rfl) ?_
  refine j_bipush S D_P_drawMonk_4 cb_6 ?_
  refine j_irem S D_P_drawMonk_6 nz_6 ?_
  obtain ⟨x_7, hx_7, h⟩ := ltE h
  refine j_nm hx_7 ?_
  refine j_istore_n S D_P_drawMonk_7 (lv := [(1, .int x_7), (0, .ref (eb E + p))]) rfl ⟨rfl, (Nat.le_of_ble_eq_true rfl)⟩ ?_
  refine j_iconst S D_P_drawMonk_8 ci_1 ?_
  refine j_aload_n S D_P_drawMonk_9 1 rfl rfl ?_
  obtain ⟨r_10, m_10, e_10, h⟩ := bdE h
  refine j_callVI (As := []) S D_P_drawMonk_10 mv_R0_79 (c_P_draw (cxL X) E p hp e_10) (by decide) (sh_pic hp) rfl rfl rfl rfl (Nat.le_of_ble_eq_true rfl) ?_
  refine j_bipush S D_P_drawMonk_13 cb_20 ?_
  refine j_irem S D_P_drawMonk_15 nz_20 ?_
  refine j_iadd S D_P_drawMonk_16 ?_
  obtain ⟨x_17, hx_17, h⟩ := ltE h
  refine j_nm hx_17 ?_
  refine j_istore_n S D_P_drawMonk_17 (lv := [(2, .int x_17), (1, .int x_7), (0, .ref (eb E + p))]) rfl ⟨rfl, (Nat.le_of_ble_eq_true rfl)⟩ ?_
  refine j_aload_n S D_P_drawMonk_18 2 rfl rfl ?_
  obtain ⟨r_19, m_19, e_19, h⟩ := bdE h
  refine j_callVI (As := []) S D_P_drawMonk_19 mv_R0_79 (c_P_draw (cxL X) E p hp e_19) (by decide) (sh_pic hp) rfl rfl rfl rfl (Nat.le_of_ble_eq_true rfl) ?_
  refine j_bipush S D_P_drawMonk_22 cb_6 ?_
  refine j_irem S D_P_drawMonk_24 nz_6 ?_
  obtain ⟨x_25, hx_25, h⟩ := ltE h
  refine j_nm hx_25 ?_
  refine j_istore_n S D_P_drawMonk_25 (lv := [(3, .int x_25), (2, .int x_17), (1, .int x_7), (0, .ref (eb E + p))]) rfl ⟨rfl, (Nat.le_of_ble_eq_true rfl)⟩ ?_
  refine j_aload_n S D_P_drawMonk_26 3 rfl rfl ?_
  refine j_iload_n S D_P_drawMonk_27 2 rfl rfl ?_
  refine j_iload_n S D_P_drawMonk_28 1 rfl rfl ?_
  refine j_iload_n S D_P_drawMonk_29 0 rfl rfl ?_
  obtain ⟨r_30, m_30, e_30, h⟩ := bdE h
  refine j_callVI (As := [.int x_7, .int x_17, .int x_25]) S D_P_drawMonk_30 mv_R0_83 (c_P_addMonk (cxL X) E p hp x_7 x_17 x_25 e_30) (by decide) (sh_pic hp) rfl rfl rfl rfl (Nat.le_of_ble_eq_true rfl) ?_
  refine j_pop S D_P_drawMonk_33 rfl ?_
  exact rtV hR h _ _ D_P_drawMonk_34

def y_P_lawGives : MethodName := ⟨"SandPicture$Picture", "lawGives", "(IIIII)I"⟩
theorem D_P_lawGives_0 : decode prog_3_method_6_code 0 = .ok (.aload_n 0, 1) ∧ 0 + 1 = 1 := by decide +kernel
theorem D_P_lawGives_1 : decode prog_3_method_6_code 1 = .ok (.getfield 16, 3) ∧ 1 + 3 = 4 := by decide +kernel
theorem D_P_lawGives_4 : decode prog_3_method_6_code 4 = .ok (.iload_n 1, 1) ∧ 4 + 1 = 5 := by decide +kernel
theorem D_P_lawGives_5 : decode prog_3_method_6_code 5 = .ok (.iaload, 1) ∧ 5 + 1 = 6 := by decide +kernel
theorem D_P_lawGives_6 : decode prog_3_method_6_code 6 = .ok (.istore 6, 2) ∧ 6 + 2 = 8 := by decide +kernel
theorem D_P_lawGives_8 : decode prog_3_method_6_code 8 = .ok (.iload 6, 2) ∧ 8 + 2 = 10 := by decide +kernel
theorem D_P_lawGives_10 : decode prog_3_method_6_code 10 = .ok (.ifCond .lt 13, 3) ∧ ((10 : Nat) : Int) + 13 = ((23 : Nat) : Int) ∧ 10 + 3 = 13 := by decide +kernel
theorem D_P_lawGives_23 : decode prog_3_method_6_code 23 = .ok (.iload 5, 2) ∧ 23 + 2 = 25 := by decide +kernel
theorem D_P_lawGives_25 : decode prog_3_method_6_code 25 = .ok (.ireturn, 1) := by decide +kernel
theorem D_P_lawGives_13 : decode prog_3_method_6_code 13 = .ok (.iload 6, 2) ∧ 13 + 2 = 15 := by decide +kernel
theorem D_P_lawGives_15 : decode prog_3_method_6_code 15 = .ok (.aload_n 0, 1) ∧ 15 + 1 = 16 := by decide +kernel
theorem D_P_lawGives_16 : decode prog_3_method_6_code 16 = .ok (.getfield 65, 3) ∧ 16 + 3 = 19 := by decide +kernel
theorem D_P_lawGives_19 : decode prog_3_method_6_code 19 = .ok (.arraylength, 1) ∧ 19 + 1 = 20 := by decide +kernel
theorem D_P_lawGives_20 : decode prog_3_method_6_code 20 = .ok (.if_icmp .lt 6, 3) ∧ ((20 : Nat) : Int) + 6 = ((26 : Nat) : Int) ∧ 20 + 3 = 23 := by decide +kernel
theorem D_P_lawGives_26 : decode prog_3_method_6_code 26 = .ok (.aload_n 0, 1) ∧ 26 + 1 = 27 := by decide +kernel
theorem D_P_lawGives_27 : decode prog_3_method_6_code 27 = .ok (.getfield 65, 3) ∧ 27 + 3 = 30 := by decide +kernel
theorem D_P_lawGives_30 : decode prog_3_method_6_code 30 = .ok (.iload 6, 2) ∧ 30 + 2 = 32 := by decide +kernel
theorem D_P_lawGives_32 : decode prog_3_method_6_code 32 = .ok (.aaload, 1) ∧ 32 + 1 = 33 := by decide +kernel
theorem D_P_lawGives_33 : decode prog_3_method_6_code 33 = .ok (.iload_n 2, 1) ∧ 33 + 1 = 34 := by decide +kernel
theorem D_P_lawGives_34 : decode prog_3_method_6_code 34 = .ok (.iload_n 3, 1) ∧ 34 + 1 = 35 := by decide +kernel
theorem D_P_lawGives_35 : decode prog_3_method_6_code 35 = .ok (.iload 4, 2) ∧ 35 + 2 = 37 := by decide +kernel
theorem D_P_lawGives_37 : decode prog_3_method_6_code 37 = .ok (.aload_n 0, 1) ∧ 37 + 1 = 38 := by decide +kernel
theorem D_P_lawGives_38 : decode prog_3_method_6_code 38 = .ok (.getfield 69, 3) ∧ 38 + 3 = 41 := by decide +kernel
theorem D_P_lawGives_41 : decode prog_3_method_6_code 41 = .ok (.invokevirtual 88, 3) ∧ 41 + 3 = 44 := by decide +kernel
theorem D_P_lawGives_44 : decode prog_3_method_6_code 44 = .ok (.ireturn, 1) := by decide +kernel
def f_P_lawGives (N : Nat) (p : Nat) (a1 : Int32) (a2 : Int32) (a3 : Int32) (a4 : Int32) (a5 : Int32) (mem : Mm) : Option (Int32 × Mm) := if inb a1 3 = true then lt (mem (p + 1) (ix a1)) fun x_6 => if x_6 < 0 then some (a5, mem) else if x_6 < 15 then if inb x_6 15 = true then bd (f_X_worksOut N (7 + 2 * ix x_6) a2 a3 a4 mem) fun r_41 m_41 => some (r_41, m_41) else none else some (a5, mem) else none
theorem c_P_lawGives (l : Launch) (E : En) (N : Nat) (p : Nat) (hp : isPic p) (a1 : Int32) (a2 : Int32) (a3 : Int32) (a4 : Int32) (a5 : Int32) {mem : Mm} {r : Int32} {m2 : Mm} (h : f_P_lawGives N p a1 a2 a3 a4 a5 mem = some (r, m2)) : CtI l E 2 y_P_lawGives prog_3_method_6_code 7 (some .int) [.ref (eb E + p), .int a1, .int a2, .int a3, .int a4, .int a5] SH mem r m2 := by
  refine mk_CtI ⟨by decide, (Nat.le_of_ble_eq_true rfl)⟩ (fun X S hl hR => ?_)
  have S : Std X E prog_3_method_6_code R0 7 2 := S
  show J X E 7 0 [(0, .ref (eb E + p)), (1, .int a1), (2, .int a2), (3, .int a3), (4, .int a4), (5, .int a5)] [] SH mem
  unfold f_P_lawGives at h
  refine j_aload_n S D_P_lawGives_0 0 rfl rfl ?_
  refine j_getR S D_P_lawGives_1 fl_R0_16 (sh_pic hp) rfl ?_
  refine j_iload_n S D_P_lawGives_4 1 rfl rfl ?_
  obtain ⟨g_5, h⟩ := gdE h
  refine j_iald S D_P_lawGives_5 (sh_pic1 hp) g_5 ?_
  obtain ⟨x_6, hx_6, h⟩ := ltE h
  refine j_nm hx_6 ?_
  refine j_istore S D_P_lawGives_6 (lv := [(6, .int x_6), (0, .ref (eb E + p)), (1, .int a1), (2, .int a2), (3, .int a3), (4, .int a4), (5, .int a5)]) rfl (Nat.le_of_ble_eq_true rfl) ?_
  refine j_iload S D_P_lawGives_8 0 rfl ?_
  refine j_if_lt S D_P_lawGives_10 (fun c_10 => ?_) (fun c_10 => ?_)
  · have h := ifT c_10 h
    refine j_iload S D_P_lawGives_23 6 rfl ?_
    exact rtM hR h _ _ D_P_lawGives_25
  · have h := ifF c_10 h
    refine j_iload S D_P_lawGives_13 0 rfl ?_
    refine j_aload_n S D_P_lawGives_15 1 rfl rfl ?_
    refine j_getR S D_P_lawGives_16 fl_R0_65 (sh_pic hp) rfl ?_
    refine j_alenQ S D_P_lawGives_19 sh_1 rfl cn_15 ?_
    refine j_icmp_lt S D_P_lawGives_20 (fun c_20 => ?_) (fun c_20 => ?_)
    · have h := ifT c_20 h
      refine j_aload_n S D_P_lawGives_26 1 rfl rfl ?_
      refine j_getR S D_P_lawGives_27 fl_R0_65 (sh_pic hp) rfl ?_
      refine j_iload S D_P_lawGives_30 0 rfl ?_
      obtain ⟨g_32, h⟩ := gdE h
      refine j_aald S D_P_lawGives_32 sh_1 rfl g_32 (el_txt g_32) ?_
      refine j_iload_n S D_P_lawGives_33 3 rfl rfl ?_
      refine j_iload_n S D_P_lawGives_34 4 rfl rfl ?_
      refine j_iload S D_P_lawGives_35 5 rfl ?_
      refine j_aload_n S D_P_lawGives_37 1 rfl rfl ?_
      refine j_getR S D_P_lawGives_38 fl_R0_69 (sh_pic hp) rfl ?_
      obtain ⟨r_41, m_41, e_41, h⟩ := bdE h
      refine j_callVI (As := [.int a2, .int a3, .int a4, .ref (eb E + 37)]) S D_P_lawGives_41 mv_R0_88 (c_X_worksOut (cxL X) E N (7 + 2 * ix x_6) (ro_txt g_32) a2 a3 a4 e_41) (by decide) (sh_txt (ro_txt g_32)) rfl rfl rfl rfl (Nat.le_of_ble_eq_true rfl) ?_
      exact rtM hR h _ _ D_P_lawGives_44
    · have h := ifF c_20 h
      refine j_iload S D_P_lawGives_23 6 rfl ?_
      exact rtM hR h _ _ D_P_lawGives_25

def y_P_pours : MethodName := ⟨"SandPicture$Picture", "pours", "(II)I"⟩
theorem D_P_pours_0 : decode prog_3_method_7_code 0 = .ok (.aload_n 0, 1) ∧ 0 + 1 = 1 := by decide +kernel
theorem D_P_pours_1 : decode prog_3_method_7_code 1 = .ok (.iconst 0, 1) ∧ 1 + 1 = 2 := by decide +kernel
theorem D_P_pours_2 : decode prog_3_method_7_code 2 = .ok (.aload_n 0, 1) ∧ 2 + 1 = 3 := by decide +kernel
theorem D_P_pours_3 : decode prog_3_method_7_code 3 = .ok (.getfield 26, 3) ∧ 3 + 3 = 6 := by decide +kernel
theorem D_P_pours_6 : decode prog_3_method_7_code 6 = .ok (.iload_n 1, 1) ∧ 6 + 1 = 7 := by decide +kernel
theorem D_P_pours_7 : decode prog_3_method_7_code 7 = .ok (.iaload, 1) ∧ 7 + 1 = 8 := by decide +kernel
theorem D_P_pours_8 : decode prog_3_method_7_code 8 = .ok (.aload_n 0, 1) ∧ 8 + 1 = 9 := by decide +kernel
theorem D_P_pours_9 : decode prog_3_method_7_code 9 = .ok (.getfield 35, 3) ∧ 9 + 3 = 12 := by decide +kernel
theorem D_P_pours_12 : decode prog_3_method_7_code 12 = .ok (.aload_n 0, 1) ∧ 12 + 1 = 13 := by decide +kernel
theorem D_P_pours_13 : decode prog_3_method_7_code 13 = .ok (.getfield 29, 3) ∧ 13 + 3 = 16 := by decide +kernel
theorem D_P_pours_16 : decode prog_3_method_7_code 16 = .ok (.iload_n 1, 1) ∧ 16 + 1 = 17 := by decide +kernel
theorem D_P_pours_17 : decode prog_3_method_7_code 17 = .ok (.iaload, 1) ∧ 17 + 1 = 18 := by decide +kernel
theorem D_P_pours_18 : decode prog_3_method_7_code 18 = .ok (.iaload, 1) ∧ 18 + 1 = 19 := by decide +kernel
theorem D_P_pours_19 : decode prog_3_method_7_code 19 = .ok (.iload_n 2, 1) ∧ 19 + 1 = 20 := by decide +kernel
theorem D_P_pours_20 : decode prog_3_method_7_code 20 = .ok (.aload_n 0, 1) ∧ 20 + 1 = 21 := by decide +kernel
theorem D_P_pours_21 : decode prog_3_method_7_code 21 = .ok (.getfield 26, 3) ∧ 21 + 3 = 24 := by decide +kernel
theorem D_P_pours_24 : decode prog_3_method_7_code 24 = .ok (.iload_n 1, 1) ∧ 24 + 1 = 25 := by decide +kernel
theorem D_P_pours_25 : decode prog_3_method_7_code 25 = .ok (.iaload, 1) ∧ 25 + 1 = 26 := by decide +kernel
theorem D_P_pours_26 : decode prog_3_method_7_code 26 = .ok (.invokevirtual 94, 3) ∧ 26 + 3 = 29 := by decide +kernel
theorem D_P_pours_29 : decode prog_3_method_7_code 29 = .ok (.istore_n 3, 1) ∧ 29 + 1 = 30 := by decide +kernel
theorem D_P_pours_30 : decode prog_3_method_7_code 30 = .ok (.aload_n 0, 1) ∧ 30 + 1 = 31 := by decide +kernel
theorem D_P_pours_31 : decode prog_3_method_7_code 31 = .ok (.getfield 23, 3) ∧ 31 + 3 = 34 := by decide +kernel
theorem D_P_pours_34 : decode prog_3_method_7_code 34 = .ok (.iload_n 1, 1) ∧ 34 + 1 = 35 := by decide +kernel
theorem D_P_pours_35 : decode prog_3_method_7_code 35 = .ok (.iaload, 1) ∧ 35 + 1 = 36 := by decide +kernel
theorem D_P_pours_36 : decode prog_3_method_7_code 36 = .ok (.iconst 0, 1) ∧ 36 + 1 = 37 := by decide +kernel
theorem D_P_pours_37 : decode prog_3_method_7_code 37 = .ok (.sipush 999, 3) ∧ 37 + 3 = 40 := by decide +kernel
theorem D_P_pours_40 : decode prog_3_method_7_code 40 = .ok (.iload_n 3, 1) ∧ 40 + 1 = 41 := by decide +kernel
theorem D_P_pours_41 : decode prog_3_method_7_code 41 = .ok (.invokestatic 98, 3) ∧ 41 + 3 = 44 := by decide +kernel
theorem D_P_pours_44 : decode prog_3_method_7_code 44 = .ok (.invokestatic 104, 3) ∧ 44 + 3 = 47 := by decide +kernel
theorem D_P_pours_47 : decode prog_3_method_7_code 47 = .ok (.iload_n 2, 1) ∧ 47 + 1 = 48 := by decide +kernel
theorem D_P_pours_48 : decode prog_3_method_7_code 48 = .ok (.invokestatic 107, 3) ∧ 48 + 3 = 51 := by decide +kernel
theorem D_P_pours_51 : decode prog_3_method_7_code 51 = .ok (.ireturn, 1) := by decide +kernel
def f_P_pours (N : Nat) (p : Nat) (a1 : Int32) (a2 : Int32) (mem : Mm) : Option (Int32 × Mm) := if inb a1 10 = true then if inb (mem (p + 4) (ix a1)) 6 = true then bd (f_P_lawGives N p 0 (mem (p + 3) (ix a1)) (mem (p + 6) (ix (mem (p + 4) (ix a1)))) a2 (mem (p + 3) (ix a1)) mem) fun r_26 m_26 => bp (f_K_poursOf (m_26 (p + 2) (ix a1)) (if 0 < (if r_26 < 999 then r_26 else 999) then if r_26 < 999 then r_26 else 999 else 0) a2) fun r_48 => some (r_48, m_26) else none else none
theorem c_P_pours (l : Launch) (E : En) (N : Nat) (p : Nat) (hp : isPic p) (a1 : Int32) (a2 : Int32) {mem : Mm} {r : Int32} {m2 : Mm} (h : f_P_pours N p a1 a2 mem = some (r, m2)) : CtI l E 3 y_P_pours prog_3_method_7_code 4 (some .int) [.ref (eb E + p), .int a1, .int a2] SH mem r m2 := by
  refine mk_CtI ⟨by decide, (Nat.le_of_ble_eq_true rfl)⟩ (fun X S hl hR => ?_)
  have S : Std X E prog_3_method_7_code R0 4 3 := S
  show J X E 4 0 [(0, .ref (eb E + p)), (1, .int a1), (2, .int a2)] [] SH mem
  unfold f_P_pours at h
  refine j_aload_n S D_P_pours_0 0 rfl rfl ?_
  refine j_iconst S D_P_pours_1 ci_0 ?_
  refine j_aload_n S D_P_pours_2 0 rfl rfl ?_
  refine j_getR S D_P_pours_3 fl_R0_26 (sh_pic hp) rfl ?_
  refine j_iload_n S D_P_pours_6 1 rfl rfl ?_
  obtain ⟨g_7, h⟩ := gdE h
  refine j_iald S D_P_pours_7 (sh_pic3 hp) g_7 ?_
  refine j_aload_n S D_P_pours_8 0 rfl rfl ?_
  refine j_getR S D_P_pours_9 fl_R0_35 (sh_pic hp) rfl ?_
  refine j_aload_n S D_P_pours_12 0 rfl rfl ?_
  refine j_getR S D_P_pours_13 fl_R0_29 (sh_pic hp) rfl ?_
  refine j_iload_n S D_P_pours_16 1 rfl rfl ?_
  refine j_iald S D_P_pours_17 (sh_pic4 hp) g_7 ?_
  obtain ⟨g_18, h⟩ := gdE h
  refine j_iald S D_P_pours_18 (sh_pic6 hp) g_18 ?_
  refine j_iload_n S D_P_pours_19 2 rfl rfl ?_
  refine j_aload_n S D_P_pours_20 0 rfl rfl ?_
  refine j_getR S D_P_pours_21 fl_R0_26 (sh_pic hp) rfl ?_
  refine j_iload_n S D_P_pours_24 1 rfl rfl ?_
  refine j_iald S D_P_pours_25 (sh_pic3 hp) g_7 ?_
  obtain ⟨r_26, m_26, e_26, h⟩ := bdE h
  refine j_callVI (As := [.int 0, .int (mem (p + 3) (ix a1)), .int (mem (p + 6) (ix (mem (p + 4) (ix a1)))), .int a2, .int (mem (p + 3) (ix a1))]) S D_P_pours_26 mv_R0_94 (c_P_lawGives (cxL X) E N p hp 0 (mem (p + 3) (ix a1)) (mem (p + 6) (ix (mem (p + 4) (ix a1)))) a2 (mem (p + 3) (ix a1)) e_26) (by decide) (sh_pic hp) rfl rfl rfl rfl (Nat.le_of_ble_eq_true rfl) ?_
  refine j_istore_n S D_P_pours_29 (lv := [(3, .int r_26), (0, .ref (eb E + p)), (1, .int a1), (2, .int a2)]) rfl ⟨rfl, (Nat.le_of_ble_eq_true rfl)⟩ ?_
  refine j_aload_n S D_P_pours_30 1 rfl rfl ?_
  refine j_getR S D_P_pours_31 fl_R0_23 (sh_pic hp) rfl ?_
  refine j_iload_n S D_P_pours_34 2 rfl rfl ?_
  refine j_iald S D_P_pours_35 (sh_pic2 hp) g_7 ?_
  refine j_iconst S D_P_pours_36 ci_0 ?_
  refine j_sipush S D_P_pours_37 cs_999 ?_
  refine j_iload_n S D_P_pours_40 0 rfl rfl ?_
  refine j_mmin S D_P_pours_41 (by decide) mm_R0_98 (Nat.le_of_ble_eq_true rfl) ?_
  refine j_mmax S D_P_pours_44 (by decide) mm_R0_104 (Nat.le_of_ble_eq_true rfl) ?_
  refine j_iload_n S D_P_pours_47 3 rfl rfl ?_
  obtain ⟨r_48, e_48, h⟩ := bpE h
  refine j_callSI (As := [.int (m_26 (p + 2) (ix a1)), .int (if 0 < (if r_26 < 999 then r_26 else 999) then if r_26 < 999 then r_26 else 999 else 0), .int a2]) S D_P_pours_48 ms_R0_107 (c_K_poursOf (cxL X) E (m_26 (p + 2) (ix a1)) (if 0 < (if r_26 < 999 then r_26 else 999) then if r_26 < 999 then r_26 else 999 else 0) a2 (mem := m_26) e_48) (by decide) rfl rfl (Nat.le_of_ble_eq_true rfl) ?_
  exact rtM hR h _ _ D_P_pours_51

def y_P_work : MethodName := ⟨"SandPicture$Picture", "work", "(I)V"⟩
theorem D_P_work_0 : decode prog_3_method_10_code 0 = .ok (.aload_n 0, 1) ∧ 0 + 1 = 1 := by decide +kernel
theorem D_P_work_1 : decode prog_3_method_10_code 1 = .ok (.invokevirtual 79, 3) ∧ 1 + 3 = 4 := by decide +kernel
theorem D_P_work_4 : decode prog_3_method_10_code 4 = .ok (.bipush 10, 2) ∧ 4 + 2 = 6 := by decide +kernel
theorem D_P_work_6 : decode prog_3_method_10_code 6 = .ok (.irem, 1) ∧ 6 + 1 = 7 := by decide +kernel
theorem D_P_work_7 : decode prog_3_method_10_code 7 = .ok (.istore_n 2, 1) ∧ 7 + 1 = 8 := by decide +kernel
theorem D_P_work_8 : decode prog_3_method_10_code 8 = .ok (.iload_n 1, 1) ∧ 8 + 1 = 9 := by decide +kernel
theorem D_P_work_9 : decode prog_3_method_10_code 9 = .ok (.aload_n 0, 1) ∧ 9 + 1 = 10 := by decide +kernel
theorem D_P_work_10 : decode prog_3_method_10_code 10 = .ok (.getfield 62, 3) ∧ 10 + 3 = 13 := by decide +kernel
theorem D_P_work_13 : decode prog_3_method_10_code 13 = .ok (.if_icmp .ne 4, 3) ∧ ((13 : Nat) : Int) + 4 = ((17 : Nat) : Int) ∧ 13 + 3 = 16 := by decide +kernel
theorem D_P_work_17 : decode prog_3_method_10_code 17 = .ok (.aload_n 0, 1) ∧ 17 + 1 = 18 := by decide +kernel
theorem D_P_work_18 : decode prog_3_method_10_code 18 = .ok (.getfield 29, 3) ∧ 18 + 3 = 21 := by decide +kernel
theorem D_P_work_21 : decode prog_3_method_10_code 21 = .ok (.iload_n 1, 1) ∧ 21 + 1 = 22 := by decide +kernel
theorem D_P_work_22 : decode prog_3_method_10_code 22 = .ok (.iaload, 1) ∧ 22 + 1 = 23 := by decide +kernel
theorem D_P_work_23 : decode prog_3_method_10_code 23 = .ok (.istore_n 3, 1) ∧ 23 + 1 = 24 := by decide +kernel
theorem D_P_work_24 : decode prog_3_method_10_code 24 = .ok (.iconst 0, 1) ∧ 24 + 1 = 25 := by decide +kernel
theorem D_P_work_25 : decode prog_3_method_10_code 25 = .ok (.aload_n 0, 1) ∧ 25 + 1 = 26 := by decide +kernel
theorem D_P_work_26 : decode prog_3_method_10_code 26 = .ok (.getfield 32, 3) ∧ 26 + 3 = 29 := by decide +kernel
theorem D_P_work_29 : decode prog_3_method_10_code 29 = .ok (.iload_n 3, 1) ∧ 29 + 1 = 30 := by decide +kernel
theorem D_P_work_30 : decode prog_3_method_10_code 30 = .ok (.iaload, 1) ∧ 30 + 1 = 31 := by decide +kernel
theorem D_P_work_31 : decode prog_3_method_10_code 31 = .ok (.aload_n 0, 1) ∧ 31 + 1 = 32 := by decide +kernel
theorem D_P_work_32 : decode prog_3_method_10_code 32 = .ok (.getfield 35, 3) ∧ 32 + 3 = 35 := by decide +kernel
theorem D_P_work_35 : decode prog_3_method_10_code 35 = .ok (.iload_n 3, 1) ∧ 35 + 1 = 36 := by decide +kernel
theorem D_P_work_36 : decode prog_3_method_10_code 36 = .ok (.iaload, 1) ∧ 36 + 1 = 37 := by decide +kernel
theorem D_P_work_37 : decode prog_3_method_10_code 37 = .ok (.isub, 1) ∧ 37 + 1 = 38 := by decide +kernel
theorem D_P_work_38 : decode prog_3_method_10_code 38 = .ok (.invokestatic 104, 3) ∧ 38 + 3 = 41 := by decide +kernel
theorem D_P_work_41 : decode prog_3_method_10_code 41 = .ok (.istore 4, 2) ∧ 41 + 2 = 43 := by decide +kernel
theorem D_P_work_43 : decode prog_3_method_10_code 43 = .ok (.aload_n 0, 1) ∧ 43 + 1 = 44 := by decide +kernel
theorem D_P_work_44 : decode prog_3_method_10_code 44 = .ok (.iload_n 1, 1) ∧ 44 + 1 = 45 := by decide +kernel
theorem D_P_work_45 : decode prog_3_method_10_code 45 = .ok (.iload_n 2, 1) ∧ 45 + 1 = 46 := by decide +kernel
theorem D_P_work_46 : decode prog_3_method_10_code 46 = .ok (.invokevirtual 129, 3) ∧ 46 + 3 = 49 := by decide +kernel
theorem D_P_work_49 : decode prog_3_method_10_code 49 = .ok (.aload_n 0, 1) ∧ 49 + 1 = 50 := by decide +kernel
theorem D_P_work_50 : decode prog_3_method_10_code 50 = .ok (.getfield 44, 3) ∧ 50 + 3 = 53 := by decide +kernel
theorem D_P_work_53 : decode prog_3_method_10_code 53 = .ok (.iload_n 3, 1) ∧ 53 + 1 = 54 := by decide +kernel
theorem D_P_work_54 : decode prog_3_method_10_code 54 = .ok (.iconst 3, 1) ∧ 54 + 1 = 55 := by decide +kernel
theorem D_P_work_55 : decode prog_3_method_10_code 55 = .ok (.irem, 1) ∧ 55 + 1 = 56 := by decide +kernel
theorem D_P_work_56 : decode prog_3_method_10_code 56 = .ok (.iaload, 1) ∧ 56 + 1 = 57 := by decide +kernel
theorem D_P_work_57 : decode prog_3_method_10_code 57 = .ok (.iload 4, 2) ∧ 57 + 2 = 59 := by decide +kernel
theorem D_P_work_59 : decode prog_3_method_10_code 59 = .ok (.invokestatic 98, 3) ∧ 59 + 3 = 62 := by decide +kernel
theorem D_P_work_62 : decode prog_3_method_10_code 62 = .ok (.invokestatic 98, 3) ∧ 62 + 3 = 65 := by decide +kernel
theorem D_P_work_65 : decode prog_3_method_10_code 65 = .ok (.istore 5, 2) ∧ 65 + 2 = 67 := by decide +kernel
theorem D_P_work_67 : decode prog_3_method_10_code 67 = .ok (.iload 5, 2) ∧ 67 + 2 = 69 := by decide +kernel
theorem D_P_work_69 : decode prog_3_method_10_code 69 = .ok (.ifCond .gt 4, 3) ∧ ((69 : Nat) : Int) + 4 = ((73 : Nat) : Int) ∧ 69 + 3 = 72 := by decide +kernel
theorem D_P_work_73 : decode prog_3_method_10_code 73 = .ok (.aload_n 0, 1) ∧ 73 + 1 = 74 := by decide +kernel
theorem D_P_work_74 : decode prog_3_method_10_code 74 = .ok (.getfield 23, 3) ∧ 74 + 3 = 77 := by decide +kernel
theorem D_P_work_77 : decode prog_3_method_10_code 77 = .ok (.iload_n 1, 1) ∧ 77 + 1 = 78 := by decide +kernel
theorem D_P_work_78 : decode prog_3_method_10_code 78 = .ok (.iaload, 1) ∧ 78 + 1 = 79 := by decide +kernel
theorem D_P_work_79 : decode prog_3_method_10_code 79 = .ok (.iload 5, 2) ∧ 79 + 2 = 81 := by decide +kernel
theorem D_P_work_81 : decode prog_3_method_10_code 81 = .ok (.invokestatic 132, 3) ∧ 81 + 3 = 84 := by decide +kernel
theorem D_P_work_84 : decode prog_3_method_10_code 84 = .ok (.istore 6, 2) ∧ 84 + 2 = 86 := by decide +kernel
theorem D_P_work_86 : decode prog_3_method_10_code 86 = .ok (.aload_n 0, 1) ∧ 86 + 1 = 87 := by decide +kernel
theorem D_P_work_87 : decode prog_3_method_10_code 87 = .ok (.getfield 44, 3) ∧ 87 + 3 = 90 := by decide +kernel
theorem D_P_work_90 : decode prog_3_method_10_code 90 = .ok (.iload_n 3, 1) ∧ 90 + 1 = 91 := by decide +kernel
theorem D_P_work_91 : decode prog_3_method_10_code 91 = .ok (.iconst 3, 1) ∧ 91 + 1 = 92 := by decide +kernel
theorem D_P_work_92 : decode prog_3_method_10_code 92 = .ok (.irem, 1) ∧ 92 + 1 = 93 := by decide +kernel
theorem D_P_work_93 : decode prog_3_method_10_code 93 = .ok (.dup2, 1) ∧ 93 + 1 = 94 := by decide +kernel
theorem D_P_work_94 : decode prog_3_method_10_code 94 = .ok (.iaload, 1) ∧ 94 + 1 = 95 := by decide +kernel
theorem D_P_work_95 : decode prog_3_method_10_code 95 = .ok (.iload 5, 2) ∧ 95 + 2 = 97 := by decide +kernel
theorem D_P_work_97 : decode prog_3_method_10_code 97 = .ok (.isub, 1) ∧ 97 + 1 = 98 := by decide +kernel
theorem D_P_work_98 : decode prog_3_method_10_code 98 = .ok (.iastore, 1) ∧ 98 + 1 = 99 := by decide +kernel
theorem D_P_work_99 : decode prog_3_method_10_code 99 = .ok (.aload_n 0, 1) ∧ 99 + 1 = 100 := by decide +kernel
theorem D_P_work_100 : decode prog_3_method_10_code 100 = .ok (.dup, 1) ∧ 100 + 1 = 101 := by decide +kernel
theorem D_P_work_101 : decode prog_3_method_10_code 101 = .ok (.getfield 50, 3) ∧ 101 + 3 = 104 := by decide +kernel
theorem D_P_work_104 : decode prog_3_method_10_code 104 = .ok (.iload 6, 2) ∧ 104 + 2 = 106 := by decide +kernel
theorem D_P_work_106 : decode prog_3_method_10_code 106 = .ok (.iadd, 1) ∧ 106 + 1 = 107 := by decide +kernel
theorem D_P_work_107 : decode prog_3_method_10_code 107 = .ok (.putfield 50, 3) ∧ 107 + 3 = 110 := by decide +kernel
theorem D_P_work_110 : decode prog_3_method_10_code 110 = .ok (.aload_n 0, 1) ∧ 110 + 1 = 111 := by decide +kernel
theorem D_P_work_111 : decode prog_3_method_10_code 111 = .ok (.getfield 35, 3) ∧ 111 + 3 = 114 := by decide +kernel
theorem D_P_work_114 : decode prog_3_method_10_code 114 = .ok (.iload_n 3, 1) ∧ 114 + 1 = 115 := by decide +kernel
theorem D_P_work_115 : decode prog_3_method_10_code 115 = .ok (.dup2, 1) ∧ 115 + 1 = 116 := by decide +kernel
theorem D_P_work_116 : decode prog_3_method_10_code 116 = .ok (.iaload, 1) ∧ 116 + 1 = 117 := by decide +kernel
theorem D_P_work_117 : decode prog_3_method_10_code 117 = .ok (.iload 5, 2) ∧ 117 + 2 = 119 := by decide +kernel
theorem D_P_work_119 : decode prog_3_method_10_code 119 = .ok (.iload 6, 2) ∧ 119 + 2 = 121 := by decide +kernel
theorem D_P_work_121 : decode prog_3_method_10_code 121 = .ok (.isub, 1) ∧ 121 + 1 = 122 := by decide +kernel
theorem D_P_work_122 : decode prog_3_method_10_code 122 = .ok (.iadd, 1) ∧ 122 + 1 = 123 := by decide +kernel
theorem D_P_work_123 : decode prog_3_method_10_code 123 = .ok (.iastore, 1) ∧ 123 + 1 = 124 := by decide +kernel
theorem D_P_work_124 : decode prog_3_method_10_code 124 = .ok (.aload_n 0, 1) ∧ 124 + 1 = 125 := by decide +kernel
theorem D_P_work_125 : decode prog_3_method_10_code 125 = .ok (.getfield 38, 3) ∧ 125 + 3 = 128 := by decide +kernel
theorem D_P_work_128 : decode prog_3_method_10_code 128 = .ok (.iload_n 3, 1) ∧ 128 + 1 = 129 := by decide +kernel
theorem D_P_work_129 : decode prog_3_method_10_code 129 = .ok (.dup2, 1) ∧ 129 + 1 = 130 := by decide +kernel
theorem D_P_work_130 : decode prog_3_method_10_code 130 = .ok (.iaload, 1) ∧ 130 + 1 = 131 := by decide +kernel
theorem D_P_work_131 : decode prog_3_method_10_code 131 = .ok (.aload_n 0, 1) ∧ 131 + 1 = 132 := by decide +kernel
theorem D_P_work_132 : decode prog_3_method_10_code 132 = .ok (.getfield 23, 3) ∧ 132 + 3 = 135 := by decide +kernel
theorem D_P_work_135 : decode prog_3_method_10_code 135 = .ok (.iload_n 1, 1) ∧ 135 + 1 = 136 := by decide +kernel
theorem D_P_work_136 : decode prog_3_method_10_code 136 = .ok (.iaload, 1) ∧ 136 + 1 = 137 := by decide +kernel
theorem D_P_work_137 : decode prog_3_method_10_code 137 = .ok (.iload 5, 2) ∧ 137 + 2 = 139 := by decide +kernel
theorem D_P_work_139 : decode prog_3_method_10_code 139 = .ok (.invokestatic 135, 3) ∧ 139 + 3 = 142 := by decide +kernel
theorem D_P_work_142 : decode prog_3_method_10_code 142 = .ok (.iadd, 1) ∧ 142 + 1 = 143 := by decide +kernel
theorem D_P_work_143 : decode prog_3_method_10_code 143 = .ok (.iastore, 1) ∧ 143 + 1 = 144 := by decide +kernel
theorem D_P_work_144 : decode prog_3_method_10_code 144 = .ok (.return_, 1) := by decide +kernel
theorem D_P_work_72 : decode prog_3_method_10_code 72 = .ok (.return_, 1) := by decide +kernel
theorem D_P_work_16 : decode prog_3_method_10_code 16 = .ok (.return_, 1) := by decide +kernel
def f_P_work (N : Nat) (p : Nat) (a1 : Int32) (mem : Mm) : Option (Mm) := bd (f_P_draw p mem) fun r_1 m_1 => lt (r_1 - r_1 / 10 * 10) fun x_7 => if a1 = m_1 p 18 then some m_1 else if inb a1 10 = true then lt (m_1 (p + 4) (ix a1)) fun x_23 => if inb x_23 6 = true then lt (if 0 < ((m_1 (p + 5) (ix x_23)) - (m_1 (p + 6) (ix x_23))) then (m_1 (p + 5) (ix x_23)) - (m_1 (p + 6) (ix x_23)) else 0) fun x_41 => bd (f_P_pours N p a1 x_7 m_1) fun r_46 m_46 => if inb (x_23 - x_23 / 3 * 3) 3 = true then lt (if (if x_41 < (m_46 (p + 9) (ix (x_23 - x_23 / 3 * 3))) then x_41 else m_46 (p + 9) (ix (x_23 - x_23 / 3 * 3))) < r_46 then if x_41 < (m_46 (p + 9) (ix (x_23 - x_23 / 3 * 3))) then x_41 else m_46 (p + 9) (ix (x_23 - x_23 / 3 * 3)) else r_46) fun x_65 => if 0 < x_65 then bp (f_K_spills (m_46 (p + 2) (ix a1)) x_65) fun r_81 => lt (mst m_46 (p + 9) (ix (x_23 - x_23 / 3 * 3)) ((m_46 (p + 9) (ix (x_23 - x_23 / 3 * 3))) - x_65)) fun m_98 => lt (mst m_98 p 14 ((m_98 p 14) + r_81)) fun m_107 => lt (mst m_107 (p + 6) (ix x_23) ((m_107 (p + 6) (ix x_23)) + (x_65 - r_81))) fun m_123 => bp (f_K_adds (m_123 (p + 2) (ix a1)) x_65) fun r_139 => lt (mst m_123 (p + 7) (ix x_23) ((m_123 (p + 7) (ix x_23)) + r_139)) fun m_143 => some m_143 else some m_46 else none else none else none
theorem c_P_work (l : Launch) (E : En) (N : Nat) (p : Nat) (hp : isPic p) (a1 : Int32) {mem : Mm} {m2 : Mm} (h : f_P_work N p a1 mem = some m2) : CtV l E 4 y_P_work prog_3_method_10_code 7 [.ref (eb E + p), .int a1] SH mem m2 := by
  refine mk_CtV ⟨by decide, (Nat.le_of_ble_eq_true rfl)⟩ (fun X S hl hR => ?_)
  have S : Std X E prog_3_method_10_code R0 7 4 := S
  show J X E 7 0 [(0, .ref (eb E + p)), (1, .int a1)] [] SH mem
  unfold f_P_work at h
  refine j_aload_n S D_P_work_0 0 rfl rfl ?_
  obtain ⟨r_1, m_1, e_1, h⟩ := bdE h
  refine j_callVI (As := []) S D_P_work_1 mv_R0_79 (c_P_draw (cxL X) E p hp e_1) (by decide) (sh_pic hp) rfl rfl rfl rfl (Nat.le_of_ble_eq_true rfl) ?_
  refine j_bipush S D_P_work_4 cb_10 ?_
  refine j_irem S D_P_work_6 nz_10 ?_
  obtain ⟨x_7, hx_7, h⟩ := ltE h
  refine j_nm hx_7 ?_
  refine j_istore_n S D_P_work_7 (lv := [(2, .int x_7), (0, .ref (eb E + p)), (1, .int a1)]) rfl ⟨rfl, (Nat.le_of_ble_eq_true rfl)⟩ ?_
  refine j_iload_n S D_P_work_8 2 rfl rfl ?_
  refine j_aload_n S D_P_work_9 1 rfl rfl ?_
  refine j_getI S D_P_work_10 fl_R0_62 (sh_pic hp) rfl ?_
  refine j_icmp_ne S D_P_work_13 (fun c_13 => ?_) (fun c_13 => ?_)
  · have h := ifF c_13 h
    refine j_aload_n S D_P_work_17 1 rfl rfl ?_
    refine j_getR S D_P_work_18 fl_R0_29 (sh_pic hp) rfl ?_
    refine j_iload_n S D_P_work_21 2 rfl rfl ?_
    obtain ⟨g_22, h⟩ := gdE h
    refine j_iald S D_P_work_22 (sh_pic4 hp) g_22 ?_
    obtain ⟨x_23, hx_23, h⟩ := ltE h
    refine j_nm hx_23 ?_
    refine j_istore_n S D_P_work_23 (lv := [(3, .int x_23), (2, .int x_7), (0, .ref (eb E + p)), (1, .int a1)]) rfl ⟨rfl, (Nat.le_of_ble_eq_true rfl)⟩ ?_
    refine j_iconst S D_P_work_24 ci_0 ?_
    refine j_aload_n S D_P_work_25 2 rfl rfl ?_
    refine j_getR S D_P_work_26 fl_R0_32 (sh_pic hp) rfl ?_
    refine j_iload_n S D_P_work_29 0 rfl rfl ?_
    obtain ⟨g_30, h⟩ := gdE h
    refine j_iald S D_P_work_30 (sh_pic5 hp) g_30 ?_
    refine j_aload_n S D_P_work_31 2 rfl rfl ?_
    refine j_getR S D_P_work_32 fl_R0_35 (sh_pic hp) rfl ?_
    refine j_iload_n S D_P_work_35 0 rfl rfl ?_
    refine j_iald S D_P_work_36 (sh_pic6 hp) g_30 ?_
    refine j_isub S D_P_work_37 ?_
    refine j_mmax S D_P_work_38 (by decide) mm_R0_104 (Nat.le_of_ble_eq_true rfl) ?_
    obtain ⟨x_41, hx_41, h⟩ := ltE h
    refine j_nm hx_41 ?_
    refine j_istore S D_P_work_41 (lv := [(4, .int x_41), (3, .int x_23), (2, .int x_7), (0, .ref (eb E + p)), (1, .int a1)]) rfl (Nat.le_of_ble_eq_true rfl) ?_
    refine j_aload_n S D_P_work_43 3 rfl rfl ?_
    refine j_iload_n S D_P_work_44 4 rfl rfl ?_
    refine j_iload_n S D_P_work_45 2 rfl rfl ?_
    obtain ⟨r_46, m_46, e_46, h⟩ := bdE h
    refine j_callVI (As := [.int a1, .int x_7]) S D_P_work_46 mv_R0_129 (c_P_pours (cxL X) E N p hp a1 x_7 e_46) (by decide) (sh_pic hp) rfl rfl rfl rfl (Nat.le_of_ble_eq_true rfl) ?_
    refine j_aload_n S D_P_work_49 3 rfl rfl ?_
    refine j_getR S D_P_work_50 fl_R0_44 (sh_pic hp) rfl ?_
    refine j_iload_n S D_P_work_53 1 rfl rfl ?_
    refine j_iconst S D_P_work_54 ci_3 ?_
    refine j_irem S D_P_work_55 nz_3 ?_
    obtain ⟨g_56, h⟩ := gdE h
    refine j_iald S D_P_work_56 (sh_pic9 hp) g_56 ?_
    refine j_iload S D_P_work_57 0 rfl ?_
    refine j_mmin S D_P_work_59 (by decide) mm_R0_98 (Nat.le_of_ble_eq_true rfl) ?_
    refine j_mmin S D_P_work_62 (by decide) mm_R0_98 (Nat.le_of_ble_eq_true rfl) ?_
    obtain ⟨x_65, hx_65, h⟩ := ltE h
    refine j_nm hx_65 ?_
    refine j_istore S D_P_work_65 (lv := [(5, .int x_65), (4, .int x_41), (3, .int x_23), (2, .int x_7), (0, .ref (eb E + p)), (1, .int a1)]) rfl (Nat.le_of_ble_eq_true rfl) ?_
    refine j_iload S D_P_work_67 0 rfl ?_
    refine j_if_gt S D_P_work_69 (fun c_69 => ?_) (fun c_69 => ?_)
    · have h := ifT c_69 h
      refine j_aload_n S D_P_work_73 4 rfl rfl ?_
      refine j_getR S D_P_work_74 fl_R0_23 (sh_pic hp) rfl ?_
      refine j_iload_n S D_P_work_77 5 rfl rfl ?_
      refine j_iald S D_P_work_78 (sh_pic2 hp) g_22 ?_
      refine j_iload S D_P_work_79 0 rfl ?_
      obtain ⟨r_81, e_81, h⟩ := bpE h
      refine j_callSI (As := [.int (m_46 (p + 2) (ix a1)), .int x_65]) S D_P_work_81 ms_R0_132 (c_K_spills (cxL X) E (m_46 (p + 2) (ix a1)) x_65 (mem := m_46) e_81) (by decide) rfl rfl (Nat.le_of_ble_eq_true rfl) ?_
      refine j_istore S D_P_work_84 (lv := [(6, .int r_81), (5, .int x_65), (4, .int x_41), (3, .int x_23), (2, .int x_7), (0, .ref (eb E + p)), (1, .int a1)]) rfl (Nat.le_of_ble_eq_true rfl) ?_
      refine j_aload_n S D_P_work_86 5 rfl rfl ?_
      refine j_getR S D_P_work_87 fl_R0_44 (sh_pic hp) rfl ?_
      refine j_iload_n S D_P_work_90 3 rfl rfl ?_
      refine j_iconst S D_P_work_91 ci_3 ?_
      refine j_irem S D_P_work_92 nz_3 ?_
      refine j_dup2 S D_P_work_93 ⟨rfl, rfl⟩ ?_
      refine j_iald S D_P_work_94 (sh_pic9 hp) g_56 ?_
      refine j_iload S D_P_work_95 1 rfl ?_
      refine j_isub S D_P_work_97 ?_
      obtain ⟨m_98, hm_98, h⟩ := ltE h
      refine j_iast S D_P_work_98 (sh_pic9 hp) g_56 ?_
      refine j_mem hm_98 ?_
      refine j_aload_n S D_P_work_99 5 rfl rfl ?_
      refine j_dup S D_P_work_100 rfl ?_
      refine j_getI S D_P_work_101 fl_R0_50 (sh_pic hp) rfl ?_
      refine j_iload S D_P_work_104 0 rfl ?_
      refine j_iadd S D_P_work_106 ?_
      obtain ⟨m_107, hm_107, h⟩ := ltE h
      refine j_putI S D_P_work_107 fp_R0_50 (sh_pic hp) rfl ?_
      refine j_mem hm_107 ?_
      refine j_aload_n S D_P_work_110 5 rfl rfl ?_
      refine j_getR S D_P_work_111 fl_R0_35 (sh_pic hp) rfl ?_
      refine j_iload_n S D_P_work_114 3 rfl rfl ?_
      refine j_dup2 S D_P_work_115 ⟨rfl, rfl⟩ ?_
      refine j_iald S D_P_work_116 (sh_pic6 hp) g_30 ?_
      refine j_iload S D_P_work_117 1 rfl ?_
      refine j_iload S D_P_work_119 0 rfl ?_
      refine j_isub S D_P_work_121 ?_
      refine j_iadd S D_P_work_122 ?_
      obtain ⟨m_123, hm_123, h⟩ := ltE h
      refine j_iast S D_P_work_123 (sh_pic6 hp) g_30 ?_
      refine j_mem hm_123 ?_
      refine j_aload_n S D_P_work_124 5 rfl rfl ?_
      refine j_getR S D_P_work_125 fl_R0_38 (sh_pic hp) rfl ?_
      refine j_iload_n S D_P_work_128 3 rfl rfl ?_
      refine j_dup2 S D_P_work_129 ⟨rfl, rfl⟩ ?_
      refine j_iald S D_P_work_130 (sh_pic7 hp) g_30 ?_
      refine j_aload_n S D_P_work_131 5 rfl rfl ?_
      refine j_getR S D_P_work_132 fl_R0_23 (sh_pic hp) rfl ?_
      refine j_iload_n S D_P_work_135 6 rfl rfl ?_
      refine j_iald S D_P_work_136 (sh_pic2 hp) g_22 ?_
      refine j_iload S D_P_work_137 1 rfl ?_
      obtain ⟨r_139, e_139, h⟩ := bpE h
      refine j_callSI (As := [.int (m_123 (p + 2) (ix a1)), .int x_65]) S D_P_work_139 ms_R0_135 (c_K_adds (cxL X) E (m_123 (p + 2) (ix a1)) x_65 (mem := m_123) e_139) (by decide) rfl rfl (Nat.le_of_ble_eq_true rfl) ?_
      refine j_iadd S D_P_work_142 ?_
      obtain ⟨m_143, hm_143, h⟩ := ltE h
      refine j_iast S D_P_work_143 (sh_pic7 hp) g_30 ?_
      refine j_mem hm_143 ?_
      exact rtV hR h _ _ D_P_work_144
    · have h := ifF c_69 h
      exact rtV hR h _ _ D_P_work_72
  · have h := ifT c_13 h
    exact rtV hR h _ _ D_P_work_16

def y_P_blowFrom : MethodName := ⟨"SandPicture$Picture", "blowFrom", "(I)V"⟩
theorem D_P_blowFrom_0 : decode prog_3_method_11_code 0 = .ok (.iload_n 1, 1) ∧ 0 + 1 = 1 := by decide +kernel
theorem D_P_blowFrom_1 : decode prog_3_method_11_code 1 = .ok (.iconst 1, 1) ∧ 1 + 1 = 2 := by decide +kernel
theorem D_P_blowFrom_2 : decode prog_3_method_11_code 2 = .ok (.iadd, 1) ∧ 2 + 1 = 3 := by decide +kernel
theorem D_P_blowFrom_3 : decode prog_3_method_11_code 3 = .ok (.bipush 6, 2) ∧ 3 + 2 = 5 := by decide +kernel
theorem D_P_blowFrom_5 : decode prog_3_method_11_code 5 = .ok (.irem, 1) ∧ 5 + 1 = 6 := by decide +kernel
theorem D_P_blowFrom_6 : decode prog_3_method_11_code 6 = .ok (.istore_n 2, 1) ∧ 6 + 1 = 7 := by decide +kernel
theorem D_P_blowFrom_7 : decode prog_3_method_11_code 7 = .ok (.aload_n 0, 1) ∧ 7 + 1 = 8 := by decide +kernel
theorem D_P_blowFrom_8 : decode prog_3_method_11_code 8 = .ok (.getfield 35, 3) ∧ 8 + 3 = 11 := by decide +kernel
theorem D_P_blowFrom_11 : decode prog_3_method_11_code 11 = .ok (.iload_n 1, 1) ∧ 11 + 1 = 12 := by decide +kernel
theorem D_P_blowFrom_12 : decode prog_3_method_11_code 12 = .ok (.iaload, 1) ∧ 12 + 1 = 13 := by decide +kernel
theorem D_P_blowFrom_13 : decode prog_3_method_11_code 13 = .ok (.bipush 10, 2) ∧ 13 + 2 = 15 := by decide +kernel
theorem D_P_blowFrom_15 : decode prog_3_method_11_code 15 = .ok (.idiv, 1) ∧ 15 + 1 = 16 := by decide +kernel
theorem D_P_blowFrom_16 : decode prog_3_method_11_code 16 = .ok (.istore_n 3, 1) ∧ 16 + 1 = 17 := by decide +kernel
theorem D_P_blowFrom_17 : decode prog_3_method_11_code 17 = .ok (.aload_n 0, 1) ∧ 17 + 1 = 18 := by decide +kernel
theorem D_P_blowFrom_18 : decode prog_3_method_11_code 18 = .ok (.getfield 35, 3) ∧ 18 + 3 = 21 := by decide +kernel
theorem D_P_blowFrom_21 : decode prog_3_method_11_code 21 = .ok (.iload_n 1, 1) ∧ 21 + 1 = 22 := by decide +kernel
theorem D_P_blowFrom_22 : decode prog_3_method_11_code 22 = .ok (.dup2, 1) ∧ 22 + 1 = 23 := by decide +kernel
theorem D_P_blowFrom_23 : decode prog_3_method_11_code 23 = .ok (.iaload, 1) ∧ 23 + 1 = 24 := by decide +kernel
theorem D_P_blowFrom_24 : decode prog_3_method_11_code 24 = .ok (.iload_n 3, 1) ∧ 24 + 1 = 25 := by decide +kernel
theorem D_P_blowFrom_25 : decode prog_3_method_11_code 25 = .ok (.isub, 1) ∧ 25 + 1 = 26 := by decide +kernel
theorem D_P_blowFrom_26 : decode prog_3_method_11_code 26 = .ok (.iastore, 1) ∧ 26 + 1 = 27 := by decide +kernel
theorem D_P_blowFrom_27 : decode prog_3_method_11_code 27 = .ok (.aload_n 0, 1) ∧ 27 + 1 = 28 := by decide +kernel
theorem D_P_blowFrom_28 : decode prog_3_method_11_code 28 = .ok (.getfield 35, 3) ∧ 28 + 3 = 31 := by decide +kernel
theorem D_P_blowFrom_31 : decode prog_3_method_11_code 31 = .ok (.iload_n 2, 1) ∧ 31 + 1 = 32 := by decide +kernel
theorem D_P_blowFrom_32 : decode prog_3_method_11_code 32 = .ok (.dup2, 1) ∧ 32 + 1 = 33 := by decide +kernel
theorem D_P_blowFrom_33 : decode prog_3_method_11_code 33 = .ok (.iaload, 1) ∧ 33 + 1 = 34 := by decide +kernel
theorem D_P_blowFrom_34 : decode prog_3_method_11_code 34 = .ok (.iload_n 3, 1) ∧ 34 + 1 = 35 := by decide +kernel
theorem D_P_blowFrom_35 : decode prog_3_method_11_code 35 = .ok (.iadd, 1) ∧ 35 + 1 = 36 := by decide +kernel
theorem D_P_blowFrom_36 : decode prog_3_method_11_code 36 = .ok (.iastore, 1) ∧ 36 + 1 = 37 := by decide +kernel
theorem D_P_blowFrom_37 : decode prog_3_method_11_code 37 = .ok (.aload_n 0, 1) ∧ 37 + 1 = 38 := by decide +kernel
theorem D_P_blowFrom_38 : decode prog_3_method_11_code 38 = .ok (.getfield 38, 3) ∧ 38 + 3 = 41 := by decide +kernel
theorem D_P_blowFrom_41 : decode prog_3_method_11_code 41 = .ok (.iload_n 2, 1) ∧ 41 + 1 = 42 := by decide +kernel
theorem D_P_blowFrom_42 : decode prog_3_method_11_code 42 = .ok (.dup2, 1) ∧ 42 + 1 = 43 := by decide +kernel
theorem D_P_blowFrom_43 : decode prog_3_method_11_code 43 = .ok (.iaload, 1) ∧ 43 + 1 = 44 := by decide +kernel
theorem D_P_blowFrom_44 : decode prog_3_method_11_code 44 = .ok (.iload_n 3, 1) ∧ 44 + 1 = 45 := by decide +kernel
theorem D_P_blowFrom_52 : decode prog_3_method_11_code 52 = .ok (.iconst 0, 1) ∧ 52 + 1 = 53 := by decide +kernel
theorem D_P_blowFrom_48 : decode prog_3_method_11_code 48 = .ok (.iconst 1, 1) ∧ 48 + 1 = 49 := by decide +kernel
theorem D_P_blowFrom_49 : decode prog_3_method_11_code 49 = .ok (.goto 4, 3) ∧ ((49 : Nat) : Int) + 4 = ((53 : Nat) : Int) := by decide +kernel
theorem D_P_blowFrom_45 : decode prog_3_method_11_code 45 = .ok (.ifCond .le 7, 3) ∧ ((45 : Nat) : Int) + 7 = ((52 : Nat) : Int) ∧ 45 + 3 = 48 := by decide +kernel
theorem D_P_blowFrom_53 : decode prog_3_method_11_code 53 = .ok (.iadd, 1) ∧ 53 + 1 = 54 := by decide +kernel
theorem D_P_blowFrom_54 : decode prog_3_method_11_code 54 = .ok (.iastore, 1) ∧ 54 + 1 = 55 := by decide +kernel
theorem D_P_blowFrom_55 : decode prog_3_method_11_code 55 = .ok (.return_, 1) := by decide +kernel
def f_P_blowFrom (p : Nat) (a1 : Int32) (mem : Mm) : Option (Mm) := lt ((a1 + 1) - (a1 + 1) / 6 * 6) fun x_6 => if inb a1 6 = true then lt ((mem (p + 6) (ix a1)) / 10) fun x_16 => lt (mst mem (p + 6) (ix a1) ((mem (p + 6) (ix a1)) - x_16)) fun m_26 => if inb x_6 6 = true then lt (mst m_26 (p + 6) (ix x_6) ((m_26 (p + 6) (ix x_6)) + x_16)) fun m_36 => lt (mst m_36 (p + 7) (ix x_6) ((m_36 (p + 7) (ix x_6)) + (if x_16 ≤ 0 then (0 : Int32) else 1))) fun m_54 => some m_54 else none else none
theorem c_P_blowFrom (l : Launch) (E : En) (p : Nat) (hp : isPic p) (a1 : Int32) {mem : Mm} {m2 : Mm} (h : f_P_blowFrom p a1 mem = some m2) : CtV l E 0 y_P_blowFrom prog_3_method_11_code 4 [.ref (eb E + p), .int a1] SH mem m2 := by
  refine mk_CtV ⟨by decide, (Nat.le_of_ble_eq_true rfl)⟩ (fun X S hl hR => ?_)
  have S : Std X E prog_3_method_11_code R0 4 0 := S
  show J X E 4 0 [(0, .ref (eb E + p)), (1, .int a1)] [] SH mem
  unfold f_P_blowFrom at h
  refine j_iload_n S D_P_blowFrom_0 1 rfl rfl ?_
  refine j_iconst S D_P_blowFrom_1 ci_1 ?_
  refine j_iadd S D_P_blowFrom_2 ?_
  refine j_bipush S D_P_blowFrom_3 cb_6 ?_
  refine j_irem S D_P_blowFrom_5 nz_6 ?_
  obtain ⟨x_6, hx_6, h⟩ := ltE h
  refine j_nm hx_6 ?_
  refine j_istore_n S D_P_blowFrom_6 (lv := [(2, .int x_6), (0, .ref (eb E + p)), (1, .int a1)]) rfl ⟨rfl, (Nat.le_of_ble_eq_true rfl)⟩ ?_
  refine j_aload_n S D_P_blowFrom_7 1 rfl rfl ?_
  refine j_getR S D_P_blowFrom_8 fl_R0_35 (sh_pic hp) rfl ?_
  refine j_iload_n S D_P_blowFrom_11 2 rfl rfl ?_
  obtain ⟨g_12, h⟩ := gdE h
  refine j_iald S D_P_blowFrom_12 (sh_pic6 hp) g_12 ?_
  refine j_bipush S D_P_blowFrom_13 cb_10 ?_
  refine j_idiv S D_P_blowFrom_15 nz_10 ?_
  obtain ⟨x_16, hx_16, h⟩ := ltE h
  refine j_nm hx_16 ?_
  refine j_istore_n S D_P_blowFrom_16 (lv := [(3, .int x_16), (2, .int x_6), (0, .ref (eb E + p)), (1, .int a1)]) rfl ⟨rfl, (Nat.le_of_ble_eq_true rfl)⟩ ?_
  refine j_aload_n S D_P_blowFrom_17 2 rfl rfl ?_
  refine j_getR S D_P_blowFrom_18 fl_R0_35 (sh_pic hp) rfl ?_
  refine j_iload_n S D_P_blowFrom_21 3 rfl rfl ?_
  refine j_dup2 S D_P_blowFrom_22 ⟨rfl, rfl⟩ ?_
  refine j_iald S D_P_blowFrom_23 (sh_pic6 hp) g_12 ?_
  refine j_iload_n S D_P_blowFrom_24 0 rfl rfl ?_
  refine j_isub S D_P_blowFrom_25 ?_
  obtain ⟨m_26, hm_26, h⟩ := ltE h
  refine j_iast S D_P_blowFrom_26 (sh_pic6 hp) g_12 ?_
  refine j_mem hm_26 ?_
  refine j_aload_n S D_P_blowFrom_27 2 rfl rfl ?_
  refine j_getR S D_P_blowFrom_28 fl_R0_35 (sh_pic hp) rfl ?_
  refine j_iload_n S D_P_blowFrom_31 1 rfl rfl ?_
  refine j_dup2 S D_P_blowFrom_32 ⟨rfl, rfl⟩ ?_
  obtain ⟨g_33, h⟩ := gdE h
  refine j_iald S D_P_blowFrom_33 (sh_pic6 hp) g_33 ?_
  refine j_iload_n S D_P_blowFrom_34 0 rfl rfl ?_
  refine j_iadd S D_P_blowFrom_35 ?_
  obtain ⟨m_36, hm_36, h⟩ := ltE h
  refine j_iast S D_P_blowFrom_36 (sh_pic6 hp) g_33 ?_
  refine j_mem hm_36 ?_
  refine j_aload_n S D_P_blowFrom_37 2 rfl rfl ?_
  refine j_getR S D_P_blowFrom_38 fl_R0_38 (sh_pic hp) rfl ?_
  refine j_iload_n S D_P_blowFrom_41 1 rfl rfl ?_
  refine j_dup2 S D_P_blowFrom_42 ⟨rfl, rfl⟩ ?_
  refine j_iald S D_P_blowFrom_43 (sh_pic7 hp) g_33 ?_
  refine j_iload_n S D_P_blowFrom_44 0 rfl rfl ?_
  refine j_dia (P := J X E 4 53 [(3, .int x_16), (2, .int x_6), (0, .ref (eb E + p)), (1, .int a1)] [.int (if x_16 ≤ 0 then (0 : Int32) else 1), .int (m_36 (p + 7) (ix x_6)), .int x_6, .ref (eb E + (p + 7))] SH m_36) (fun hj => ?_) ?_
  · refine j_if_le S D_P_blowFrom_45 (fun c_45 => ?_) (fun c_45 => ?_)
    · refine j_iconst S D_P_blowFrom_52 ci_0 ?_
      exact j_jnT hj c_45
    · refine j_iconst S D_P_blowFrom_48 ci_1 ?_
      refine j_goto S D_P_blowFrom_49 ?_
      exact j_jnF hj c_45
  refine j_iadd S D_P_blowFrom_53 ?_
  obtain ⟨m_54, hm_54, h⟩ := ltE h
  refine j_iast S D_P_blowFrom_54 (sh_pic7 hp) g_33 ?_
  refine j_mem hm_54 ?_
  exact rtV hR h _ _ D_P_blowFrom_55

def y_P_allAreDone : MethodName := ⟨"SandPicture$Picture", "allAreDone", "()Z"⟩
theorem D_P_allAreDone_0 : decode prog_3_method_12_code 0 = .ok (.iconst 0, 1) ∧ 0 + 1 = 1 := by decide +kernel
theorem D_P_allAreDone_1 : decode prog_3_method_12_code 1 = .ok (.istore_n 1, 1) ∧ 1 + 1 = 2 := by decide +kernel
theorem D_P_allAreDone_2 : decode prog_3_method_12_code 2 = .ok (.iload_n 1, 1) ∧ 2 + 1 = 3 := by decide +kernel
theorem D_P_allAreDone_3 : decode prog_3_method_12_code 3 = .ok (.bipush 6, 2) ∧ 3 + 2 = 5 := by decide +kernel
theorem D_P_allAreDone_5 : decode prog_3_method_12_code 5 = .ok (.if_icmp .ge 26, 3) ∧ ((5 : Nat) : Int) + 26 = ((31 : Nat) : Int) ∧ 5 + 3 = 8 := by decide +kernel
theorem D_P_allAreDone_31 : decode prog_3_method_12_code 31 = .ok (.iconst 1, 1) ∧ 31 + 1 = 32 := by decide +kernel
theorem D_P_allAreDone_32 : decode prog_3_method_12_code 32 = .ok (.ireturn, 1) := by decide +kernel
theorem D_P_allAreDone_8 : decode prog_3_method_12_code 8 = .ok (.aload_n 0, 1) ∧ 8 + 1 = 9 := by decide +kernel
theorem D_P_allAreDone_9 : decode prog_3_method_12_code 9 = .ok (.getfield 35, 3) ∧ 9 + 3 = 12 := by decide +kernel
theorem D_P_allAreDone_12 : decode prog_3_method_12_code 12 = .ok (.iload_n 1, 1) ∧ 12 + 1 = 13 := by decide +kernel
theorem D_P_allAreDone_13 : decode prog_3_method_12_code 13 = .ok (.iaload, 1) ∧ 13 + 1 = 14 := by decide +kernel
theorem D_P_allAreDone_14 : decode prog_3_method_12_code 14 = .ok (.aload_n 0, 1) ∧ 14 + 1 = 15 := by decide +kernel
theorem D_P_allAreDone_15 : decode prog_3_method_12_code 15 = .ok (.getfield 32, 3) ∧ 15 + 3 = 18 := by decide +kernel
theorem D_P_allAreDone_18 : decode prog_3_method_12_code 18 = .ok (.iload_n 1, 1) ∧ 18 + 1 = 19 := by decide +kernel
theorem D_P_allAreDone_19 : decode prog_3_method_12_code 19 = .ok (.iaload, 1) ∧ 19 + 1 = 20 := by decide +kernel
theorem D_P_allAreDone_20 : decode prog_3_method_12_code 20 = .ok (.if_icmp .ge 5, 3) ∧ ((20 : Nat) : Int) + 5 = ((25 : Nat) : Int) ∧ 20 + 3 = 23 := by decide +kernel
theorem D_P_allAreDone_25 : decode prog_3_method_12_code 25 = .ok (.iinc 1 1, 3) ∧ 25 + 3 = 28 := by decide +kernel
theorem D_P_allAreDone_28 : decode prog_3_method_12_code 28 = .ok (.goto (-26), 3) ∧ ((28 : Nat) : Int) + (-26) = ((2 : Nat) : Int) := by decide +kernel
theorem D_P_allAreDone_23 : decode prog_3_method_12_code 23 = .ok (.iconst 0, 1) ∧ 23 + 1 = 24 := by decide +kernel
theorem D_P_allAreDone_24 : decode prog_3_method_12_code 24 = .ok (.ireturn, 1) := by decide +kernel
def f_P_allAreDone_L2 (p : Nat) : Nat → Int32 → Mm → Option Int32
  | 0, _, _ => none
  | n + 1, b1, mem => if 6 ≤ b1 then some 1 else if inb b1 6 = true then if mem (p + 5) (ix b1) ≤ mem (p + 6) (ix b1) then f_P_allAreDone_L2 p n (b1 + 1) mem else some 0 else none
def f_P_allAreDone (N : Nat) (p : Nat) (mem : Mm) : Option (Int32) := f_P_allAreDone_L2 p N 0 mem
theorem L_P_allAreDone_2 {X : Cx} {E : En} (S : Std X E prog_3_method_12_code R0 2 0) (p : Nat) (hp : isPic p) {r : Int32} {mem : Mm} (hR : isb r = true → RetI X E prog_3_method_12_code 2 SH r mem) : ∀ (n : Nat) (b1 : Int32), f_P_allAreDone_L2 p n b1 mem = some r → J X E 2 2 [(0, .ref (eb E + p)), (1, .int b1)] [] SH mem := by
  intro n
  induction n with
  | zero =>
    intro b1 h; cases h
  | succ n ih =>
    intro b1 h
    rw [f_P_allAreDone_L2] at h
    refine j_iload_n S D_P_allAreDone_2 1 rfl rfl ?_
    refine j_bipush S D_P_allAreDone_3 cb_6 ?_
    refine j_icmp_ge S D_P_allAreDone_5 (fun c_5 => ?_) (fun c_5 => ?_)
    · have h := ifT c_5 h
      refine j_iconst S D_P_allAreDone_31 ci_1 ?_
      exact rtIZ hR h isb1 _ _ D_P_allAreDone_32
    · have h := ifF c_5 h
      refine j_aload_n S D_P_allAreDone_8 0 rfl rfl ?_
      refine j_getR S D_P_allAreDone_9 fl_R0_35 (sh_pic hp) rfl ?_
      refine j_iload_n S D_P_allAreDone_12 1 rfl rfl ?_
      obtain ⟨g_13, h⟩ := gdE h
      refine j_iald S D_P_allAreDone_13 (sh_pic6 hp) g_13 ?_
      refine j_aload_n S D_P_allAreDone_14 0 rfl rfl ?_
      refine j_getR S D_P_allAreDone_15 fl_R0_32 (sh_pic hp) rfl ?_
      refine j_iload_n S D_P_allAreDone_18 1 rfl rfl ?_
      refine j_iald S D_P_allAreDone_19 (sh_pic5 hp) g_13 ?_
      refine j_icmp_ge S D_P_allAreDone_20 (fun c_20 => ?_) (fun c_20 => ?_)
      · have h := ifT c_20 h
        refine j_iinc S D_P_allAreDone_25 1 rfl (congrArg (fun z => b1 + z) ci_1) (lv := [(1, .int (b1 + 1)), (0, .ref (eb E + p))]) rfl (Nat.le_of_ble_eq_true rfl) ?_
        refine j_goto S D_P_allAreDone_28 ?_
        refine j_locals [1, 0] rfl (ih (b1 + 1) h)
      · have h := ifF c_20 h
        refine j_iconst S D_P_allAreDone_23 ci_0 ?_
        exact rtIZ hR h isb0 _ _ D_P_allAreDone_24
theorem c_P_allAreDone (l : Launch) (E : En) (N : Nat) (p : Nat) (hp : isPic p) {mem : Mm} {r : Int32} (h : f_P_allAreDone N p mem = some r) : CtI l E 0 y_P_allAreDone prog_3_method_12_code 2 (some .boolean) [.ref (eb E + p)] SH mem r mem := by
  refine mk_CtZ ⟨by decide, (Nat.le_of_ble_eq_true rfl)⟩ (fun X S hl hR => ?_)
  have S : Std X E prog_3_method_12_code R0 2 0 := S
  show J X E 2 0 [(0, .ref (eb E + p))] [] SH mem
  unfold f_P_allAreDone at h
  refine j_iconst S D_P_allAreDone_0 ci_0 ?_
  refine j_istore_n S D_P_allAreDone_1 (lv := [(1, .int 0), (0, .ref (eb E + p))]) rfl ⟨rfl, (Nat.le_of_ble_eq_true rfl)⟩ ?_
  refine j_locals [1, 0] rfl ?_
  exact L_P_allAreDone_2 S p hp hR N 0 h

def y_P_wipe : MethodName := ⟨"SandPicture$Picture", "wipe", "(I)V"⟩
theorem D_P_wipe_0 : decode prog_3_method_13_code 0 = .ok (.aload_n 0, 1) ∧ 0 + 1 = 1 := by decide +kernel
theorem D_P_wipe_1 : decode prog_3_method_13_code 1 = .ok (.iconst 1, 1) ∧ 1 + 1 = 2 := by decide +kernel
theorem D_P_wipe_2 : decode prog_3_method_13_code 2 = .ok (.aload_n 0, 1) ∧ 2 + 1 = 3 := by decide +kernel
theorem D_P_wipe_3 : decode prog_3_method_13_code 3 = .ok (.getfield 35, 3) ∧ 3 + 3 = 6 := by decide +kernel
theorem D_P_wipe_6 : decode prog_3_method_13_code 6 = .ok (.iload_n 1, 1) ∧ 6 + 1 = 7 := by decide +kernel
theorem D_P_wipe_7 : decode prog_3_method_13_code 7 = .ok (.iaload, 1) ∧ 7 + 1 = 8 := by decide +kernel
theorem D_P_wipe_8 : decode prog_3_method_13_code 8 = .ok (.aload_n 0, 1) ∧ 8 + 1 = 9 := by decide +kernel
theorem D_P_wipe_9 : decode prog_3_method_13_code 9 = .ok (.getfield 38, 3) ∧ 9 + 3 = 12 := by decide +kernel
theorem D_P_wipe_12 : decode prog_3_method_13_code 12 = .ok (.iload_n 1, 1) ∧ 12 + 1 = 13 := by decide +kernel
theorem D_P_wipe_13 : decode prog_3_method_13_code 13 = .ok (.iaload, 1) ∧ 13 + 1 = 14 := by decide +kernel
theorem D_P_wipe_14 : decode prog_3_method_13_code 14 = .ok (.aload_n 0, 1) ∧ 14 + 1 = 15 := by decide +kernel
theorem D_P_wipe_15 : decode prog_3_method_13_code 15 = .ok (.getfield 41, 3) ∧ 15 + 3 = 18 := by decide +kernel
theorem D_P_wipe_18 : decode prog_3_method_13_code 18 = .ok (.iload_n 1, 1) ∧ 18 + 1 = 19 := by decide +kernel
theorem D_P_wipe_19 : decode prog_3_method_13_code 19 = .ok (.iaload, 1) ∧ 19 + 1 = 20 := by decide +kernel
theorem D_P_wipe_20 : decode prog_3_method_13_code 20 = .ok (.aload_n 0, 1) ∧ 20 + 1 = 21 := by decide +kernel
theorem D_P_wipe_21 : decode prog_3_method_13_code 21 = .ok (.getfield 35, 3) ∧ 21 + 3 = 24 := by decide +kernel
theorem D_P_wipe_24 : decode prog_3_method_13_code 24 = .ok (.iload_n 1, 1) ∧ 24 + 1 = 25 := by decide +kernel
theorem D_P_wipe_25 : decode prog_3_method_13_code 25 = .ok (.iaload, 1) ∧ 25 + 1 = 26 := by decide +kernel
theorem D_P_wipe_26 : decode prog_3_method_13_code 26 = .ok (.invokevirtual 94, 3) ∧ 26 + 3 = 29 := by decide +kernel
theorem D_P_wipe_29 : decode prog_3_method_13_code 29 = .ok (.istore_n 2, 1) ∧ 29 + 1 = 30 := by decide +kernel
theorem D_P_wipe_30 : decode prog_3_method_13_code 30 = .ok (.iconst 0, 1) ∧ 30 + 1 = 31 := by decide +kernel
theorem D_P_wipe_31 : decode prog_3_method_13_code 31 = .ok (.aload_n 0, 1) ∧ 31 + 1 = 32 := by decide +kernel
theorem D_P_wipe_32 : decode prog_3_method_13_code 32 = .ok (.getfield 35, 3) ∧ 32 + 3 = 35 := by decide +kernel
theorem D_P_wipe_35 : decode prog_3_method_13_code 35 = .ok (.iload_n 1, 1) ∧ 35 + 1 = 36 := by decide +kernel
theorem D_P_wipe_36 : decode prog_3_method_13_code 36 = .ok (.iaload, 1) ∧ 36 + 1 = 37 := by decide +kernel
theorem D_P_wipe_37 : decode prog_3_method_13_code 37 = .ok (.iload_n 2, 1) ∧ 37 + 1 = 38 := by decide +kernel
theorem D_P_wipe_38 : decode prog_3_method_13_code 38 = .ok (.invokestatic 98, 3) ∧ 38 + 3 = 41 := by decide +kernel
theorem D_P_wipe_41 : decode prog_3_method_13_code 41 = .ok (.invokestatic 104, 3) ∧ 41 + 3 = 44 := by decide +kernel
theorem D_P_wipe_44 : decode prog_3_method_13_code 44 = .ok (.istore_n 3, 1) ∧ 44 + 1 = 45 := by decide +kernel
theorem D_P_wipe_45 : decode prog_3_method_13_code 45 = .ok (.iload_n 3, 1) ∧ 45 + 1 = 46 := by decide +kernel
theorem D_P_wipe_46 : decode prog_3_method_13_code 46 = .ok (.ldc 138, 2) ∧ 46 + 2 = 48 := by decide +kernel
theorem D_P_wipe_48 : decode prog_3_method_13_code 48 = .ok (.aload_n 0, 1) ∧ 48 + 1 = 49 := by decide +kernel
theorem D_P_wipe_49 : decode prog_3_method_13_code 49 = .ok (.getfield 44, 3) ∧ 49 + 3 = 52 := by decide +kernel
theorem D_P_wipe_52 : decode prog_3_method_13_code 52 = .ok (.iload_n 1, 1) ∧ 52 + 1 = 53 := by decide +kernel
theorem D_P_wipe_53 : decode prog_3_method_13_code 53 = .ok (.iconst 3, 1) ∧ 53 + 1 = 54 := by decide +kernel
theorem D_P_wipe_54 : decode prog_3_method_13_code 54 = .ok (.irem, 1) ∧ 54 + 1 = 55 := by decide +kernel
theorem D_P_wipe_55 : decode prog_3_method_13_code 55 = .ok (.iaload, 1) ∧ 55 + 1 = 56 := by decide +kernel
theorem D_P_wipe_56 : decode prog_3_method_13_code 56 = .ok (.isub, 1) ∧ 56 + 1 = 57 := by decide +kernel
theorem D_P_wipe_57 : decode prog_3_method_13_code 57 = .ok (.invokestatic 98, 3) ∧ 57 + 3 = 60 := by decide +kernel
theorem D_P_wipe_60 : decode prog_3_method_13_code 60 = .ok (.istore 4, 2) ∧ 60 + 2 = 62 := by decide +kernel
theorem D_P_wipe_62 : decode prog_3_method_13_code 62 = .ok (.aload_n 0, 1) ∧ 62 + 1 = 63 := by decide +kernel
theorem D_P_wipe_63 : decode prog_3_method_13_code 63 = .ok (.getfield 44, 3) ∧ 63 + 3 = 66 := by decide +kernel
theorem D_P_wipe_66 : decode prog_3_method_13_code 66 = .ok (.iload_n 1, 1) ∧ 66 + 1 = 67 := by decide +kernel
theorem D_P_wipe_67 : decode prog_3_method_13_code 67 = .ok (.iconst 3, 1) ∧ 67 + 1 = 68 := by decide +kernel
theorem D_P_wipe_68 : decode prog_3_method_13_code 68 = .ok (.irem, 1) ∧ 68 + 1 = 69 := by decide +kernel
theorem D_P_wipe_69 : decode prog_3_method_13_code 69 = .ok (.dup2, 1) ∧ 69 + 1 = 70 := by decide +kernel
theorem D_P_wipe_70 : decode prog_3_method_13_code 70 = .ok (.iaload, 1) ∧ 70 + 1 = 71 := by decide +kernel
theorem D_P_wipe_71 : decode prog_3_method_13_code 71 = .ok (.iload 4, 2) ∧ 71 + 2 = 73 := by decide +kernel
theorem D_P_wipe_73 : decode prog_3_method_13_code 73 = .ok (.iadd, 1) ∧ 73 + 1 = 74 := by decide +kernel
theorem D_P_wipe_74 : decode prog_3_method_13_code 74 = .ok (.iastore, 1) ∧ 74 + 1 = 75 := by decide +kernel
theorem D_P_wipe_75 : decode prog_3_method_13_code 75 = .ok (.aload_n 0, 1) ∧ 75 + 1 = 76 := by decide +kernel
theorem D_P_wipe_76 : decode prog_3_method_13_code 76 = .ok (.dup, 1) ∧ 76 + 1 = 77 := by decide +kernel
theorem D_P_wipe_77 : decode prog_3_method_13_code 77 = .ok (.getfield 50, 3) ∧ 77 + 3 = 80 := by decide +kernel
theorem D_P_wipe_80 : decode prog_3_method_13_code 80 = .ok (.aload_n 0, 1) ∧ 80 + 1 = 81 := by decide +kernel
theorem D_P_wipe_81 : decode prog_3_method_13_code 81 = .ok (.getfield 35, 3) ∧ 81 + 3 = 84 := by decide +kernel
theorem D_P_wipe_84 : decode prog_3_method_13_code 84 = .ok (.iload_n 1, 1) ∧ 84 + 1 = 85 := by decide +kernel
theorem D_P_wipe_85 : decode prog_3_method_13_code 85 = .ok (.iaload, 1) ∧ 85 + 1 = 86 := by decide +kernel
theorem D_P_wipe_86 : decode prog_3_method_13_code 86 = .ok (.iload 4, 2) ∧ 86 + 2 = 88 := by decide +kernel
theorem D_P_wipe_88 : decode prog_3_method_13_code 88 = .ok (.isub, 1) ∧ 88 + 1 = 89 := by decide +kernel
theorem D_P_wipe_89 : decode prog_3_method_13_code 89 = .ok (.iadd, 1) ∧ 89 + 1 = 90 := by decide +kernel
theorem D_P_wipe_90 : decode prog_3_method_13_code 90 = .ok (.putfield 50, 3) ∧ 90 + 3 = 93 := by decide +kernel
theorem D_P_wipe_93 : decode prog_3_method_13_code 93 = .ok (.aload_n 0, 1) ∧ 93 + 1 = 94 := by decide +kernel
theorem D_P_wipe_94 : decode prog_3_method_13_code 94 = .ok (.getfield 35, 3) ∧ 94 + 3 = 97 := by decide +kernel
theorem D_P_wipe_97 : decode prog_3_method_13_code 97 = .ok (.iload_n 1, 1) ∧ 97 + 1 = 98 := by decide +kernel
theorem D_P_wipe_98 : decode prog_3_method_13_code 98 = .ok (.iconst 0, 1) ∧ 98 + 1 = 99 := by decide +kernel
theorem D_P_wipe_99 : decode prog_3_method_13_code 99 = .ok (.iastore, 1) ∧ 99 + 1 = 100 := by decide +kernel
theorem D_P_wipe_100 : decode prog_3_method_13_code 100 = .ok (.aload_n 0, 1) ∧ 100 + 1 = 101 := by decide +kernel
theorem D_P_wipe_101 : decode prog_3_method_13_code 101 = .ok (.getfield 38, 3) ∧ 101 + 3 = 104 := by decide +kernel
theorem D_P_wipe_104 : decode prog_3_method_13_code 104 = .ok (.iload_n 1, 1) ∧ 104 + 1 = 105 := by decide +kernel
theorem D_P_wipe_105 : decode prog_3_method_13_code 105 = .ok (.iconst 0, 1) ∧ 105 + 1 = 106 := by decide +kernel
theorem D_P_wipe_106 : decode prog_3_method_13_code 106 = .ok (.iastore, 1) ∧ 106 + 1 = 107 := by decide +kernel
theorem D_P_wipe_107 : decode prog_3_method_13_code 107 = .ok (.aload_n 0, 1) ∧ 107 + 1 = 108 := by decide +kernel
theorem D_P_wipe_108 : decode prog_3_method_13_code 108 = .ok (.getfield 41, 3) ∧ 108 + 3 = 111 := by decide +kernel
theorem D_P_wipe_111 : decode prog_3_method_13_code 111 = .ok (.iload_n 1, 1) ∧ 111 + 1 = 112 := by decide +kernel
theorem D_P_wipe_112 : decode prog_3_method_13_code 112 = .ok (.dup2, 1) ∧ 112 + 1 = 113 := by decide +kernel
theorem D_P_wipe_113 : decode prog_3_method_13_code 113 = .ok (.iaload, 1) ∧ 113 + 1 = 114 := by decide +kernel
theorem D_P_wipe_114 : decode prog_3_method_13_code 114 = .ok (.iconst 1, 1) ∧ 114 + 1 = 115 := by decide +kernel
theorem D_P_wipe_115 : decode prog_3_method_13_code 115 = .ok (.iadd, 1) ∧ 115 + 1 = 116 := by decide +kernel
theorem D_P_wipe_116 : decode prog_3_method_13_code 116 = .ok (.iastore, 1) ∧ 116 + 1 = 117 := by decide +kernel
theorem D_P_wipe_117 : decode prog_3_method_13_code 117 = .ok (.return_, 1) := by decide +kernel
def f_P_wipe (N : Nat) (p : Nat) (a1 : Int32) (mem : Mm) : Option (Mm) := if inb a1 6 = true then bd (f_P_lawGives N p 1 (mem (p + 6) (ix a1)) (mem (p + 7) (ix a1)) (mem (p + 8) (ix a1)) (mem (p + 6) (ix a1)) mem) fun r_26 m_26 => lt (if 0 < (if r_26 < (m_26 (p + 6) (ix a1)) then r_26 else m_26 (p + 6) (ix a1)) then if r_26 < (m_26 (p + 6) (ix a1)) then r_26 else m_26 (p + 6) (ix a1) else 0) fun x_44 => if inb (a1 - a1 / 3 * 3) 3 = true then lt (if (99999 - (m_26 (p + 9) (ix (a1 - a1 / 3 * 3)))) < x_44 then 99999 - (m_26 (p + 9) (ix (a1 - a1 / 3 * 3))) else x_44) fun x_60 => lt (mst m_26 (p + 9) (ix (a1 - a1 / 3 * 3)) ((m_26 (p + 9) (ix (a1 - a1 / 3 * 3))) + x_60)) fun m_74 => lt (mst m_74 p 14 ((m_74 p 14) + ((m_74 (p + 6) (ix a1)) - x_60))) fun m_90 => lt (mst m_90 (p + 6) (ix a1) 0) fun m_99 => lt (mst m_99 (p + 7) (ix a1) 0) fun m_106 => lt (mst m_106 (p + 8) (ix a1) ((m_106 (p + 8) (ix a1)) + 1)) fun m_116 => some m_116 else none else none
theorem c_P_wipe (l : Launch) (E : En) (N : Nat) (p : Nat) (hp : isPic p) (a1 : Int32) {mem : Mm} {m2 : Mm} (h : f_P_wipe N p a1 mem = some m2) : CtV l E 3 y_P_wipe prog_3_method_13_code 5 [.ref (eb E + p), .int a1] SH mem m2 := by
  refine mk_CtV ⟨by decide, (Nat.le_of_ble_eq_true rfl)⟩ (fun X S hl hR => ?_)
  have S : Std X E prog_3_method_13_code R0 5 3 := S
  show J X E 5 0 [(0, .ref (eb E + p)), (1, .int a1)] [] SH mem
  unfold f_P_wipe at h
  refine j_aload_n S D_P_wipe_0 0 rfl rfl ?_
  refine j_iconst S D_P_wipe_1 ci_1 ?_
  refine j_aload_n S D_P_wipe_2 0 rfl rfl ?_
  refine j_getR S D_P_wipe_3 fl_R0_35 (sh_pic hp) rfl ?_
  refine j_iload_n S D_P_wipe_6 1 rfl rfl ?_
  obtain ⟨g_7, h⟩ := gdE h
  refine j_iald S D_P_wipe_7 (sh_pic6 hp) g_7 ?_
  refine j_aload_n S D_P_wipe_8 0 rfl rfl ?_
  refine j_getR S D_P_wipe_9 fl_R0_38 (sh_pic hp) rfl ?_
  refine j_iload_n S D_P_wipe_12 1 rfl rfl ?_
  refine j_iald S D_P_wipe_13 (sh_pic7 hp) g_7 ?_
  refine j_aload_n S D_P_wipe_14 0 rfl rfl ?_
  refine j_getR S D_P_wipe_15 fl_R0_41 (sh_pic hp) rfl ?_
  refine j_iload_n S D_P_wipe_18 1 rfl rfl ?_
  refine j_iald S D_P_wipe_19 (sh_pic8 hp) g_7 ?_
  refine j_aload_n S D_P_wipe_20 0 rfl rfl ?_
  refine j_getR S D_P_wipe_21 fl_R0_35 (sh_pic hp) rfl ?_
  refine j_iload_n S D_P_wipe_24 1 rfl rfl ?_
  refine j_iald S D_P_wipe_25 (sh_pic6 hp) g_7 ?_
  obtain ⟨r_26, m_26, e_26, h⟩ := bdE h
  refine j_callVI (As := [.int 1, .int (mem (p + 6) (ix a1)), .int (mem (p + 7) (ix a1)), .int (mem (p + 8) (ix a1)), .int (mem (p + 6) (ix a1))]) S D_P_wipe_26 mv_R0_94 (c_P_lawGives (cxL X) E N p hp 1 (mem (p + 6) (ix a1)) (mem (p + 7) (ix a1)) (mem (p + 8) (ix a1)) (mem (p + 6) (ix a1)) e_26) (by decide) (sh_pic hp) rfl rfl rfl rfl (Nat.le_of_ble_eq_true rfl) ?_
  refine j_istore_n S D_P_wipe_29 (lv := [(2, .int r_26), (0, .ref (eb E + p)), (1, .int a1)]) rfl ⟨rfl, (Nat.le_of_ble_eq_true rfl)⟩ ?_
  refine j_iconst S D_P_wipe_30 ci_0 ?_
  refine j_aload_n S D_P_wipe_31 1 rfl rfl ?_
  refine j_getR S D_P_wipe_32 fl_R0_35 (sh_pic hp) rfl ?_
  refine j_iload_n S D_P_wipe_35 2 rfl rfl ?_
  refine j_iald S D_P_wipe_36 (sh_pic6 hp) g_7 ?_
  refine j_iload_n S D_P_wipe_37 0 rfl rfl ?_
  refine j_mmin S D_P_wipe_38 (by decide) mm_R0_98 (Nat.le_of_ble_eq_true rfl) ?_
  refine j_mmax S D_P_wipe_41 (by decide) mm_R0_104 (Nat.le_of_ble_eq_true rfl) ?_
  obtain ⟨x_44, hx_44, h⟩ := ltE h
  refine j_nm hx_44 ?_
  refine j_istore_n S D_P_wipe_44 (lv := [(3, .int x_44), (2, .int r_26), (0, .ref (eb E + p)), (1, .int a1)]) rfl ⟨rfl, (Nat.le_of_ble_eq_true rfl)⟩ ?_
  refine j_iload_n S D_P_wipe_45 0 rfl rfl ?_
  refine j_ldc S D_P_wipe_46 co_R0_138 ?_
  refine j_aload_n S D_P_wipe_48 2 rfl rfl ?_
  refine j_getR S D_P_wipe_49 fl_R0_44 (sh_pic hp) rfl ?_
  refine j_iload_n S D_P_wipe_52 3 rfl rfl ?_
  refine j_iconst S D_P_wipe_53 ci_3 ?_
  refine j_irem S D_P_wipe_54 nz_3 ?_
  obtain ⟨g_55, h⟩ := gdE h
  refine j_iald S D_P_wipe_55 (sh_pic9 hp) g_55 ?_
  refine j_isub S D_P_wipe_56 ?_
  refine j_mmin S D_P_wipe_57 (by decide) mm_R0_98 (Nat.le_of_ble_eq_true rfl) ?_
  obtain ⟨x_60, hx_60, h⟩ := ltE h
  refine j_nm hx_60 ?_
  refine j_istore S D_P_wipe_60 (lv := [(4, .int x_60), (3, .int x_44), (2, .int r_26), (0, .ref (eb E + p)), (1, .int a1)]) rfl (Nat.le_of_ble_eq_true rfl) ?_
  refine j_aload_n S D_P_wipe_62 3 rfl rfl ?_
  refine j_getR S D_P_wipe_63 fl_R0_44 (sh_pic hp) rfl ?_
  refine j_iload_n S D_P_wipe_66 4 rfl rfl ?_
  refine j_iconst S D_P_wipe_67 ci_3 ?_
  refine j_irem S D_P_wipe_68 nz_3 ?_
  refine j_dup2 S D_P_wipe_69 ⟨rfl, rfl⟩ ?_
  refine j_iald S D_P_wipe_70 (sh_pic9 hp) g_55 ?_
  refine j_iload S D_P_wipe_71 0 rfl ?_
  refine j_iadd S D_P_wipe_73 ?_
  obtain ⟨m_74, hm_74, h⟩ := ltE h
  refine j_iast S D_P_wipe_74 (sh_pic9 hp) g_55 ?_
  refine j_mem hm_74 ?_
  refine j_aload_n S D_P_wipe_75 3 rfl rfl ?_
  refine j_dup S D_P_wipe_76 rfl ?_
  refine j_getI S D_P_wipe_77 fl_R0_50 (sh_pic hp) rfl ?_
  refine j_aload_n S D_P_wipe_80 3 rfl rfl ?_
  refine j_getR S D_P_wipe_81 fl_R0_35 (sh_pic hp) rfl ?_
  refine j_iload_n S D_P_wipe_84 4 rfl rfl ?_
  refine j_iald S D_P_wipe_85 (sh_pic6 hp) g_7 ?_
  refine j_iload S D_P_wipe_86 0 rfl ?_
  refine j_isub S D_P_wipe_88 ?_
  refine j_iadd S D_P_wipe_89 ?_
  obtain ⟨m_90, hm_90, h⟩ := ltE h
  refine j_putI S D_P_wipe_90 fp_R0_50 (sh_pic hp) rfl ?_
  refine j_mem hm_90 ?_
  refine j_aload_n S D_P_wipe_93 3 rfl rfl ?_
  refine j_getR S D_P_wipe_94 fl_R0_35 (sh_pic hp) rfl ?_
  refine j_iload_n S D_P_wipe_97 4 rfl rfl ?_
  refine j_iconst S D_P_wipe_98 ci_0 ?_
  obtain ⟨m_99, hm_99, h⟩ := ltE h
  refine j_iast S D_P_wipe_99 (sh_pic6 hp) g_7 ?_
  refine j_mem hm_99 ?_
  refine j_aload_n S D_P_wipe_100 3 rfl rfl ?_
  refine j_getR S D_P_wipe_101 fl_R0_38 (sh_pic hp) rfl ?_
  refine j_iload_n S D_P_wipe_104 4 rfl rfl ?_
  refine j_iconst S D_P_wipe_105 ci_0 ?_
  obtain ⟨m_106, hm_106, h⟩ := ltE h
  refine j_iast S D_P_wipe_106 (sh_pic7 hp) g_7 ?_
  refine j_mem hm_106 ?_
  refine j_aload_n S D_P_wipe_107 3 rfl rfl ?_
  refine j_getR S D_P_wipe_108 fl_R0_41 (sh_pic hp) rfl ?_
  refine j_iload_n S D_P_wipe_111 4 rfl rfl ?_
  refine j_dup2 S D_P_wipe_112 ⟨rfl, rfl⟩ ?_
  refine j_iald S D_P_wipe_113 (sh_pic8 hp) g_7 ?_
  refine j_iconst S D_P_wipe_114 ci_1 ?_
  refine j_iadd S D_P_wipe_115 ?_
  obtain ⟨m_116, hm_116, h⟩ := ltE h
  refine j_iast S D_P_wipe_116 (sh_pic8 hp) g_7 ?_
  refine j_mem hm_116 ?_
  exact rtV hR h _ _ D_P_wipe_117

def y_P_passHour : MethodName := ⟨"SandPicture$Picture", "passHour", "()I"⟩
theorem D_P_passHour_0 : decode prog_3_method_9_code 0 = .ok (.iconst 0, 1) ∧ 0 + 1 = 1 := by decide +kernel
theorem D_P_passHour_1 : decode prog_3_method_9_code 1 = .ok (.istore_n 1, 1) ∧ 1 + 1 = 2 := by decide +kernel
theorem D_P_passHour_2 : decode prog_3_method_9_code 2 = .ok (.iload_n 1, 1) ∧ 2 + 1 = 3 := by decide +kernel
theorem D_P_passHour_3 : decode prog_3_method_9_code 3 = .ok (.aload_n 0, 1) ∧ 3 + 1 = 4 := by decide +kernel
theorem D_P_passHour_4 : decode prog_3_method_9_code 4 = .ok (.getfield 20, 3) ∧ 4 + 3 = 7 := by decide +kernel
theorem D_P_passHour_7 : decode prog_3_method_9_code 7 = .ok (.if_icmp .ge 14, 3) ∧ ((7 : Nat) : Int) + 14 = ((21 : Nat) : Int) ∧ 7 + 3 = 10 := by decide +kernel
theorem D_P_passHour_10 : decode prog_3_method_9_code 10 = .ok (.aload_n 0, 1) ∧ 10 + 1 = 11 := by decide +kernel
theorem D_P_passHour_11 : decode prog_3_method_9_code 11 = .ok (.iload_n 1, 1) ∧ 11 + 1 = 12 := by decide +kernel
theorem D_P_passHour_12 : decode prog_3_method_9_code 12 = .ok (.invokevirtual 115, 3) ∧ 12 + 3 = 15 := by decide +kernel
theorem D_P_passHour_15 : decode prog_3_method_9_code 15 = .ok (.iinc 1 1, 3) ∧ 15 + 3 = 18 := by decide +kernel
theorem D_P_passHour_18 : decode prog_3_method_9_code 18 = .ok (.goto (-16), 3) ∧ ((18 : Nat) : Int) + (-16) = ((2 : Nat) : Int) := by decide +kernel
theorem D_P_passHour_21 : decode prog_3_method_9_code 21 = .ok (.aload_n 0, 1) ∧ 21 + 1 = 22 := by decide +kernel
theorem D_P_passHour_22 : decode prog_3_method_9_code 22 = .ok (.invokevirtual 79, 3) ∧ 22 + 3 = 25 := by decide +kernel
theorem D_P_passHour_25 : decode prog_3_method_9_code 25 = .ok (.bipush 100, 2) ∧ 25 + 2 = 27 := by decide +kernel
theorem D_P_passHour_27 : decode prog_3_method_9_code 27 = .ok (.irem, 1) ∧ 27 + 1 = 28 := by decide +kernel
theorem D_P_passHour_28 : decode prog_3_method_9_code 28 = .ok (.aload_n 0, 1) ∧ 28 + 1 = 29 := by decide +kernel
theorem D_P_passHour_29 : decode prog_3_method_9_code 29 = .ok (.getfield 47, 3) ∧ 29 + 3 = 32 := by decide +kernel
theorem D_P_passHour_32 : decode prog_3_method_9_code 32 = .ok (.if_icmp .ge 14, 3) ∧ ((32 : Nat) : Int) + 14 = ((46 : Nat) : Int) ∧ 32 + 3 = 35 := by decide +kernel
theorem D_P_passHour_46 : decode prog_3_method_9_code 46 = .ok (.aload_n 0, 1) ∧ 46 + 1 = 47 := by decide +kernel
theorem D_P_passHour_47 : decode prog_3_method_9_code 47 = .ok (.invokevirtual 122, 3) ∧ 47 + 3 = 50 := by decide +kernel
theorem D_P_passHour_50 : decode prog_3_method_9_code 50 = .ok (.ifCond .eq 13, 3) ∧ ((50 : Nat) : Int) + 13 = ((63 : Nat) : Int) ∧ 50 + 3 = 53 := by decide +kernel
theorem D_P_passHour_63 : decode prog_3_method_9_code 63 = .ok (.iconst 0, 1) ∧ 63 + 1 = 64 := by decide +kernel
theorem D_P_passHour_64 : decode prog_3_method_9_code 64 = .ok (.istore_n 1, 1) ∧ 64 + 1 = 65 := by decide +kernel
theorem D_P_passHour_65 : decode prog_3_method_9_code 65 = .ok (.iconst 0, 1) ∧ 65 + 1 = 66 := by decide +kernel
theorem D_P_passHour_66 : decode prog_3_method_9_code 66 = .ok (.istore_n 2, 1) ∧ 66 + 1 = 67 := by decide +kernel
theorem D_P_passHour_67 : decode prog_3_method_9_code 67 = .ok (.iload_n 2, 1) ∧ 67 + 1 = 68 := by decide +kernel
theorem D_P_passHour_68 : decode prog_3_method_9_code 68 = .ok (.bipush 6, 2) ∧ 68 + 2 = 70 := by decide +kernel
theorem D_P_passHour_70 : decode prog_3_method_9_code 70 = .ok (.if_icmp .ge 32, 3) ∧ ((70 : Nat) : Int) + 32 = ((102 : Nat) : Int) ∧ 70 + 3 = 73 := by decide +kernel
theorem D_P_passHour_73 : decode prog_3_method_9_code 73 = .ok (.aload_n 0, 1) ∧ 73 + 1 = 74 := by decide +kernel
theorem D_P_passHour_74 : decode prog_3_method_9_code 74 = .ok (.getfield 35, 3) ∧ 74 + 3 = 77 := by decide +kernel
theorem D_P_passHour_77 : decode prog_3_method_9_code 77 = .ok (.iload_n 2, 1) ∧ 77 + 1 = 78 := by decide +kernel
theorem D_P_passHour_78 : decode prog_3_method_9_code 78 = .ok (.iaload, 1) ∧ 78 + 1 = 79 := by decide +kernel
theorem D_P_passHour_79 : decode prog_3_method_9_code 79 = .ok (.aload_n 0, 1) ∧ 79 + 1 = 80 := by decide +kernel
theorem D_P_passHour_80 : decode prog_3_method_9_code 80 = .ok (.getfield 32, 3) ∧ 80 + 3 = 83 := by decide +kernel
theorem D_P_passHour_83 : decode prog_3_method_9_code 83 = .ok (.iload_n 2, 1) ∧ 83 + 1 = 84 := by decide +kernel
theorem D_P_passHour_84 : decode prog_3_method_9_code 84 = .ok (.iaload, 1) ∧ 84 + 1 = 85 := by decide +kernel
theorem D_P_passHour_85 : decode prog_3_method_9_code 85 = .ok (.if_icmp .lt 11, 3) ∧ ((85 : Nat) : Int) + 11 = ((96 : Nat) : Int) ∧ 85 + 3 = 88 := by decide +kernel
theorem D_P_passHour_96 : decode prog_3_method_9_code 96 = .ok (.iinc 2 1, 3) ∧ 96 + 3 = 99 := by decide +kernel
theorem D_P_passHour_99 : decode prog_3_method_9_code 99 = .ok (.goto (-32), 3) ∧ ((99 : Nat) : Int) + (-32) = ((67 : Nat) : Int) := by decide +kernel
theorem D_P_passHour_88 : decode prog_3_method_9_code 88 = .ok (.aload_n 0, 1) ∧ 88 + 1 = 89 := by decide +kernel
theorem D_P_passHour_89 : decode prog_3_method_9_code 89 = .ok (.iload_n 2, 1) ∧ 89 + 1 = 90 := by decide +kernel
theorem D_P_passHour_90 : decode prog_3_method_9_code 90 = .ok (.invokevirtual 126, 3) ∧ 90 + 3 = 93 := by decide +kernel
theorem D_P_passHour_93 : decode prog_3_method_9_code 93 = .ok (.iinc 1 1, 3) ∧ 93 + 3 = 96 := by decide +kernel
theorem D_P_passHour_102 : decode prog_3_method_9_code 102 = .ok (.aload_n 0, 1) ∧ 102 + 1 = 103 := by decide +kernel
theorem D_P_passHour_103 : decode prog_3_method_9_code 103 = .ok (.dup, 1) ∧ 103 + 1 = 104 := by decide +kernel
theorem D_P_passHour_104 : decode prog_3_method_9_code 104 = .ok (.getfield 53, 3) ∧ 104 + 3 = 107 := by decide +kernel
theorem D_P_passHour_107 : decode prog_3_method_9_code 107 = .ok (.iconst 1, 1) ∧ 107 + 1 = 108 := by decide +kernel
theorem D_P_passHour_108 : decode prog_3_method_9_code 108 = .ok (.iadd, 1) ∧ 108 + 1 = 109 := by decide +kernel
theorem D_P_passHour_109 : decode prog_3_method_9_code 109 = .ok (.putfield 53, 3) ∧ 109 + 3 = 112 := by decide +kernel
theorem D_P_passHour_112 : decode prog_3_method_9_code 112 = .ok (.iload_n 1, 1) ∧ 112 + 1 = 113 := by decide +kernel
theorem D_P_passHour_113 : decode prog_3_method_9_code 113 = .ok (.ireturn, 1) := by decide +kernel
theorem D_P_passHour_53 : decode prog_3_method_9_code 53 = .ok (.aload_n 0, 1) ∧ 53 + 1 = 54 := by decide +kernel
theorem D_P_passHour_54 : decode prog_3_method_9_code 54 = .ok (.dup, 1) ∧ 54 + 1 = 55 := by decide +kernel
theorem D_P_passHour_55 : decode prog_3_method_9_code 55 = .ok (.getfield 56, 3) ∧ 55 + 3 = 58 := by decide +kernel
theorem D_P_passHour_58 : decode prog_3_method_9_code 58 = .ok (.iconst 1, 1) ∧ 58 + 1 = 59 := by decide +kernel
theorem D_P_passHour_59 : decode prog_3_method_9_code 59 = .ok (.iadd, 1) ∧ 59 + 1 = 60 := by decide +kernel
theorem D_P_passHour_60 : decode prog_3_method_9_code 60 = .ok (.putfield 56, 3) ∧ 60 + 3 = 63 := by decide +kernel
theorem D_P_passHour_35 : decode prog_3_method_9_code 35 = .ok (.aload_n 0, 1) ∧ 35 + 1 = 36 := by decide +kernel
theorem D_P_passHour_36 : decode prog_3_method_9_code 36 = .ok (.aload_n 0, 1) ∧ 36 + 1 = 37 := by decide +kernel
theorem D_P_passHour_37 : decode prog_3_method_9_code 37 = .ok (.invokevirtual 79, 3) ∧ 37 + 3 = 40 := by decide +kernel
theorem D_P_passHour_40 : decode prog_3_method_9_code 40 = .ok (.bipush 6, 2) ∧ 40 + 2 = 42 := by decide +kernel
theorem D_P_passHour_42 : decode prog_3_method_9_code 42 = .ok (.irem, 1) ∧ 42 + 1 = 43 := by decide +kernel
theorem D_P_passHour_43 : decode prog_3_method_9_code 43 = .ok (.invokevirtual 119, 3) ∧ 43 + 3 = 46 := by decide +kernel
def f_P_passHour_L2 (N : Nat) (p : Nat) : Nat → Int32 → Mm → Option (Int32 × Mm)
  | 0, _, _ => none
  | n + 1, b1, mem => if mem p 4 ≤ b1 then some (b1, mem) else bp (f_P_work N p b1 mem) fun m_12 => f_P_passHour_L2 N p n (b1 + 1) m_12
def f_P_passHour_L67 (N : Nat) (p : Nat) : Nat → Int32 → Int32 → Mm → Option ((Int32 × Int32) × Mm)
  | 0, _, _, _ => none
  | n + 1, b1, b2, mem => if 6 ≤ b2 then some ((b1, b2), mem) else if inb b2 6 = true then if mem (p + 6) (ix b2) < mem (p + 5) (ix b2) then f_P_passHour_L67 N p n b1 (b2 + 1) mem else bp (f_P_wipe N p b2 mem) fun m_90 => f_P_passHour_L67 N p n (b1 + 1) (b2 + 1) m_90 else none
def f_P_passHour (N : Nat) (p : Nat) (mem : Mm) : Option (Int32 × Mm) := bd (f_P_passHour_L2 N p N 0 mem) fun y_2 m_2 => bd (f_P_draw p m_2) fun r_22 m_22 => if m_22 p 13 ≤ (r_22 - r_22 / 100 * 100) then bp (f_P_allAreDone N p m_22) fun r_47 => if r_47 = 0 then bd (f_P_passHour_L67 N p N 0 0 m_22) fun y_67 m_67 => lt (mst m_67 p 15 ((m_67 p 15) + 1)) fun m_109 => some (y_67.1, m_109) else lt (mst m_22 p 16 ((m_22 p 16) + 1)) fun m_60 => bd (f_P_passHour_L67 N p N 0 0 m_60) fun y_67 m_67 => lt (mst m_67 p 15 ((m_67 p 15) + 1)) fun m_109 => some (y_67.1, m_109) else bd (f_P_draw p m_22) fun r_37 m_37 => bp (f_P_blowFrom p (r_37 - r_37 / 6 * 6) m_37) fun m_43 => bp (f_P_allAreDone N p m_43) fun r_47 => if r_47 = 0 then bd (f_P_passHour_L67 N p N 0 0 m_43) fun y_67 m_67 => lt (mst m_67 p 15 ((m_67 p 15) + 1)) fun m_109 => some (y_67.1, m_109) else lt (mst m_43 p 16 ((m_43 p 16) + 1)) fun m_60 => bd (f_P_passHour_L67 N p N 0 0 m_60) fun y_67 m_67 => lt (mst m_67 p 15 ((m_67 p 15) + 1)) fun m_109 => some (y_67.1, m_109)
theorem L_P_passHour_2 {X : Cx} {E : En} (S : Std X E prog_3_method_9_code R0 3 5) (N : Nat) (p : Nat) (hp : isPic p) : ∀ (n : Nat) (b1 : Int32) (mem : Mm) (z : Int32) (m2 : Mm), f_P_passHour_L2 N p n b1 mem = some (z, m2) → J X E 3 21 [(0, .ref (eb E + p)), (1, .int z)] [] SH m2 → J X E 3 2 [(0, .ref (eb E + p)), (1, .int b1)] [] SH mem := by
  intro n
  induction n with
  | zero =>
    intro b1 mem z m2 h hk; cases h
  | succ n ih =>
    intro b1 mem z m2 h hk
    rw [f_P_passHour_L2] at h
    refine j_iload_n S D_P_passHour_2 1 rfl rfl ?_
    refine j_aload_n S D_P_passHour_3 0 rfl rfl ?_
    refine j_getI S D_P_passHour_4 fl_R0_20 (sh_pic hp) rfl ?_
    refine j_icmp_ge S D_P_passHour_7 (fun c_7 => ?_) (fun c_7 => ?_)
    · have h := ifT c_7 h
      cases h
      exact j_locals [0, 1] rfl hk
    · have h := ifF c_7 h
      refine j_aload_n S D_P_passHour_10 0 rfl rfl ?_
      refine j_iload_n S D_P_passHour_11 1 rfl rfl ?_
      obtain ⟨m_12, e_12, h⟩ := bpE h
      refine j_callVV (As := [.int b1]) S D_P_passHour_12 mv_R0_115 (c_P_work (cxL X) E N p hp b1 e_12) (by decide) (sh_pic hp) rfl rfl rfl rfl (Nat.le_of_ble_eq_true rfl) ?_
      refine j_iinc S D_P_passHour_15 1 rfl (congrArg (fun z => b1 + z) ci_1) (lv := [(1, .int (b1 + 1)), (0, .ref (eb E + p))]) rfl (Nat.le_of_ble_eq_true rfl) ?_
      refine j_goto S D_P_passHour_18 ?_
      refine j_locals [1, 0] rfl (ih (b1 + 1) m_12 _ _ h hk)
theorem L_P_passHour_67 {X : Cx} {E : En} (S : Std X E prog_3_method_9_code R0 3 5) (N : Nat) (p : Nat) (hp : isPic p) : ∀ (n : Nat) (b1 : Int32) (b2 : Int32) (mem : Mm) (z : Int32 × Int32) (m2 : Mm), f_P_passHour_L67 N p n b1 b2 mem = some (z, m2) → J X E 3 102 [(0, .ref (eb E + p)), (1, .int z.1), (2, .int z.2)] [] SH m2 → J X E 3 67 [(0, .ref (eb E + p)), (1, .int b1), (2, .int b2)] [] SH mem := by
  intro n
  induction n with
  | zero =>
    intro b1 b2 mem z m2 h hk; cases h
  | succ n ih =>
    intro b1 b2 mem z m2 h hk
    rw [f_P_passHour_L67] at h
    refine j_iload_n S D_P_passHour_67 2 rfl rfl ?_
    refine j_bipush S D_P_passHour_68 cb_6 ?_
    refine j_icmp_ge S D_P_passHour_70 (fun c_70 => ?_) (fun c_70 => ?_)
    · have h := ifT c_70 h
      cases h
      exact j_locals [0, 1, 2] rfl hk
    · have h := ifF c_70 h
      refine j_aload_n S D_P_passHour_73 0 rfl rfl ?_
      refine j_getR S D_P_passHour_74 fl_R0_35 (sh_pic hp) rfl ?_
      refine j_iload_n S D_P_passHour_77 2 rfl rfl ?_
      obtain ⟨g_78, h⟩ := gdE h
      refine j_iald S D_P_passHour_78 (sh_pic6 hp) g_78 ?_
      refine j_aload_n S D_P_passHour_79 0 rfl rfl ?_
      refine j_getR S D_P_passHour_80 fl_R0_32 (sh_pic hp) rfl ?_
      refine j_iload_n S D_P_passHour_83 2 rfl rfl ?_
      refine j_iald S D_P_passHour_84 (sh_pic5 hp) g_78 ?_
      refine j_icmp_lt S D_P_passHour_85 (fun c_85 => ?_) (fun c_85 => ?_)
      · have h := ifT c_85 h
        refine j_iinc S D_P_passHour_96 2 rfl (congrArg (fun z => b2 + z) ci_1) (lv := [(2, .int (b2 + 1)), (0, .ref (eb E + p)), (1, .int b1)]) rfl (Nat.le_of_ble_eq_true rfl) ?_
        refine j_goto S D_P_passHour_99 ?_
        refine j_locals [1, 2, 0] rfl (ih b1 (b2 + 1) mem _ _ h hk)
      · have h := ifF c_85 h
        refine j_aload_n S D_P_passHour_88 0 rfl rfl ?_
        refine j_iload_n S D_P_passHour_89 2 rfl rfl ?_
        obtain ⟨m_90, e_90, h⟩ := bpE h
        refine j_callVV (As := [.int b2]) S D_P_passHour_90 mv_R0_126 (c_P_wipe (cxL X) E N p hp b2 e_90) (by decide) (sh_pic hp) rfl rfl rfl rfl (Nat.le_of_ble_eq_true rfl) ?_
        refine j_iinc S D_P_passHour_93 1 rfl (congrArg (fun z => b1 + z) ci_1) (lv := [(1, .int (b1 + 1)), (0, .ref (eb E + p)), (2, .int b2)]) rfl (Nat.le_of_ble_eq_true rfl) ?_
        refine j_iinc S D_P_passHour_96 2 rfl (congrArg (fun z => b2 + z) ci_1) (lv := [(2, .int (b2 + 1)), (1, .int (b1 + 1)), (0, .ref (eb E + p))]) rfl (Nat.le_of_ble_eq_true rfl) ?_
        refine j_goto S D_P_passHour_99 ?_
        refine j_locals [2, 1, 0] rfl (ih (b1 + 1) (b2 + 1) m_90 _ _ h hk)
theorem c_P_passHour (l : Launch) (E : En) (N : Nat) (p : Nat) (hp : isPic p) {mem : Mm} {r : Int32} {m2 : Mm} (h : f_P_passHour N p mem = some (r, m2)) : CtI l E 5 y_P_passHour prog_3_method_9_code 3 (some .int) [.ref (eb E + p)] SH mem r m2 := by
  refine mk_CtI ⟨by decide, (Nat.le_of_ble_eq_true rfl)⟩ (fun X S hl hR => ?_)
  have S : Std X E prog_3_method_9_code R0 3 5 := S
  show J X E 3 0 [(0, .ref (eb E + p))] [] SH mem
  unfold f_P_passHour at h
  refine j_iconst S D_P_passHour_0 ci_0 ?_
  refine j_istore_n S D_P_passHour_1 (lv := [(1, .int 0), (0, .ref (eb E + p))]) rfl ⟨rfl, (Nat.le_of_ble_eq_true rfl)⟩ ?_
  refine j_locals [1, 0] rfl ?_
  obtain ⟨y_2, m_2, e_2, h⟩ := bdE h
  refine L_P_passHour_2 S N p hp N 0 mem _ _ e_2 ?_
  refine j_aload_n S D_P_passHour_21 0 rfl rfl ?_
  obtain ⟨r_22, m_22, e_22, h⟩ := bdE h
  refine j_callVI (As := []) S D_P_passHour_22 mv_R0_79 (c_P_draw (cxL X) E p hp e_22) (by decide) (sh_pic hp) rfl rfl rfl rfl (Nat.le_of_ble_eq_true rfl) ?_
  refine j_bipush S D_P_passHour_25 cb_100 ?_
  refine j_irem S D_P_passHour_27 nz_100 ?_
  refine j_aload_n S D_P_passHour_28 0 rfl rfl ?_
  refine j_getI S D_P_passHour_29 fl_R0_47 (sh_pic hp) rfl ?_
  refine j_icmp_ge S D_P_passHour_32 (fun c_32 => ?_) (fun c_32 => ?_)
  · have h := ifT c_32 h
    refine j_aload_n S D_P_passHour_46 0 rfl rfl ?_
    obtain ⟨r_47, e_47, h⟩ := bpE h
    refine j_callVI (As := []) S D_P_passHour_47 mv_R0_122 (c_P_allAreDone (cxL X) E N p hp e_47) (by decide) (sh_pic hp) rfl rfl rfl rfl (Nat.le_of_ble_eq_true rfl) ?_
    refine j_if_eq S D_P_passHour_50 (fun c_50 => ?_) (fun c_50 => ?_)
    · have h := ifT c_50 h
      refine j_iconst S D_P_passHour_63 ci_0 ?_
      refine j_istore_n S D_P_passHour_64 (lv := [(1, .int 0), (0, .ref (eb E + p))]) rfl ⟨rfl, (Nat.le_of_ble_eq_true rfl)⟩ ?_
      refine j_iconst S D_P_passHour_65 ci_0 ?_
      refine j_istore_n S D_P_passHour_66 (lv := [(2, .int 0), (1, .int 0), (0, .ref (eb E + p))]) rfl ⟨rfl, (Nat.le_of_ble_eq_true rfl)⟩ ?_
      refine j_locals [2, 1, 0] rfl ?_
      obtain ⟨y_67, m_67, e_67, h⟩ := bdE h
      refine L_P_passHour_67 S N p hp N 0 0 m_22 _ _ e_67 ?_
      refine j_aload_n S D_P_passHour_102 0 rfl rfl ?_
      refine j_dup S D_P_passHour_103 rfl ?_
      refine j_getI S D_P_passHour_104 fl_R0_53 (sh_pic hp) rfl ?_
      refine j_iconst S D_P_passHour_107 ci_1 ?_
      refine j_iadd S D_P_passHour_108 ?_
      obtain ⟨m_109, hm_109, h⟩ := ltE h
      refine j_putI S D_P_passHour_109 fp_R0_53 (sh_pic hp) rfl ?_
      refine j_mem hm_109 ?_
      refine j_iload_n S D_P_passHour_112 1 rfl rfl ?_
      exact rtM hR h _ _ D_P_passHour_113
    · have h := ifF c_50 h
      refine j_aload_n S D_P_passHour_53 0 rfl rfl ?_
      refine j_dup S D_P_passHour_54 rfl ?_
      refine j_getI S D_P_passHour_55 fl_R0_56 (sh_pic hp) rfl ?_
      refine j_iconst S D_P_passHour_58 ci_1 ?_
      refine j_iadd S D_P_passHour_59 ?_
      obtain ⟨m_60, hm_60, h⟩ := ltE h
      refine j_putI S D_P_passHour_60 fp_R0_56 (sh_pic hp) rfl ?_
      refine j_mem hm_60 ?_
      refine j_iconst S D_P_passHour_63 ci_0 ?_
      refine j_istore_n S D_P_passHour_64 (lv := [(1, .int 0), (0, .ref (eb E + p))]) rfl ⟨rfl, (Nat.le_of_ble_eq_true rfl)⟩ ?_
      refine j_iconst S D_P_passHour_65 ci_0 ?_
      refine j_istore_n S D_P_passHour_66 (lv := [(2, .int 0), (1, .int 0), (0, .ref (eb E + p))]) rfl ⟨rfl, (Nat.le_of_ble_eq_true rfl)⟩ ?_
      refine j_locals [2, 1, 0] rfl ?_
      obtain ⟨y_67, m_67, e_67, h⟩ := bdE h
      refine L_P_passHour_67 S N p hp N 0 0 m_60 _ _ e_67 ?_
      refine j_aload_n S D_P_passHour_102 0 rfl rfl ?_
      refine j_dup S D_P_passHour_103 rfl ?_
      refine j_getI S D_P_passHour_104 fl_R0_53 (sh_pic hp) rfl ?_
      refine j_iconst S D_P_passHour_107 ci_1 ?_
      refine j_iadd S D_P_passHour_108 ?_
      obtain ⟨m_109, hm_109, h⟩ := ltE h
      refine j_putI S D_P_passHour_109 fp_R0_53 (sh_pic hp) rfl ?_
      refine j_mem hm_109 ?_
      refine j_iload_n S D_P_passHour_112 1 rfl rfl ?_
      exact rtM hR h _ _ D_P_passHour_113
  · have h := ifF c_32 h
    refine j_aload_n S D_P_passHour_35 0 rfl rfl ?_
    refine j_aload_n S D_P_passHour_36 0 rfl rfl ?_
    obtain ⟨r_37, m_37, e_37, h⟩ := bdE h
    refine j_callVI (As := []) S D_P_passHour_37 mv_R0_79 (c_P_draw (cxL X) E p hp e_37) (by decide) (sh_pic hp) rfl rfl rfl rfl (Nat.le_of_ble_eq_true rfl) ?_
    refine j_bipush S D_P_passHour_40 cb_6 ?_
    refine j_irem S D_P_passHour_42 nz_6 ?_
    obtain ⟨m_43, e_43, h⟩ := bpE h
    refine j_callVV (As := [.int (r_37 - r_37 / 6 * 6)]) S D_P_passHour_43 mv_R0_119 (c_P_blowFrom (cxL X) E p hp (r_37 - r_37 / 6 * 6) e_43) (by decide) (sh_pic hp) rfl rfl rfl rfl (Nat.le_of_ble_eq_true rfl) ?_
    refine j_aload_n S D_P_passHour_46 0 rfl rfl ?_
    obtain ⟨r_47, e_47, h⟩ := bpE h
    refine j_callVI (As := []) S D_P_passHour_47 mv_R0_122 (c_P_allAreDone (cxL X) E N p hp e_47) (by decide) (sh_pic hp) rfl rfl rfl rfl (Nat.le_of_ble_eq_true rfl) ?_
    refine j_if_eq S D_P_passHour_50 (fun c_50 => ?_) (fun c_50 => ?_)
    · have h := ifT c_50 h
      refine j_iconst S D_P_passHour_63 ci_0 ?_
      refine j_istore_n S D_P_passHour_64 (lv := [(1, .int 0), (0, .ref (eb E + p))]) rfl ⟨rfl, (Nat.le_of_ble_eq_true rfl)⟩ ?_
      refine j_iconst S D_P_passHour_65 ci_0 ?_
      refine j_istore_n S D_P_passHour_66 (lv := [(2, .int 0), (1, .int 0), (0, .ref (eb E + p))]) rfl ⟨rfl, (Nat.le_of_ble_eq_true rfl)⟩ ?_
      refine j_locals [2, 1, 0] rfl ?_
      obtain ⟨y_67, m_67, e_67, h⟩ := bdE h
      refine L_P_passHour_67 S N p hp N 0 0 m_43 _ _ e_67 ?_
      refine j_aload_n S D_P_passHour_102 0 rfl rfl ?_
      refine j_dup S D_P_passHour_103 rfl ?_
      refine j_getI S D_P_passHour_104 fl_R0_53 (sh_pic hp) rfl ?_
      refine j_iconst S D_P_passHour_107 ci_1 ?_
      refine j_iadd S D_P_passHour_108 ?_
      obtain ⟨m_109, hm_109, h⟩ := ltE h
      refine j_putI S D_P_passHour_109 fp_R0_53 (sh_pic hp) rfl ?_
      refine j_mem hm_109 ?_
      refine j_iload_n S D_P_passHour_112 1 rfl rfl ?_
      exact rtM hR h _ _ D_P_passHour_113
    · have h := ifF c_50 h
      refine j_aload_n S D_P_passHour_53 0 rfl rfl ?_
      refine j_dup S D_P_passHour_54 rfl ?_
      refine j_getI S D_P_passHour_55 fl_R0_56 (sh_pic hp) rfl ?_
      refine j_iconst S D_P_passHour_58 ci_1 ?_
      refine j_iadd S D_P_passHour_59 ?_
      obtain ⟨m_60, hm_60, h⟩ := ltE h
      refine j_putI S D_P_passHour_60 fp_R0_56 (sh_pic hp) rfl ?_
      refine j_mem hm_60 ?_
      refine j_iconst S D_P_passHour_63 ci_0 ?_
      refine j_istore_n S D_P_passHour_64 (lv := [(1, .int 0), (0, .ref (eb E + p))]) rfl ⟨rfl, (Nat.le_of_ble_eq_true rfl)⟩ ?_
      refine j_iconst S D_P_passHour_65 ci_0 ?_
      refine j_istore_n S D_P_passHour_66 (lv := [(2, .int 0), (1, .int 0), (0, .ref (eb E + p))]) rfl ⟨rfl, (Nat.le_of_ble_eq_true rfl)⟩ ?_
      refine j_locals [2, 1, 0] rfl ?_
      obtain ⟨y_67, m_67, e_67, h⟩ := bdE h
      refine L_P_passHour_67 S N p hp N 0 0 m_60 _ _ e_67 ?_
      refine j_aload_n S D_P_passHour_102 0 rfl rfl ?_
      refine j_dup S D_P_passHour_103 rfl ?_
      refine j_getI S D_P_passHour_104 fl_R0_53 (sh_pic hp) rfl ?_
      refine j_iconst S D_P_passHour_107 ci_1 ?_
      refine j_iadd S D_P_passHour_108 ?_
      obtain ⟨m_109, hm_109, h⟩ := ltE h
      refine j_putI S D_P_passHour_109 fp_R0_53 (sh_pic hp) rfl ?_
      refine j_mem hm_109 ?_
      refine j_iload_n S D_P_passHour_112 1 rfl rfl ?_
      exact rtM hR h _ _ D_P_passHour_113

def y_P_passHours : MethodName := ⟨"SandPicture$Picture", "passHours", "(I)I"⟩
theorem D_P_passHours_0 : decode prog_3_method_8_code 0 = .ok (.iconst 0, 1) ∧ 0 + 1 = 1 := by decide +kernel
theorem D_P_passHours_1 : decode prog_3_method_8_code 1 = .ok (.istore_n 2, 1) ∧ 1 + 1 = 2 := by decide +kernel
theorem D_P_passHours_2 : decode prog_3_method_8_code 2 = .ok (.iconst 0, 1) ∧ 2 + 1 = 3 := by decide +kernel
theorem D_P_passHours_3 : decode prog_3_method_8_code 3 = .ok (.istore_n 3, 1) ∧ 3 + 1 = 4 := by decide +kernel
theorem D_P_passHours_4 : decode prog_3_method_8_code 4 = .ok (.iload_n 3, 1) ∧ 4 + 1 = 5 := by decide +kernel
theorem D_P_passHours_5 : decode prog_3_method_8_code 5 = .ok (.iload_n 1, 1) ∧ 5 + 1 = 6 := by decide +kernel
theorem D_P_passHours_6 : decode prog_3_method_8_code 6 = .ok (.if_icmp .ge 16, 3) ∧ ((6 : Nat) : Int) + 16 = ((22 : Nat) : Int) ∧ 6 + 3 = 9 := by decide +kernel
theorem D_P_passHours_9 : decode prog_3_method_8_code 9 = .ok (.iload_n 2, 1) ∧ 9 + 1 = 10 := by decide +kernel
theorem D_P_passHours_10 : decode prog_3_method_8_code 10 = .ok (.aload_n 0, 1) ∧ 10 + 1 = 11 := by decide +kernel
theorem D_P_passHours_11 : decode prog_3_method_8_code 11 = .ok (.invokevirtual 112, 3) ∧ 11 + 3 = 14 := by decide +kernel
theorem D_P_passHours_14 : decode prog_3_method_8_code 14 = .ok (.iadd, 1) ∧ 14 + 1 = 15 := by decide +kernel
theorem D_P_passHours_15 : decode prog_3_method_8_code 15 = .ok (.istore_n 2, 1) ∧ 15 + 1 = 16 := by decide +kernel
theorem D_P_passHours_16 : decode prog_3_method_8_code 16 = .ok (.iinc 3 1, 3) ∧ 16 + 3 = 19 := by decide +kernel
theorem D_P_passHours_19 : decode prog_3_method_8_code 19 = .ok (.goto (-15), 3) ∧ ((19 : Nat) : Int) + (-15) = ((4 : Nat) : Int) := by decide +kernel
theorem D_P_passHours_22 : decode prog_3_method_8_code 22 = .ok (.iload_n 2, 1) ∧ 22 + 1 = 23 := by decide +kernel
theorem D_P_passHours_23 : decode prog_3_method_8_code 23 = .ok (.ireturn, 1) := by decide +kernel
def f_P_passHours_L4 (N : Nat) (p : Nat) : Nat → Int32 → Int32 → Int32 → Mm → Option ((Int32 × Int32) × Mm)
  | 0, _, _, _, _ => none
  | n + 1, b1, b2, b3, mem => if b1 ≤ b3 then some ((b2, b3), mem) else bd (f_P_passHour N p mem) fun r_11 m_11 => lt (b2 + r_11) fun x_15 => f_P_passHours_L4 N p n b1 x_15 (b3 + 1) m_11
def f_P_passHours (N : Nat) (p : Nat) (a1 : Int32) (mem : Mm) : Option (Int32 × Mm) := bd (f_P_passHours_L4 N p N a1 0 0 mem) fun y_4 m_4 => some (y_4.1, m_4)
theorem L_P_passHours_4 {X : Cx} {E : En} (S : Std X E prog_3_method_8_code R0 4 6) (N : Nat) (p : Nat) (hp : isPic p) : ∀ (n : Nat) (b1 : Int32) (b2 : Int32) (b3 : Int32) (mem : Mm) (z : Int32 × Int32) (m2 : Mm), f_P_passHours_L4 N p n b1 b2 b3 mem = some (z, m2) → J X E 4 22 [(0, .ref (eb E + p)), (1, .int b1), (2, .int z.1), (3, .int z.2)] [] SH m2 → J X E 4 4 [(0, .ref (eb E + p)), (1, .int b1), (2, .int b2), (3, .int b3)] [] SH mem := by
  intro n
  induction n with
  | zero =>
    intro b1 b2 b3 mem z m2 h hk; cases h
  | succ n ih =>
    intro b1 b2 b3 mem z m2 h hk
    rw [f_P_passHours_L4] at h
    refine j_iload_n S D_P_passHours_4 3 rfl rfl ?_
    refine j_iload_n S D_P_passHours_5 1 rfl rfl ?_
    refine j_icmp_ge S D_P_passHours_6 (fun c_6 => ?_) (fun c_6 => ?_)
    · have h := ifT c_6 h
      cases h
      exact j_locals [0, 1, 2, 3] rfl hk
    · have h := ifF c_6 h
      refine j_iload_n S D_P_passHours_9 2 rfl rfl ?_
      refine j_aload_n S D_P_passHours_10 0 rfl rfl ?_
      obtain ⟨r_11, m_11, e_11, h⟩ := bdE h
      refine j_callVI (As := []) S D_P_passHours_11 mv_R0_112 (c_P_passHour (cxL X) E N p hp e_11) (by decide) (sh_pic hp) rfl rfl rfl rfl (Nat.le_of_ble_eq_true rfl) ?_
      refine j_iadd S D_P_passHours_14 ?_
      obtain ⟨x_15, hx_15, h⟩ := ltE h
      refine j_nm hx_15 ?_
      refine j_istore_n S D_P_passHours_15 (lv := [(2, .int x_15), (0, .ref (eb E + p)), (1, .int b1), (3, .int b3)]) rfl ⟨rfl, (Nat.le_of_ble_eq_true rfl)⟩ ?_
      refine j_iinc S D_P_passHours_16 3 rfl (congrArg (fun z => b3 + z) ci_1) (lv := [(3, .int (b3 + 1)), (2, .int x_15), (0, .ref (eb E + p)), (1, .int b1)]) rfl (Nat.le_of_ble_eq_true rfl) ?_
      refine j_goto S D_P_passHours_19 ?_
      refine j_locals [2, 3, 1, 0] rfl (ih b1 x_15 (b3 + 1) m_11 _ _ h hk)
theorem c_P_passHours (l : Launch) (E : En) (N : Nat) (p : Nat) (hp : isPic p) (a1 : Int32) {mem : Mm} {r : Int32} {m2 : Mm} (h : f_P_passHours N p a1 mem = some (r, m2)) : CtI l E 6 y_P_passHours prog_3_method_8_code 4 (some .int) [.ref (eb E + p), .int a1] SH mem r m2 := by
  refine mk_CtI ⟨by decide, (Nat.le_of_ble_eq_true rfl)⟩ (fun X S hl hR => ?_)
  have S : Std X E prog_3_method_8_code R0 4 6 := S
  show J X E 4 0 [(0, .ref (eb E + p)), (1, .int a1)] [] SH mem
  unfold f_P_passHours at h
  refine j_iconst S D_P_passHours_0 ci_0 ?_
  refine j_istore_n S D_P_passHours_1 (lv := [(2, .int 0), (0, .ref (eb E + p)), (1, .int a1)]) rfl ⟨rfl, (Nat.le_of_ble_eq_true rfl)⟩ ?_
  refine j_iconst S D_P_passHours_2 ci_0 ?_
  refine j_istore_n S D_P_passHours_3 (lv := [(3, .int 0), (2, .int 0), (0, .ref (eb E + p)), (1, .int a1)]) rfl ⟨rfl, (Nat.le_of_ble_eq_true rfl)⟩ ?_
  refine j_locals [2, 3, 1, 0] rfl ?_
  obtain ⟨y_4, m_4, e_4, h⟩ := bdE h
  refine L_P_passHours_4 S N p hp N a1 0 0 mem _ _ e_4 ?_
  refine j_iload_n S D_P_passHours_22 2 rfl rfl ?_
  exact rtM hR h _ _ D_P_passHours_23
