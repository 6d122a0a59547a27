def y_M_sandAll : MethodName := ⟨"SandPictureModel", "sandAll", "()I"⟩
theorem D_M_sandAll_0 : decode prog_9_method_82_code 0 = .ok (.aload_n 0, 1) ∧ 0 + 1 = 1 := by decide +kernel
theorem D_M_sandAll_1 : decode prog_9_method_82_code 1 = .ok (.getfield 9, 3) ∧ 1 + 3 = 4 := by decide +kernel
theorem D_M_sandAll_4 : decode prog_9_method_82_code 4 = .ok (.bipush 7, 2) ∧ 4 + 2 = 6 := by decide +kernel
theorem D_M_sandAll_6 : decode prog_9_method_82_code 6 = .ok (.iaload, 1) ∧ 6 + 1 = 7 := by decide +kernel
theorem D_M_sandAll_7 : decode prog_9_method_82_code 7 = .ok (.aload_n 0, 1) ∧ 7 + 1 = 8 := by decide +kernel
theorem D_M_sandAll_8 : decode prog_9_method_82_code 8 = .ok (.getfield 9, 3) ∧ 8 + 3 = 11 := by decide +kernel
theorem D_M_sandAll_11 : decode prog_9_method_82_code 11 = .ok (.bipush 8, 2) ∧ 11 + 2 = 13 := by decide +kernel
theorem D_M_sandAll_13 : decode prog_9_method_82_code 13 = .ok (.iaload, 1) ∧ 13 + 1 = 14 := by decide +kernel
theorem D_M_sandAll_14 : decode prog_9_method_82_code 14 = .ok (.iadd, 1) ∧ 14 + 1 = 15 := by decide +kernel
theorem D_M_sandAll_15 : decode prog_9_method_82_code 15 = .ok (.aload_n 0, 1) ∧ 15 + 1 = 16 := by decide +kernel
theorem D_M_sandAll_16 : decode prog_9_method_82_code 16 = .ok (.getfield 9, 3) ∧ 16 + 3 = 19 := by decide +kernel
theorem D_M_sandAll_19 : decode prog_9_method_82_code 19 = .ok (.bipush 9, 2) ∧ 19 + 2 = 21 := by decide +kernel
theorem D_M_sandAll_21 : decode prog_9_method_82_code 21 = .ok (.iaload, 1) ∧ 21 + 1 = 22 := by decide +kernel
theorem D_M_sandAll_22 : decode prog_9_method_82_code 22 = .ok (.iadd, 1) ∧ 22 + 1 = 23 := by decide +kernel
theorem D_M_sandAll_23 : decode prog_9_method_82_code 23 = .ok (.ireturn, 1) := by decide +kernel
def f_M_sandAll  (mem : Mm) : Option (Int32) := some (((mem 92 (ix 7)) + (mem 92 (ix 8))) + (mem 92 (ix 9)))
theorem c_M_sandAll (l : Launch) (E : En)  {mem : Mm} {r : Int32} (h : f_M_sandAll mem = some r) : CtI l E 0 y_M_sandAll prog_9_method_82_code 1 (some .int) [.ref (eb E + 91)] SH mem r mem := by
  refine mk_CtI ⟨by decide, (Nat.le_of_ble_eq_true rfl)⟩ (fun X S hl hR => ?_)
  have S : Std X E prog_9_method_82_code R6 1 0 := S
  show J X E 1 0 [(0, .ref (eb E + 91))] [] SH mem
  unfold f_M_sandAll at h
  refine j_aload_n S D_M_sandAll_0 0 rfl rfl ?_
  refine j_getR S D_M_sandAll_1 fl_R6_9 sh_Mod rfl ?_
  refine j_bipush S D_M_sandAll_4 cb_7 ?_
  refine j_iald S D_M_sandAll_6 sh_92 inbc_7_1436 ?_
  refine j_aload_n S D_M_sandAll_7 0 rfl rfl ?_
  refine j_getR S D_M_sandAll_8 fl_R6_9 sh_Mod rfl ?_
  refine j_bipush S D_M_sandAll_11 cb_8 ?_
  refine j_iald S D_M_sandAll_13 sh_92 inbc_8_1436 ?_
  refine j_iadd S D_M_sandAll_14 ?_
  refine j_aload_n S D_M_sandAll_15 0 rfl rfl ?_
  refine j_getR S D_M_sandAll_16 fl_R6_9 sh_Mod rfl ?_
  refine j_bipush S D_M_sandAll_19 cb_9 ?_
  refine j_iald S D_M_sandAll_21 sh_92 inbc_9_1436 ?_
  refine j_iadd S D_M_sandAll_22 ?_
  exact rtI hR h _ _ D_M_sandAll_23

def y_M_check : MethodName := ⟨"SandPictureModel", "check", "(I)I"⟩
theorem D_M_check_0 : decode prog_9_method_83_code 0 = .ok (.aload_n 0, 1) ∧ 0 + 1 = 1 := by decide +kernel
theorem D_M_check_1 : decode prog_9_method_83_code 1 = .ok (.getfield 251, 3) ∧ 1 + 3 = 4 := by decide +kernel
theorem D_M_check_4 : decode prog_9_method_83_code 4 = .ok (.istore_n 2, 1) ∧ 4 + 1 = 5 := by decide +kernel
theorem D_M_check_5 : decode prog_9_method_83_code 5 = .ok (.aload_n 0, 1) ∧ 5 + 1 = 6 := by decide +kernel
theorem D_M_check_6 : decode prog_9_method_83_code 6 = .ok (.iconst 0, 1) ∧ 6 + 1 = 7 := by decide +kernel
theorem D_M_check_7 : decode prog_9_method_83_code 7 = .ok (.putfield 251, 3) ∧ 7 + 3 = 10 := by decide +kernel
theorem D_M_check_10 : decode prog_9_method_83_code 10 = .ok (.iload_n 1, 1) ∧ 10 + 1 = 11 := by decide +kernel
theorem D_M_check_11 : decode prog_9_method_83_code 11 = .ok (.iconst 1, 1) ∧ 11 + 1 = 12 := by decide +kernel
theorem D_M_check_12 : decode prog_9_method_83_code 12 = .ok (.bipush 30, 2) ∧ 12 + 2 = 14 := by decide +kernel
theorem D_M_check_14 : decode prog_9_method_83_code 14 = .ok (.invokestatic 79, 3) ∧ 14 + 3 = 17 := by decide +kernel
theorem D_M_check_17 : decode prog_9_method_83_code 17 = .ok (.ifCond .ne 6, 3) ∧ ((17 : Nat) : Int) + 6 = ((23 : Nat) : Int) ∧ 17 + 3 = 20 := by decide +kernel
theorem D_M_check_23 : decode prog_9_method_83_code 23 = .ok (.aload_n 0, 1) ∧ 23 + 1 = 24 := by decide +kernel
theorem D_M_check_24 : decode prog_9_method_83_code 24 = .ok (.getfield 254, 3) ∧ 24 + 3 = 27 := by decide +kernel
theorem D_M_check_27 : decode prog_9_method_83_code 27 = .ok (.ifCond .ne 6, 3) ∧ ((27 : Nat) : Int) + 6 = ((33 : Nat) : Int) ∧ 27 + 3 = 30 := by decide +kernel
theorem D_M_check_33 : decode prog_9_method_83_code 33 = .ok (.aload_n 0, 1) ∧ 33 + 1 = 34 := by decide +kernel
theorem D_M_check_34 : decode prog_9_method_83_code 34 = .ok (.getfield 9, 3) ∧ 34 + 3 = 37 := by decide +kernel
theorem D_M_check_37 : decode prog_9_method_83_code 37 = .ok (.aload_n 0, 1) ∧ 37 + 1 = 38 := by decide +kernel
theorem D_M_check_38 : decode prog_9_method_83_code 38 = .ok (.getfield 16, 3) ∧ 38 + 3 = 41 := by decide +kernel
theorem D_M_check_41 : decode prog_9_method_83_code 41 = .ok (.invokestatic 258, 3) ∧ 41 + 3 = 44 := by decide +kernel
theorem D_M_check_44 : decode prog_9_method_83_code 44 = .ok (.aload_n 0, 1) ∧ 44 + 1 = 45 := by decide +kernel
theorem D_M_check_45 : decode prog_9_method_83_code 45 = .ok (.getfield 13, 3) ∧ 45 + 3 = 48 := by decide +kernel
theorem D_M_check_48 : decode prog_9_method_83_code 48 = .ok (.aload_n 0, 1) ∧ 48 + 1 = 49 := by decide +kernel
theorem D_M_check_49 : decode prog_9_method_83_code 49 = .ok (.getfield 9, 3) ∧ 49 + 3 = 52 := by decide +kernel
theorem D_M_check_52 : decode prog_9_method_83_code 52 = .ok (.invokestatic 258, 3) ∧ 52 + 3 = 55 := by decide +kernel
theorem D_M_check_55 : decode prog_9_method_83_code 55 = .ok (.iconst 2, 1) ∧ 55 + 1 = 56 := by decide +kernel
theorem D_M_check_56 : decode prog_9_method_83_code 56 = .ok (.sipush 9999, 3) ∧ 56 + 3 = 59 := by decide +kernel
theorem D_M_check_59 : decode prog_9_method_83_code 59 = .ok (.aload_n 0, 1) ∧ 59 + 1 = 60 := by decide +kernel
theorem D_M_check_60 : decode prog_9_method_83_code 60 = .ok (.getfield 9, 3) ∧ 60 + 3 = 63 := by decide +kernel
theorem D_M_check_63 : decode prog_9_method_83_code 63 = .ok (.iconst 2, 1) ∧ 63 + 1 = 64 := by decide +kernel
theorem D_M_check_64 : decode prog_9_method_83_code 64 = .ok (.iaload, 1) ∧ 64 + 1 = 65 := by decide +kernel
theorem D_M_check_65 : decode prog_9_method_83_code 65 = .ok (.isub, 1) ∧ 65 + 1 = 66 := by decide +kernel
theorem D_M_check_66 : decode prog_9_method_83_code 66 = .ok (.iconst 0, 1) ∧ 66 + 1 = 67 := by decide +kernel
theorem D_M_check_67 : decode prog_9_method_83_code 67 = .ok (.iload_n 1, 1) ∧ 67 + 1 = 68 := by decide +kernel
theorem D_M_check_68 : decode prog_9_method_83_code 68 = .ok (.invokestatic 113, 3) ∧ 68 + 3 = 71 := by decide +kernel
theorem D_M_check_71 : decode prog_9_method_83_code 71 = .ok (.imul, 1) ∧ 71 + 1 = 72 := by decide +kernel
theorem D_M_check_72 : decode prog_9_method_83_code 72 = .ok (.istore_n 3, 1) ∧ 72 + 1 = 73 := by decide +kernel
theorem D_M_check_73 : decode prog_9_method_83_code 73 = .ok (.iconst 0, 1) ∧ 73 + 1 = 74 := by decide +kernel
theorem D_M_check_74 : decode prog_9_method_83_code 74 = .ok (.istore 4, 2) ∧ 74 + 2 = 76 := by decide +kernel
theorem D_M_check_76 : decode prog_9_method_83_code 76 = .ok (.iconst 0, 1) ∧ 76 + 1 = 77 := by decide +kernel
theorem D_M_check_77 : decode prog_9_method_83_code 77 = .ok (.istore 5, 2) ∧ 77 + 2 = 79 := by decide +kernel
theorem D_M_check_79 : decode prog_9_method_83_code 79 = .ok (.iconst 2, 1) ∧ 79 + 1 = 80 := by decide +kernel
theorem D_M_check_80 : decode prog_9_method_83_code 80 = .ok (.iload 5, 2) ∧ 80 + 2 = 82 := by decide +kernel
theorem D_M_check_82 : decode prog_9_method_83_code 82 = .ok (.imul, 1) ∧ 82 + 1 = 83 := by decide +kernel
theorem D_M_check_83 : decode prog_9_method_83_code 83 = .ok (.iload_n 3, 1) ∧ 83 + 1 = 84 := by decide +kernel
theorem D_M_check_84 : decode prog_9_method_83_code 84 = .ok (.if_icmp .ge 96, 3) ∧ ((84 : Nat) : Int) + 96 = ((180 : Nat) : Int) ∧ 84 + 3 = 87 := by decide +kernel
theorem D_M_check_87 : decode prog_9_method_83_code 87 = .ok (.iload 4, 2) ∧ 87 + 2 = 89 := by decide +kernel
theorem D_M_check_89 : decode prog_9_method_83_code 89 = .ok (.iconst 2, 1) ∧ 89 + 1 = 90 := by decide +kernel
theorem D_M_check_90 : decode prog_9_method_83_code 90 = .ok (.iload 5, 2) ∧ 90 + 2 = 92 := by decide +kernel
theorem D_M_check_92 : decode prog_9_method_83_code 92 = .ok (.imul, 1) ∧ 92 + 1 = 93 := by decide +kernel
theorem D_M_check_93 : decode prog_9_method_83_code 93 = .ok (.if_icmp .ne 87, 3) ∧ ((93 : Nat) : Int) + 87 = ((180 : Nat) : Int) ∧ 93 + 3 = 96 := by decide +kernel
theorem D_M_check_96 : decode prog_9_method_83_code 96 = .ok (.aload_n 0, 1) ∧ 96 + 1 = 97 := by decide +kernel
theorem D_M_check_97 : decode prog_9_method_83_code 97 = .ok (.invokevirtual 153, 3) ∧ 97 + 3 = 100 := by decide +kernel
theorem D_M_check_100 : decode prog_9_method_83_code 100 = .ok (.istore 6, 2) ∧ 100 + 2 = 102 := by decide +kernel
theorem D_M_check_102 : decode prog_9_method_83_code 102 = .ok (.iload 4, 2) ∧ 102 + 2 = 104 := by decide +kernel
theorem D_M_check_104 : decode prog_9_method_83_code 104 = .ok (.iload 4, 2) ∧ 104 + 2 = 106 := by decide +kernel
theorem D_M_check_106 : decode prog_9_method_83_code 106 = .ok (.iload_n 2, 1) ∧ 106 + 1 = 107 := by decide +kernel
theorem D_M_check_107 : decode prog_9_method_83_code 107 = .ok (.if_icmp .ge 22, 3) ∧ ((107 : Nat) : Int) + 22 = ((129 : Nat) : Int) ∧ 107 + 3 = 110 := by decide +kernel
theorem D_M_check_129 : decode prog_9_method_83_code 129 = .ok (.iconst 0, 1) ∧ 129 + 1 = 130 := by decide +kernel
theorem D_M_check_130 : decode prog_9_method_83_code 130 = .ok (.iadd, 1) ∧ 130 + 1 = 131 := by decide +kernel
theorem D_M_check_131 : decode prog_9_method_83_code 131 = .ok (.istore 4, 2) ∧ 131 + 2 = 133 := by decide +kernel
theorem D_M_check_133 : decode prog_9_method_83_code 133 = .ok (.iload 4, 2) ∧ 133 + 2 = 135 := by decide +kernel
theorem D_M_check_135 : decode prog_9_method_83_code 135 = .ok (.iload 4, 2) ∧ 135 + 2 = 137 := by decide +kernel
theorem D_M_check_137 : decode prog_9_method_83_code 137 = .ok (.iconst 2, 1) ∧ 137 + 1 = 138 := by decide +kernel
theorem D_M_check_138 : decode prog_9_method_83_code 138 = .ok (.iload 5, 2) ∧ 138 + 2 = 140 := by decide +kernel
theorem D_M_check_140 : decode prog_9_method_83_code 140 = .ok (.imul, 1) ∧ 140 + 1 = 141 := by decide +kernel
theorem D_M_check_141 : decode prog_9_method_83_code 141 = .ok (.iconst 1, 1) ∧ 141 + 1 = 142 := by decide +kernel
theorem D_M_check_142 : decode prog_9_method_83_code 142 = .ok (.iadd, 1) ∧ 142 + 1 = 143 := by decide +kernel
theorem D_M_check_143 : decode prog_9_method_83_code 143 = .ok (.if_icmp .ne 27, 3) ∧ ((143 : Nat) : Int) + 27 = ((170 : Nat) : Int) ∧ 143 + 3 = 146 := by decide +kernel
theorem D_M_check_170 : decode prog_9_method_83_code 170 = .ok (.iconst 0, 1) ∧ 170 + 1 = 171 := by decide +kernel
theorem D_M_check_171 : decode prog_9_method_83_code 171 = .ok (.iadd, 1) ∧ 171 + 1 = 172 := by decide +kernel
theorem D_M_check_172 : decode prog_9_method_83_code 172 = .ok (.istore 4, 2) ∧ 172 + 2 = 174 := by decide +kernel
theorem D_M_check_174 : decode prog_9_method_83_code 174 = .ok (.iinc 5 1, 3) ∧ 174 + 3 = 177 := by decide +kernel
theorem D_M_check_177 : decode prog_9_method_83_code 177 = .ok (.goto (-98), 3) ∧ ((177 : Nat) : Int) + (-98) = ((79 : Nat) : Int) := by decide +kernel
theorem D_M_check_146 : decode prog_9_method_83_code 146 = .ok (.iload 4, 2) ∧ 146 + 2 = 148 := by decide +kernel
theorem D_M_check_148 : decode prog_9_method_83_code 148 = .ok (.iload_n 2, 1) ∧ 148 + 1 = 149 := by decide +kernel
theorem D_M_check_149 : decode prog_9_method_83_code 149 = .ok (.if_icmp .ge 21, 3) ∧ ((149 : Nat) : Int) + 21 = ((170 : Nat) : Int) ∧ 149 + 3 = 152 := by decide +kernel
theorem D_M_check_152 : decode prog_9_method_83_code 152 = .ok (.aload_n 0, 1) ∧ 152 + 1 = 153 := by decide +kernel
theorem D_M_check_153 : decode prog_9_method_83_code 153 = .ok (.getfield 76, 3) ∧ 153 + 3 = 156 := by decide +kernel
theorem D_M_check_156 : decode prog_9_method_83_code 156 = .ok (.iload 4, 2) ∧ 156 + 2 = 158 := by decide +kernel
theorem D_M_check_158 : decode prog_9_method_83_code 158 = .ok (.iaload, 1) ∧ 158 + 1 = 159 := by decide +kernel
theorem D_M_check_159 : decode prog_9_method_83_code 159 = .ok (.aload_n 0, 1) ∧ 159 + 1 = 160 := by decide +kernel
theorem D_M_check_160 : decode prog_9_method_83_code 160 = .ok (.invokevirtual 262, 3) ∧ 160 + 3 = 163 := by decide +kernel
theorem D_M_check_166 : decode prog_9_method_83_code 166 = .ok (.iconst 1, 1) ∧ 166 + 1 = 167 := by decide +kernel
theorem D_M_check_167 : decode prog_9_method_83_code 167 = .ok (.goto 4, 3) ∧ ((167 : Nat) : Int) + 4 = ((171 : Nat) : Int) := by decide +kernel
theorem D_M_check_163 : decode prog_9_method_83_code 163 = .ok (.if_icmp .ne 7, 3) ∧ ((163 : Nat) : Int) + 7 = ((170 : Nat) : Int) ∧ 163 + 3 = 166 := by decide +kernel
theorem D_M_check_110 : decode prog_9_method_83_code 110 = .ok (.aload_n 0, 1) ∧ 110 + 1 = 111 := by decide +kernel
theorem D_M_check_111 : decode prog_9_method_83_code 111 = .ok (.getfield 76, 3) ∧ 111 + 3 = 114 := by decide +kernel
theorem D_M_check_114 : decode prog_9_method_83_code 114 = .ok (.iload 4, 2) ∧ 114 + 2 = 116 := by decide +kernel
theorem D_M_check_116 : decode prog_9_method_83_code 116 = .ok (.iaload, 1) ∧ 116 + 1 = 117 := by decide +kernel
theorem D_M_check_117 : decode prog_9_method_83_code 117 = .ok (.aload_n 0, 1) ∧ 117 + 1 = 118 := by decide +kernel
theorem D_M_check_118 : decode prog_9_method_83_code 118 = .ok (.iconst 1, 1) ∧ 118 + 1 = 119 := by decide +kernel
theorem D_M_check_119 : decode prog_9_method_83_code 119 = .ok (.invokevirtual 159, 3) ∧ 119 + 3 = 122 := by decide +kernel
theorem D_M_check_125 : decode prog_9_method_83_code 125 = .ok (.iconst 1, 1) ∧ 125 + 1 = 126 := by decide +kernel
theorem D_M_check_126 : decode prog_9_method_83_code 126 = .ok (.goto 4, 3) ∧ ((126 : Nat) : Int) + 4 = ((130 : Nat) : Int) := by decide +kernel
theorem D_M_check_122 : decode prog_9_method_83_code 122 = .ok (.if_icmp .ne 7, 3) ∧ ((122 : Nat) : Int) + 7 = ((129 : Nat) : Int) ∧ 122 + 3 = 125 := by decide +kernel
theorem D_M_check_180 : decode prog_9_method_83_code 180 = .ok (.aload_n 0, 1) ∧ 180 + 1 = 181 := by decide +kernel
theorem D_M_check_181 : decode prog_9_method_83_code 181 = .ok (.getfield 16, 3) ∧ 181 + 3 = 184 := by decide +kernel
theorem D_M_check_184 : decode prog_9_method_83_code 184 = .ok (.aload_n 0, 1) ∧ 184 + 1 = 185 := by decide +kernel
theorem D_M_check_185 : decode prog_9_method_83_code 185 = .ok (.getfield 9, 3) ∧ 185 + 3 = 188 := by decide +kernel
theorem D_M_check_188 : decode prog_9_method_83_code 188 = .ok (.invokestatic 258, 3) ∧ 188 + 3 = 191 := by decide +kernel
theorem D_M_check_191 : decode prog_9_method_83_code 191 = .ok (.iload 4, 2) ∧ 191 + 2 = 193 := by decide +kernel
theorem D_M_check_193 : decode prog_9_method_83_code 193 = .ok (.iload_n 2, 1) ∧ 193 + 1 = 194 := by decide +kernel
theorem D_M_check_207 : decode prog_9_method_83_code 207 = .ok (.iconst 1, 1) ∧ 207 + 1 = 208 := by decide +kernel
theorem D_M_check_208 : decode prog_9_method_83_code 208 = .ok (.iload 4, 2) ∧ 208 + 2 = 210 := by decide +kernel
theorem D_M_check_210 : decode prog_9_method_83_code 210 = .ok (.iadd, 1) ∧ 210 + 1 = 211 := by decide +kernel
theorem D_M_check_197 : decode prog_9_method_83_code 197 = .ok (.iload 4, 2) ∧ 197 + 2 = 199 := by decide +kernel
theorem D_M_check_199 : decode prog_9_method_83_code 199 = .ok (.iload_n 3, 1) ∧ 199 + 1 = 200 := by decide +kernel
theorem D_M_check_203 : decode prog_9_method_83_code 203 = .ok (.iconst 0, 1) ∧ 203 + 1 = 204 := by decide +kernel
theorem D_M_check_204 : decode prog_9_method_83_code 204 = .ok (.goto 7, 3) ∧ ((204 : Nat) : Int) + 7 = ((211 : Nat) : Int) := by decide +kernel
theorem D_M_check_200 : decode prog_9_method_83_code 200 = .ok (.if_icmp .ne 7, 3) ∧ ((200 : Nat) : Int) + 7 = ((207 : Nat) : Int) ∧ 200 + 3 = 203 := by decide +kernel
theorem D_M_check_194 : decode prog_9_method_83_code 194 = .ok (.if_icmp .ne 13, 3) ∧ ((194 : Nat) : Int) + 13 = ((207 : Nat) : Int) ∧ 194 + 3 = 197 := by decide +kernel
theorem D_M_check_211 : decode prog_9_method_83_code 211 = .ok (.ireturn, 1) := by decide +kernel
theorem D_M_check_30 : decode prog_9_method_83_code 30 = .ok (.ldc 250, 2) ∧ 30 + 2 = 32 := by decide +kernel
theorem D_M_check_32 : decode prog_9_method_83_code 32 = .ok (.ireturn, 1) := by decide +kernel
theorem D_M_check_20 : decode prog_9_method_83_code 20 = .ok (.ldc 87, 2) ∧ 20 + 2 = 22 := by decide +kernel
theorem D_M_check_22 : decode prog_9_method_83_code 22 = .ok (.ireturn, 1) := by decide +kernel
def f_M_check_L79 (N : Nat)  : Nat → Int32 → Int32 → Int32 → Int32 → Int32 → Mm → Option ((Int32 × Int32) × Mm)
  | 0, _, _, _, _, _, _ => none
  | n + 1, b1, b2, b3, b4, b5, mem => if b3 ≤ 2 * b5 then some ((b4, b5), mem) else if b4 = 2 * b5 then bd (f_M_hour N mem) fun r_97 m_97 => if b2 ≤ b4 then lt (b4 + 0) fun x_131 => if x_131 = (2 * b5) + 1 then if b2 ≤ x_131 then lt (x_131 + 0) fun x_172 => f_M_check_L79 N n b1 b2 b3 x_172 (b5 + 1) m_97 else if inb x_131 60 = true then bp (f_M_sandAll m_97) fun r_160 => lt (x_131 + (if m_97 112 (ix x_131) = r_160 then (1 : Int32) else 0)) fun x_172 => f_M_check_L79 N n b1 b2 b3 x_172 (b5 + 1) m_97 else none else lt (x_131 + 0) fun x_172 => f_M_check_L79 N n b1 b2 b3 x_172 (b5 + 1) m_97 else if inb b4 60 = true then bp (f_M_sumOf N 1 m_97) fun r_119 => lt (b4 + (if m_97 112 (ix b4) = r_119 then (1 : Int32) else 0)) fun x_131 => if x_131 = (2 * b5) + 1 then if b2 ≤ x_131 then lt (x_131 + 0) fun x_172 => f_M_check_L79 N n b1 b2 b3 x_172 (b5 + 1) m_97 else if inb x_131 60 = true then bp (f_M_sandAll m_97) fun r_160 => lt (x_131 + (if m_97 112 (ix x_131) = r_160 then (1 : Int32) else 0)) fun x_172 => f_M_check_L79 N n b1 b2 b3 x_172 (b5 + 1) m_97 else none else lt (x_131 + 0) fun x_172 => f_M_check_L79 N n b1 b2 b3 x_172 (b5 + 1) m_97 else none else some ((b4, b5), mem)
def f_M_check (N : Nat) (a1 : Int32) (mem : Mm) : Option (Int32 × Mm) := lt (mem 91 33) fun x_4 => lt (mst mem 91 33 0) fun m_7 => bp (f_M_in a1 1 30) fun r_14 => if r_14 = 0 then some ((-1000000001), m_7) else if m_7 91 3 = 0 then some ((-1000000002), m_7) else bp (f_M_copyAll N 92 94 m_7) fun m_41 => bp (f_M_copyAll N 93 92 m_41) fun m_52 => bp (f_M_within (9999 - (m_52 92 (ix 2))) 0 a1) fun r_68 => lt (2 * r_68) fun x_72 => bd (f_M_check_L79 N N a1 x_4 x_72 0 0 m_52) fun y_79 m_79 => bp (f_M_copyAll N 94 92 m_79) fun m_188 => some (if y_79.1 = x_4 then if y_79.1 = x_72 then (0 : Int32) else 1 + y_79.1 else 1 + y_79.1, m_188)
theorem L_M_check_79 {X : Cx} {E : En} (S : Std X E prog_9_method_83_code R6 7 5) (N : Nat)  : ∀ (n : Nat) (b1 : Int32) (b2 : Int32) (b3 : Int32) (b4 : Int32) (b5 : Int32) (mem : Mm) (z : Int32 × Int32) (m2 : Mm), f_M_check_L79 N n b1 b2 b3 b4 b5 mem = some (z, m2) → J X E 7 180 [(0, .ref (eb E + 91)), (1, .int b1), (2, .int b2), (3, .int b3), (4, .int z.1), (5, .int z.2)] [] SH m2 → J X E 7 79 [(0, .ref (eb E + 91)), (1, .int b1), (2, .int b2), (3, .int b3), (4, .int b4), (5, .int b5)] [] SH mem := by
  intro n
  induction n with
  | zero =>
    intro b1 b2 b3 b4 b5 mem z m2 h hk; cases h
  | succ n ih =>
    intro b1 b2 b3 b4 b5 mem z m2 h hk
    rw [f_M_check_L79] at h
    refine j_iconst S D_M_check_79 ci_2 ?_
    refine j_iload S D_M_check_80 5 rfl ?_
    refine j_imul S D_M_check_82 ?_
    refine j_iload_n S D_M_check_83 3 rfl rfl ?_
    refine j_icmp_ge S D_M_check_84 (fun c_84 => ?_) (fun c_84 => ?_)
    · have h := ifT c_84 h
      cases h
      exact j_locals [0, 1, 2, 3, 4, 5] rfl hk
    · have h := ifF c_84 h
      refine j_iload S D_M_check_87 4 rfl ?_
      refine j_iconst S D_M_check_89 ci_2 ?_
      refine j_iload S D_M_check_90 5 rfl ?_
      refine j_imul S D_M_check_92 ?_
      refine j_icmp_ne S D_M_check_93 (fun c_93 => ?_) (fun c_93 => ?_)
      · have h := ifF c_93 h
        cases h
        exact j_locals [0, 1, 2, 3, 4, 5] rfl hk
      · have h := ifT c_93 h
        refine j_aload_n S D_M_check_96 0 rfl rfl ?_
        obtain ⟨r_97, m_97, e_97, h⟩ := bdE h
        refine j_callVI (As := []) S D_M_check_97 mv_R6_153 (c_M_hour (cxL X) E N e_97) (by decide) sh_Mod rfl rfl rfl rfl (Nat.le_of_ble_eq_true rfl) ?_
        refine j_istore S D_M_check_100 (lv := [(6, .int r_97), (0, .ref (eb E + 91)), (1, .int b1), (2, .int b2), (3, .int b3), (4, .int b4), (5, .int b5)]) rfl (Nat.le_of_ble_eq_true rfl) ?_
        refine j_iload S D_M_check_102 5 rfl ?_
        refine j_iload S D_M_check_104 5 rfl ?_
        refine j_iload_n S D_M_check_106 3 rfl rfl ?_
        refine j_icmp_ge S D_M_check_107 (fun c_107 => ?_) (fun c_107 => ?_)
        · have h := ifT c_107 h
          refine j_iconst S D_M_check_129 ci_0 ?_
          refine j_iadd S D_M_check_130 ?_
          obtain ⟨x_131, hx_131, h⟩ := ltE h
          refine j_nm hx_131 ?_
          refine j_istore S D_M_check_131 (lv := [(4, .int x_131), (6, .int r_97), (0, .ref (eb E + 91)), (1, .int b1), (2, .int b2), (3, .int b3), (5, .int b5)]) rfl (Nat.le_of_ble_eq_true rfl) ?_
          refine j_iload S D_M_check_133 0 rfl ?_
          refine j_iload S D_M_check_135 0 rfl ?_
          refine j_iconst S D_M_check_137 ci_2 ?_
          refine j_iload S D_M_check_138 6 rfl ?_
          refine j_imul S D_M_check_140 ?_
          refine j_iconst S D_M_check_141 ci_1 ?_
          refine j_iadd S D_M_check_142 ?_
          refine j_icmp_ne S D_M_check_143 (fun c_143 => ?_) (fun c_143 => ?_)
          · have h := ifF c_143 h
            refine j_iconst S D_M_check_170 ci_0 ?_
            refine j_iadd S D_M_check_171 ?_
            obtain ⟨x_172, hx_172, h⟩ := ltE h
            refine j_nm hx_172 ?_
            refine j_istore S D_M_check_172 (lv := [(4, .int x_172), (6, .int r_97), (0, .ref (eb E + 91)), (1, .int b1), (2, .int b2), (3, .int b3), (5, .int b5)]) rfl (Nat.le_of_ble_eq_true rfl) ?_
            refine j_iinc S D_M_check_174 6 rfl (congrArg (fun z => b5 + z) ci_1) (lv := [(5, .int (b5 + 1)), (4, .int x_172), (6, .int r_97), (0, .ref (eb E + 91)), (1, .int b1), (2, .int b2), (3, .int b3)]) rfl (Nat.le_of_ble_eq_true rfl) ?_
            refine j_goto S D_M_check_177 ?_
            refine j_locals [3, 4, 5, 6, 1, 0] rfl (ih b1 b2 b3 x_172 (b5 + 1) m_97 _ _ h hk)
          · have h := ifT c_143 h
            refine j_iload S D_M_check_146 0 rfl ?_
            refine j_iload_n S D_M_check_148 4 rfl rfl ?_
            refine j_icmp_ge S D_M_check_149 (fun c_149 => ?_) (fun c_149 => ?_)
            · have h := ifT c_149 h
              refine j_iconst S D_M_check_170 ci_0 ?_
              refine j_iadd S D_M_check_171 ?_
              obtain ⟨x_172, hx_172, h⟩ := ltE h
              refine j_nm hx_172 ?_
              refine j_istore S D_M_check_172 (lv := [(4, .int x_172), (6, .int r_97), (0, .ref (eb E + 91)), (1, .int b1), (2, .int b2), (3, .int b3), (5, .int b5)]) rfl (Nat.le_of_ble_eq_true rfl) ?_
              refine j_iinc S D_M_check_174 6 rfl (congrArg (fun z => b5 + z) ci_1) (lv := [(5, .int (b5 + 1)), (4, .int x_172), (6, .int r_97), (0, .ref (eb E + 91)), (1, .int b1), (2, .int b2), (3, .int b3)]) rfl (Nat.le_of_ble_eq_true rfl) ?_
              refine j_goto S D_M_check_177 ?_
              refine j_locals [3, 4, 5, 6, 1, 0] rfl (ih b1 b2 b3 x_172 (b5 + 1) m_97 _ _ h hk)
            · have h := ifF c_149 h
              refine j_aload_n S D_M_check_152 2 rfl rfl ?_
              refine j_getR S D_M_check_153 fl_R6_76 sh_Mod rfl ?_
              refine j_iload S D_M_check_156 0 rfl ?_
              obtain ⟨g_158, h⟩ := gdE h
              refine j_iald S D_M_check_158 sh_112 g_158 ?_
              refine j_aload_n S D_M_check_159 2 rfl rfl ?_
              obtain ⟨r_160, e_160, h⟩ := bpE h
              refine j_callVI (As := []) S D_M_check_160 mv_R6_262 (c_M_sandAll (cxL X) E e_160) (by decide) sh_Mod rfl rfl rfl rfl (Nat.le_of_ble_eq_true rfl) ?_
              refine j_dia (P := J X E 7 171 [(4, .int x_131), (6, .int r_97), (0, .ref (eb E + 91)), (1, .int b1), (2, .int b2), (3, .int b3), (5, .int b5)] [.int (if m_97 112 (ix x_131) = r_160 then (1 : Int32) else 0), .int x_131] SH m_97) (fun hj => ?_) ?_
              · refine j_icmp_ne S D_M_check_163 (fun c_163 => ?_) (fun c_163 => ?_)
                · refine j_iconst S D_M_check_170 ci_0 ?_
                  exact j_jnF hj c_163
                · refine j_iconst S D_M_check_166 ci_1 ?_
                  refine j_goto S D_M_check_167 ?_
                  exact j_jnT hj c_163
              refine j_iadd S D_M_check_171 ?_
              obtain ⟨x_172, hx_172, h⟩ := ltE h
              refine j_nm hx_172 ?_
              refine j_istore S D_M_check_172 (lv := [(4, .int x_172), (6, .int r_97), (0, .ref (eb E + 91)), (1, .int b1), (2, .int b2), (3, .int b3), (5, .int b5)]) rfl (Nat.le_of_ble_eq_true rfl) ?_
              refine j_iinc S D_M_check_174 6 rfl (congrArg (fun z => b5 + z) ci_1) (lv := [(5, .int (b5 + 1)), (4, .int x_172), (6, .int r_97), (0, .ref (eb E + 91)), (1, .int b1), (2, .int b2), (3, .int b3)]) rfl (Nat.le_of_ble_eq_true rfl) ?_
              refine j_goto S D_M_check_177 ?_
              refine j_locals [3, 4, 5, 6, 1, 0] rfl (ih b1 b2 b3 x_172 (b5 + 1) m_97 _ _ h hk)
        · have h := ifF c_107 h
          refine j_aload_n S D_M_check_110 1 rfl rfl ?_
          refine j_getR S D_M_check_111 fl_R6_76 sh_Mod rfl ?_
          refine j_iload S D_M_check_114 5 rfl ?_
          obtain ⟨g_116, h⟩ := gdE h
          refine j_iald S D_M_check_116 sh_112 g_116 ?_
          refine j_aload_n S D_M_check_117 1 rfl rfl ?_
          refine j_iconst S D_M_check_118 ci_1 ?_
          obtain ⟨r_119, e_119, h⟩ := bpE h
          refine j_callVI (As := [.int 1]) S D_M_check_119 mv_R6_159 (c_M_sumOf (cxL X) E N 1 e_119) (by decide) sh_Mod rfl rfl rfl rfl (Nat.le_of_ble_eq_true rfl) ?_
          refine j_dia (P := J X E 7 130 [(6, .int r_97), (0, .ref (eb E + 91)), (1, .int b1), (2, .int b2), (3, .int b3), (4, .int b4), (5, .int b5)] [.int (if m_97 112 (ix b4) = r_119 then (1 : Int32) else 0), .int b4] SH m_97) (fun hj => ?_) ?_
          · refine j_icmp_ne S D_M_check_122 (fun c_122 => ?_) (fun c_122 => ?_)
            · refine j_iconst S D_M_check_129 ci_0 ?_
              exact j_jnF hj c_122
            · refine j_iconst S D_M_check_125 ci_1 ?_
              refine j_goto S D_M_check_126 ?_
              exact j_jnT hj c_122
          refine j_iadd S D_M_check_130 ?_
          obtain ⟨x_131, hx_131, h⟩ := ltE h
          refine j_nm hx_131 ?_
          refine j_istore S D_M_check_131 (lv := [(4, .int x_131), (6, .int r_97), (0, .ref (eb E + 91)), (1, .int b1), (2, .int b2), (3, .int b3), (5, .int b5)]) rfl (Nat.le_of_ble_eq_true rfl) ?_
          refine j_iload S D_M_check_133 0 rfl ?_
          refine j_iload S D_M_check_135 0 rfl ?_
          refine j_iconst S D_M_check_137 ci_2 ?_
          refine j_iload S D_M_check_138 6 rfl ?_
          refine j_imul S D_M_check_140 ?_
          refine j_iconst S D_M_check_141 ci_1 ?_
          refine j_iadd S D_M_check_142 ?_
          refine j_icmp_ne S D_M_check_143 (fun c_143 => ?_) (fun c_143 => ?_)
          · have h := ifF c_143 h
            refine j_iconst S D_M_check_170 ci_0 ?_
            refine j_iadd S D_M_check_171 ?_
            obtain ⟨x_172, hx_172, h⟩ := ltE h
            refine j_nm hx_172 ?_
            refine j_istore S D_M_check_172 (lv := [(4, .int x_172), (6, .int r_97), (0, .ref (eb E + 91)), (1, .int b1), (2, .int b2), (3, .int b3), (5, .int b5)]) rfl (Nat.le_of_ble_eq_true rfl) ?_
            refine j_iinc S D_M_check_174 6 rfl (congrArg (fun z => b5 + z) ci_1) (lv := [(5, .int (b5 + 1)), (4, .int x_172), (6, .int r_97), (0, .ref (eb E + 91)), (1, .int b1), (2, .int b2), (3, .int b3)]) rfl (Nat.le_of_ble_eq_true rfl) ?_
            refine j_goto S D_M_check_177 ?_
            refine j_locals [3, 4, 5, 6, 1, 0] rfl (ih b1 b2 b3 x_172 (b5 + 1) m_97 _ _ h hk)
          · have h := ifT c_143 h
            refine j_iload S D_M_check_146 0 rfl ?_
            refine j_iload_n S D_M_check_148 4 rfl rfl ?_
            refine j_icmp_ge S D_M_check_149 (fun c_149 => ?_) (fun c_149 => ?_)
            · have h := ifT c_149 h
              refine j_iconst S D_M_check_170 ci_0 ?_
              refine j_iadd S D_M_check_171 ?_
              obtain ⟨x_172, hx_172, h⟩ := ltE h
              refine j_nm hx_172 ?_
              refine j_istore S D_M_check_172 (lv := [(4, .int x_172), (6, .int r_97), (0, .ref (eb E + 91)), (1, .int b1), (2, .int b2), (3, .int b3), (5, .int b5)]) rfl (Nat.le_of_ble_eq_true rfl) ?_
              refine j_iinc S D_M_check_174 6 rfl (congrArg (fun z => b5 + z) ci_1) (lv := [(5, .int (b5 + 1)), (4, .int x_172), (6, .int r_97), (0, .ref (eb E + 91)), (1, .int b1), (2, .int b2), (3, .int b3)]) rfl (Nat.le_of_ble_eq_true rfl) ?_
              refine j_goto S D_M_check_177 ?_
              refine j_locals [3, 4, 5, 6, 1, 0] rfl (ih b1 b2 b3 x_172 (b5 + 1) m_97 _ _ h hk)
            · have h := ifF c_149 h
              refine j_aload_n S D_M_check_152 2 rfl rfl ?_
              refine j_getR S D_M_check_153 fl_R6_76 sh_Mod rfl ?_
              refine j_iload S D_M_check_156 0 rfl ?_
              obtain ⟨g_158, h⟩ := gdE h
              refine j_iald S D_M_check_158 sh_112 g_158 ?_
              refine j_aload_n S D_M_check_159 2 rfl rfl ?_
              obtain ⟨r_160, e_160, h⟩ := bpE h
              refine j_callVI (As := []) S D_M_check_160 mv_R6_262 (c_M_sandAll (cxL X) E e_160) (by decide) sh_Mod rfl rfl rfl rfl (Nat.le_of_ble_eq_true rfl) ?_
              refine j_dia (P := J X E 7 171 [(4, .int x_131), (6, .int r_97), (0, .ref (eb E + 91)), (1, .int b1), (2, .int b2), (3, .int b3), (5, .int b5)] [.int (if m_97 112 (ix x_131) = r_160 then (1 : Int32) else 0), .int x_131] SH m_97) (fun hj => ?_) ?_
              · refine j_icmp_ne S D_M_check_163 (fun c_163 => ?_) (fun c_163 => ?_)
                · refine j_iconst S D_M_check_170 ci_0 ?_
                  exact j_jnF hj c_163
                · refine j_iconst S D_M_check_166 ci_1 ?_
                  refine j_goto S D_M_check_167 ?_
                  exact j_jnT hj c_163
              refine j_iadd S D_M_check_171 ?_
              obtain ⟨x_172, hx_172, h⟩ := ltE h
              refine j_nm hx_172 ?_
              refine j_istore S D_M_check_172 (lv := [(4, .int x_172), (6, .int r_97), (0, .ref (eb E + 91)), (1, .int b1), (2, .int b2), (3, .int b3), (5, .int b5)]) rfl (Nat.le_of_ble_eq_true rfl) ?_
              refine j_iinc S D_M_check_174 6 rfl (congrArg (fun z => b5 + z) ci_1) (lv := [(5, .int (b5 + 1)), (4, .int x_172), (6, .int r_97), (0, .ref (eb E + 91)), (1, .int b1), (2, .int b2), (3, .int b3)]) rfl (Nat.le_of_ble_eq_true rfl) ?_
              refine j_goto S D_M_check_177 ?_
              refine j_locals [3, 4, 5, 6, 1, 0] rfl (ih b1 b2 b3 x_172 (b5 + 1) m_97 _ _ h hk)
theorem c_M_check (l : Launch) (E : En) (N : Nat) (a1 : Int32) {mem : Mm} {r : Int32} {m2 : Mm} (h : f_M_check N a1 mem = some (r, m2)) : CtI l E 5 y_M_check prog_9_method_83_code 7 (some .int) [.ref (eb E + 91), .int a1] SH mem r m2 := by
  refine mk_CtI ⟨by decide, (Nat.le_of_ble_eq_true rfl)⟩ (fun X S hl hR => ?_)
  have S : Std X E prog_9_method_83_code R6 7 5 := S
  show J X E 7 0 [(0, .ref (eb E + 91)), (1, .int a1)] [] SH mem
  unfold f_M_check at h
  refine j_aload_n S D_M_check_0 0 rfl rfl ?_
  refine j_getI S D_M_check_1 fl_R6_251 sh_Mod rfl ?_
  obtain ⟨x_4, hx_4, h⟩ := ltE h
  refine j_nm hx_4 ?_
  refine j_istore_n S D_M_check_4 (lv := [(2, .int x_4), (0, .ref (eb E + 91)), (1, .int a1)]) rfl ⟨rfl, (Nat.le_of_ble_eq_true rfl)⟩ ?_
  refine j_aload_n S D_M_check_5 1 rfl rfl ?_
  refine j_iconst S D_M_check_6 ci_0 ?_
  obtain ⟨m_7, hm_7, h⟩ := ltE h
  refine j_putI S D_M_check_7 fp_R6_251 sh_Mod rfl ?_
  refine j_mem hm_7 ?_
  refine j_iload_n S D_M_check_10 2 rfl rfl ?_
  refine j_iconst S D_M_check_11 ci_1 ?_
  refine j_bipush S D_M_check_12 cb_30 ?_
  obtain ⟨r_14, e_14, h⟩ := bpE h
  refine j_callSI (As := [.int a1, .int 1, .int 30]) S D_M_check_14 ms_R6_79 (c_M_in (cxL X) E a1 1 30 (mem := m_7) e_14) (by decide) rfl rfl (Nat.le_of_ble_eq_true rfl) ?_
  refine j_if_ne S D_M_check_17 (fun c_17 => ?_) (fun c_17 => ?_)
  · have h := ifF c_17 h
    refine j_aload_n S D_M_check_23 1 rfl rfl ?_
    refine j_getI S D_M_check_24 fl_R6_254 sh_Mod rfl ?_
    refine j_if_ne S D_M_check_27 (fun c_27 => ?_) (fun c_27 => ?_)
    · have h := ifF c_27 h
      refine j_aload_n S D_M_check_33 1 rfl rfl ?_
      refine j_getR S D_M_check_34 fl_R6_9 sh_Mod rfl ?_
      refine j_aload_n S D_M_check_37 1 rfl rfl ?_
      refine j_getR S D_M_check_38 fl_R6_16 sh_Mod rfl ?_
      obtain ⟨m_41, e_41, h⟩ := bpE h
      refine j_callSV (As := [.ref (eb E + 92), .ref (eb E + 94)]) S D_M_check_41 ms_R6_258 (c_M_copyAll (cxL X) E N 92 sh_92 94 sh_94 e_41) (by decide) rfl rfl (Nat.le_of_ble_eq_true rfl) ?_
      refine j_aload_n S D_M_check_44 1 rfl rfl ?_
      refine j_getR S D_M_check_45 fl_R6_13 sh_Mod rfl ?_
      refine j_aload_n S D_M_check_48 1 rfl rfl ?_
      refine j_getR S D_M_check_49 fl_R6_9 sh_Mod rfl ?_
      obtain ⟨m_52, e_52, h⟩ := bpE h
      refine j_callSV (As := [.ref (eb E + 93), .ref (eb E + 92)]) S D_M_check_52 ms_R6_258 (c_M_copyAll (cxL X) E N 93 sh_93 92 sh_92 e_52) (by decide) rfl rfl (Nat.le_of_ble_eq_true rfl) ?_
      refine j_iconst S D_M_check_55 ci_2 ?_
      refine j_sipush S D_M_check_56 cs_9999 ?_
      refine j_aload_n S D_M_check_59 1 rfl rfl ?_
      refine j_getR S D_M_check_60 fl_R6_9 sh_Mod rfl ?_
      refine j_iconst S D_M_check_63 ci_2 ?_
      refine j_iald S D_M_check_64 sh_92 inbc_2_1436 ?_
      refine j_isub S D_M_check_65 ?_
      refine j_iconst S D_M_check_66 ci_0 ?_
      refine j_iload_n S D_M_check_67 2 rfl rfl ?_
      obtain ⟨r_68, e_68, h⟩ := bpE h
      refine j_callSI (As := [.int (9999 - (m_52 92 (ix 2))), .int 0, .int a1]) S D_M_check_68 ms_R6_113 (c_M_within (cxL X) E (9999 - (m_52 92 (ix 2))) 0 a1 (mem := m_52) e_68) (by decide) rfl rfl (Nat.le_of_ble_eq_true rfl) ?_
      refine j_imul S D_M_check_71 ?_
      obtain ⟨x_72, hx_72, h⟩ := ltE h
      refine j_nm hx_72 ?_
      refine j_istore_n S D_M_check_72 (lv := [(3, .int x_72), (2, .int x_4), (0, .ref (eb E + 91)), (1, .int a1)]) rfl ⟨rfl, (Nat.le_of_ble_eq_true rfl)⟩ ?_
      refine j_iconst S D_M_check_73 ci_0 ?_
      refine j_istore S D_M_check_74 (lv := [(4, .int 0), (3, .int x_72), (2, .int x_4), (0, .ref (eb E + 91)), (1, .int a1)]) rfl (Nat.le_of_ble_eq_true rfl) ?_
      refine j_iconst S D_M_check_76 ci_0 ?_
      refine j_istore S D_M_check_77 (lv := [(5, .int 0), (4, .int 0), (3, .int x_72), (2, .int x_4), (0, .ref (eb E + 91)), (1, .int a1)]) rfl (Nat.le_of_ble_eq_true rfl) ?_
      refine j_locals [4, 5, 3, 2, 1, 0] rfl ?_
      obtain ⟨y_79, m_79, e_79, h⟩ := bdE h
      refine L_M_check_79 S N N a1 x_4 x_72 0 0 m_52 _ _ e_79 ?_
      refine j_aload_n S D_M_check_180 0 rfl rfl ?_
      refine j_getR S D_M_check_181 fl_R6_16 sh_Mod rfl ?_
      refine j_aload_n S D_M_check_184 0 rfl rfl ?_
      refine j_getR S D_M_check_185 fl_R6_9 sh_Mod rfl ?_
      obtain ⟨m_188, e_188, h⟩ := bpE h
      refine j_callSV (As := [.ref (eb E + 94), .ref (eb E + 92)]) S D_M_check_188 ms_R6_258 (c_M_copyAll (cxL X) E N 94 sh_94 92 sh_92 e_188) (by decide) rfl rfl (Nat.le_of_ble_eq_true rfl) ?_
      refine j_iload S D_M_check_191 4 rfl ?_
      refine j_iload_n S D_M_check_193 2 rfl rfl ?_
      refine j_dia (P := J X E 7 211 [(0, .ref (eb E + 91)), (1, .int a1), (2, .int x_4), (3, .int x_72), (4, .int y_79.1), (5, .int y_79.2)] [.int (if y_79.1 = x_4 then if y_79.1 = x_72 then (0 : Int32) else 1 + y_79.1 else 1 + y_79.1)] SH m_188) (fun hj => ?_) ?_
      · refine j_icmp_ne S D_M_check_194 (fun c_194 => ?_) (fun c_194 => ?_)
        · refine j_iconst S D_M_check_207 ci_1 ?_
          refine j_iload S D_M_check_208 4 rfl ?_
          refine j_iadd S D_M_check_210 ?_
          exact j_jnF hj c_194
        · refine j_iload S D_M_check_197 4 rfl ?_
          refine j_iload_n S D_M_check_199 3 rfl rfl ?_
          refine j_dia (P := J X E 7 211 [(0, .ref (eb E + 91)), (1, .int a1), (2, .int x_4), (3, .int x_72), (4, .int y_79.1), (5, .int y_79.2)] [.int (if y_79.1 = x_72 then (0 : Int32) else 1 + y_79.1)] SH m_188) (fun hj => ?_) ?_
          · refine j_icmp_ne S D_M_check_200 (fun c_200 => ?_) (fun c_200 => ?_)
            · refine j_iconst S D_M_check_207 ci_1 ?_
              refine j_iload S D_M_check_208 4 rfl ?_
              refine j_iadd S D_M_check_210 ?_
              exact j_jnF hj c_200
            · refine j_iconst S D_M_check_203 ci_0 ?_
              refine j_goto S D_M_check_204 ?_
              exact j_jnT hj c_200
          exact j_jnT hj c_194
      exact rtM hR h _ _ D_M_check_211
    · have h := ifT c_27 h
      refine j_ldc S D_M_check_30 co_R6_250 ?_
      exact rtM hR h _ _ D_M_check_32
  · have h := ifT c_17 h
    refine j_ldc S D_M_check_20 co_R6_87 ?_
    exact rtM hR h _ _ D_M_check_22

def y_M_keep : MethodName := ⟨"SandPictureModel", "keep", "()I"⟩
theorem D_M_keep_0 : decode prog_9_method_84_code 0 = .ok (.aload_n 0, 1) ∧ 0 + 1 = 1 := by decide +kernel
theorem D_M_keep_1 : decode prog_9_method_84_code 1 = .ok (.getfield 9, 3) ∧ 1 + 3 = 4 := by decide +kernel
theorem D_M_keep_4 : decode prog_9_method_84_code 4 = .ok (.aload_n 0, 1) ∧ 4 + 1 = 5 := by decide +kernel
theorem D_M_keep_5 : decode prog_9_method_84_code 5 = .ok (.getfield 13, 3) ∧ 5 + 3 = 8 := by decide +kernel
theorem D_M_keep_8 : decode prog_9_method_84_code 8 = .ok (.invokestatic 258, 3) ∧ 8 + 3 = 11 := by decide +kernel
theorem D_M_keep_11 : decode prog_9_method_84_code 11 = .ok (.aload_n 0, 1) ∧ 11 + 1 = 12 := by decide +kernel
theorem D_M_keep_12 : decode prog_9_method_84_code 12 = .ok (.iconst 1, 1) ∧ 12 + 1 = 13 := by decide +kernel
theorem D_M_keep_13 : decode prog_9_method_84_code 13 = .ok (.putfield 254, 3) ∧ 13 + 3 = 16 := by decide +kernel
theorem D_M_keep_16 : decode prog_9_method_84_code 16 = .ok (.aload_n 0, 1) ∧ 16 + 1 = 17 := by decide +kernel
theorem D_M_keep_17 : decode prog_9_method_84_code 17 = .ok (.getfield 9, 3) ∧ 17 + 3 = 20 := by decide +kernel
theorem D_M_keep_20 : decode prog_9_method_84_code 20 = .ok (.iconst 1, 1) ∧ 20 + 1 = 21 := by decide +kernel
theorem D_M_keep_21 : decode prog_9_method_84_code 21 = .ok (.iaload, 1) ∧ 21 + 1 = 22 := by decide +kernel
theorem D_M_keep_22 : decode prog_9_method_84_code 22 = .ok (.ireturn, 1) := by decide +kernel
def f_M_keep (N : Nat)  (mem : Mm) : Option (Int32 × Mm) := bp (f_M_copyAll N 92 93 mem) fun m_8 => lt (mst m_8 91 3 1) fun m_13 => some (m_13 92 (ix 1), m_13)
theorem c_M_keep (l : Launch) (E : En) (N : Nat)  {mem : Mm} {r : Int32} {m2 : Mm} (h : f_M_keep N mem = some (r, m2)) : CtI l E 1 y_M_keep prog_9_method_84_code 1 (some .int) [.ref (eb E + 91)] SH mem r m2 := by
  refine mk_CtI ⟨by decide, (Nat.le_of_ble_eq_true rfl)⟩ (fun X S hl hR => ?_)
  have S : Std X E prog_9_method_84_code R6 1 1 := S
  show J X E 1 0 [(0, .ref (eb E + 91))] [] SH mem
  unfold f_M_keep at h
  refine j_aload_n S D_M_keep_0 0 rfl rfl ?_
  refine j_getR S D_M_keep_1 fl_R6_9 sh_Mod rfl ?_
  refine j_aload_n S D_M_keep_4 0 rfl rfl ?_
  refine j_getR S D_M_keep_5 fl_R6_13 sh_Mod rfl ?_
  obtain ⟨m_8, e_8, h⟩ := bpE h
  refine j_callSV (As := [.ref (eb E + 92), .ref (eb E + 93)]) S D_M_keep_8 ms_R6_258 (c_M_copyAll (cxL X) E N 92 sh_92 93 sh_93 e_8) (by decide) rfl rfl (Nat.le_of_ble_eq_true rfl) ?_
  refine j_aload_n S D_M_keep_11 0 rfl rfl ?_
  refine j_iconst S D_M_keep_12 ci_1 ?_
  obtain ⟨m_13, hm_13, h⟩ := ltE h
  refine j_put S D_M_keep_13 fp_R6_254 sh_Mod rfl (isb_nf isb1) ?_
  refine j_mem hm_13 ?_
  refine j_aload_n S D_M_keep_16 0 rfl rfl ?_
  refine j_getR S D_M_keep_17 fl_R6_9 sh_Mod rfl ?_
  refine j_iconst S D_M_keep_20 ci_1 ?_
  refine j_iald S D_M_keep_21 sh_92 inbc_1_1436 ?_
  exact rtM hR h _ _ D_M_keep_22

def y_M_back : MethodName := ⟨"SandPictureModel", "back", "()I"⟩
theorem D_M_back_0 : decode prog_9_method_85_code 0 = .ok (.aload_n 0, 1) ∧ 0 + 1 = 1 := by decide +kernel
theorem D_M_back_1 : decode prog_9_method_85_code 1 = .ok (.getfield 254, 3) ∧ 1 + 3 = 4 := by decide +kernel
theorem D_M_back_4 : decode prog_9_method_85_code 4 = .ok (.ifCond .ne 6, 3) ∧ ((4 : Nat) : Int) + 6 = ((10 : Nat) : Int) ∧ 4 + 3 = 7 := by decide +kernel
theorem D_M_back_10 : decode prog_9_method_85_code 10 = .ok (.aload_n 0, 1) ∧ 10 + 1 = 11 := by decide +kernel
theorem D_M_back_11 : decode prog_9_method_85_code 11 = .ok (.getfield 13, 3) ∧ 11 + 3 = 14 := by decide +kernel
theorem D_M_back_14 : decode prog_9_method_85_code 14 = .ok (.aload_n 0, 1) ∧ 14 + 1 = 15 := by decide +kernel
theorem D_M_back_15 : decode prog_9_method_85_code 15 = .ok (.getfield 9, 3) ∧ 15 + 3 = 18 := by decide +kernel
theorem D_M_back_18 : decode prog_9_method_85_code 18 = .ok (.invokestatic 258, 3) ∧ 18 + 3 = 21 := by decide +kernel
theorem D_M_back_21 : decode prog_9_method_85_code 21 = .ok (.aload_n 0, 1) ∧ 21 + 1 = 22 := by decide +kernel
theorem D_M_back_22 : decode prog_9_method_85_code 22 = .ok (.getfield 9, 3) ∧ 22 + 3 = 25 := by decide +kernel
theorem D_M_back_25 : decode prog_9_method_85_code 25 = .ok (.iconst 1, 1) ∧ 25 + 1 = 26 := by decide +kernel
theorem D_M_back_26 : decode prog_9_method_85_code 26 = .ok (.iaload, 1) ∧ 26 + 1 = 27 := by decide +kernel
theorem D_M_back_27 : decode prog_9_method_85_code 27 = .ok (.ireturn, 1) := by decide +kernel
theorem D_M_back_7 : decode prog_9_method_85_code 7 = .ok (.ldc 250, 2) ∧ 7 + 2 = 9 := by decide +kernel
theorem D_M_back_9 : decode prog_9_method_85_code 9 = .ok (.ireturn, 1) := by decide +kernel
def f_M_back (N : Nat)  (mem : Mm) : Option (Int32 × Mm) := if mem 91 3 = 0 then some ((-1000000002), mem) else bp (f_M_copyAll N 93 92 mem) fun m_18 => some (m_18 92 (ix 1), m_18)
theorem c_M_back (l : Launch) (E : En) (N : Nat)  {mem : Mm} {r : Int32} {m2 : Mm} (h : f_M_back N mem = some (r, m2)) : CtI l E 1 y_M_back prog_9_method_85_code 1 (some .int) [.ref (eb E + 91)] SH mem r m2 := by
  refine mk_CtI ⟨by decide, (Nat.le_of_ble_eq_true rfl)⟩ (fun X S hl hR => ?_)
  have S : Std X E prog_9_method_85_code R6 1 1 := S
  show J X E 1 0 [(0, .ref (eb E + 91))] [] SH mem
  unfold f_M_back at h
  refine j_aload_n S D_M_back_0 0 rfl rfl ?_
  refine j_getI S D_M_back_1 fl_R6_254 sh_Mod rfl ?_
  refine j_if_ne S D_M_back_4 (fun c_4 => ?_) (fun c_4 => ?_)
  · have h := ifF c_4 h
    refine j_aload_n S D_M_back_10 0 rfl rfl ?_
    refine j_getR S D_M_back_11 fl_R6_13 sh_Mod rfl ?_
    refine j_aload_n S D_M_back_14 0 rfl rfl ?_
    refine j_getR S D_M_back_15 fl_R6_9 sh_Mod rfl ?_
    obtain ⟨m_18, e_18, h⟩ := bpE h
    refine j_callSV (As := [.ref (eb E + 93), .ref (eb E + 92)]) S D_M_back_18 ms_R6_258 (c_M_copyAll (cxL X) E N 93 sh_93 92 sh_92 e_18) (by decide) rfl rfl (Nat.le_of_ble_eq_true rfl) ?_
    refine j_aload_n S D_M_back_21 0 rfl rfl ?_
    refine j_getR S D_M_back_22 fl_R6_9 sh_Mod rfl ?_
    refine j_iconst S D_M_back_25 ci_1 ?_
    refine j_iald S D_M_back_26 sh_92 inbc_1_1436 ?_
    exact rtM hR h _ _ D_M_back_27
  · have h := ifT c_4 h
    refine j_ldc S D_M_back_7 co_R6_250 ?_
    exact rtM hR h _ _ D_M_back_9

def y_M_faulty : MethodName := ⟨"SandPictureModel", "faulty", "()I"⟩
theorem D_M_faulty_0 : decode prog_9_method_86_code 0 = .ok (.iconst 0, 1) ∧ 0 + 1 = 1 := by decide +kernel
theorem D_M_faulty_1 : decode prog_9_method_86_code 1 = .ok (.istore_n 1, 1) ∧ 1 + 1 = 2 := by decide +kernel
theorem D_M_faulty_2 : decode prog_9_method_86_code 2 = .ok (.iconst 0, 1) ∧ 2 + 1 = 3 := by decide +kernel
theorem D_M_faulty_3 : decode prog_9_method_86_code 3 = .ok (.istore_n 2, 1) ∧ 3 + 1 = 4 := by decide +kernel
theorem D_M_faulty_4 : decode prog_9_method_86_code 4 = .ok (.iload_n 2, 1) ∧ 4 + 1 = 5 := by decide +kernel
theorem D_M_faulty_5 : decode prog_9_method_86_code 5 = .ok (.bipush 6, 2) ∧ 5 + 2 = 7 := by decide +kernel
theorem D_M_faulty_7 : decode prog_9_method_86_code 7 = .ok (.if_icmp .ge 26, 3) ∧ ((7 : Nat) : Int) + 26 = ((33 : Nat) : Int) ∧ 7 + 3 = 10 := by decide +kernel
theorem D_M_faulty_10 : decode prog_9_method_86_code 10 = .ok (.iload_n 1, 1) ∧ 10 + 1 = 11 := by decide +kernel
theorem D_M_faulty_11 : decode prog_9_method_86_code 11 = .ok (.aload_n 0, 1) ∧ 11 + 1 = 12 := by decide +kernel
theorem D_M_faulty_12 : decode prog_9_method_86_code 12 = .ok (.iload_n 2, 1) ∧ 12 + 1 = 13 := by decide +kernel
theorem D_M_faulty_13 : decode prog_9_method_86_code 13 = .ok (.iconst 2, 1) ∧ 13 + 1 = 14 := by decide +kernel
theorem D_M_faulty_14 : decode prog_9_method_86_code 14 = .ok (.invokevirtual 107, 3) ∧ 14 + 3 = 17 := by decide +kernel
theorem D_M_faulty_24 : decode prog_9_method_86_code 24 = .ok (.iconst 0, 1) ∧ 24 + 1 = 25 := by decide +kernel
theorem D_M_faulty_20 : decode prog_9_method_86_code 20 = .ok (.iconst 1, 1) ∧ 20 + 1 = 21 := by decide +kernel
theorem D_M_faulty_21 : decode prog_9_method_86_code 21 = .ok (.goto 4, 3) ∧ ((21 : Nat) : Int) + 4 = ((25 : Nat) : Int) := by decide +kernel
theorem D_M_faulty_17 : decode prog_9_method_86_code 17 = .ok (.ifCond .le 7, 3) ∧ ((17 : Nat) : Int) + 7 = ((24 : Nat) : Int) ∧ 17 + 3 = 20 := by decide +kernel
theorem D_M_faulty_25 : decode prog_9_method_86_code 25 = .ok (.iadd, 1) ∧ 25 + 1 = 26 := by decide +kernel
theorem D_M_faulty_26 : decode prog_9_method_86_code 26 = .ok (.istore_n 1, 1) ∧ 26 + 1 = 27 := by decide +kernel
theorem D_M_faulty_27 : decode prog_9_method_86_code 27 = .ok (.iinc 2 1, 3) ∧ 27 + 3 = 30 := by decide +kernel
theorem D_M_faulty_30 : decode prog_9_method_86_code 30 = .ok (.goto (-26), 3) ∧ ((30 : Nat) : Int) + (-26) = ((4 : Nat) : Int) := by decide +kernel
theorem D_M_faulty_33 : decode prog_9_method_86_code 33 = .ok (.iload_n 1, 1) ∧ 33 + 1 = 34 := by decide +kernel
theorem D_M_faulty_34 : decode prog_9_method_86_code 34 = .ok (.ireturn, 1) := by decide +kernel
def f_M_faulty_L4  : Nat → Int32 → Int32 → Mm → Option (Int32 × Int32)
  | 0, _, _, _ => none
  | n + 1, b1, b2, mem => if 6 ≤ b2 then some (b1, b2) else bp (f_M_at0 b2 2 mem) fun r_14 => lt (b1 + (if r_14 ≤ 0 then (0 : Int32) else 1)) fun x_26 => f_M_faulty_L4 n x_26 (b2 + 1) mem
def f_M_faulty (N : Nat)  (mem : Mm) : Option (Int32) := bp (f_M_faulty_L4 N 0 0 mem) fun y_4 => some y_4.1
theorem L_M_faulty_4 {X : Cx} {E : En} (S : Std X E prog_9_method_86_code R6 3 1)  {mem : Mm} : ∀ (n : Nat) (b1 : Int32) (b2 : Int32) (z : Int32 × Int32), f_M_faulty_L4 n b1 b2 mem = some z → J X E 3 33 [(0, .ref (eb E + 91)), (1, .int z.1), (2, .int z.2)] [] SH mem → J X E 3 4 [(0, .ref (eb E + 91)), (1, .int b1), (2, .int b2)] [] SH mem := by
  intro n
  induction n with
  | zero =>
    intro b1 b2 z h hk; cases h
  | succ n ih =>
    intro b1 b2 z h hk
    rw [f_M_faulty_L4] at h
    refine j_iload_n S D_M_faulty_4 2 rfl rfl ?_
    refine j_bipush S D_M_faulty_5 cb_6 ?_
    refine j_icmp_ge S D_M_faulty_7 (fun c_7 => ?_) (fun c_7 => ?_)
    · have h := ifT c_7 h
      cases h
      exact j_locals [0, 1, 2] rfl hk
    · have h := ifF c_7 h
      refine j_iload_n S D_M_faulty_10 1 rfl rfl ?_
      refine j_aload_n S D_M_faulty_11 0 rfl rfl ?_
      refine j_iload_n S D_M_faulty_12 2 rfl rfl ?_
      refine j_iconst S D_M_faulty_13 ci_2 ?_
      obtain ⟨r_14, e_14, h⟩ := bpE h
      refine j_callVI (As := [.int b2, .int 2]) S D_M_faulty_14 mv_R6_107 (c_M_at0 (cxL X) E b2 2 e_14) (by decide) sh_Mod rfl rfl rfl rfl (Nat.le_of_ble_eq_true rfl) ?_
      refine j_dia (P := J X E 3 25 [(0, .ref (eb E + 91)), (1, .int b1), (2, .int b2)] [.int (if r_14 ≤ 0 then (0 : Int32) else 1), .int b1] SH mem) (fun hj => ?_) ?_
      · refine j_if_le S D_M_faulty_17 (fun c_17 => ?_) (fun c_17 => ?_)
        · refine j_iconst S D_M_faulty_24 ci_0 ?_
          exact j_jnT hj c_17
        · refine j_iconst S D_M_faulty_20 ci_1 ?_
          refine j_goto S D_M_faulty_21 ?_
          exact j_jnF hj c_17
      refine j_iadd S D_M_faulty_25 ?_
      obtain ⟨x_26, hx_26, h⟩ := ltE h
      refine j_nm hx_26 ?_
      refine j_istore_n S D_M_faulty_26 (lv := [(1, .int x_26), (0, .ref (eb E + 91)), (2, .int b2)]) rfl ⟨rfl, (Nat.le_of_ble_eq_true rfl)⟩ ?_
      refine j_iinc S D_M_faulty_27 2 rfl (congrArg (fun z => b2 + z) ci_1) (lv := [(2, .int (b2 + 1)), (1, .int x_26), (0, .ref (eb E + 91))]) rfl (Nat.le_of_ble_eq_true rfl) ?_
      refine j_goto S D_M_faulty_30 ?_
      refine j_locals [2, 1, 0] rfl (ih x_26 (b2 + 1) _ h hk)
theorem c_M_faulty (l : Launch) (E : En) (N : Nat)  {mem : Mm} {r : Int32} (h : f_M_faulty N mem = some r) : CtI l E 1 y_M_faulty prog_9_method_86_code 3 (some .int) [.ref (eb E + 91)] SH mem r mem := by
  refine mk_CtI ⟨by decide, (Nat.le_of_ble_eq_true rfl)⟩ (fun X S hl hR => ?_)
  have S : Std X E prog_9_method_86_code R6 3 1 := S
  show J X E 3 0 [(0, .ref (eb E + 91))] [] SH mem
  unfold f_M_faulty at h
  refine j_iconst S D_M_faulty_0 ci_0 ?_
  refine j_istore_n S D_M_faulty_1 (lv := [(1, .int 0), (0, .ref (eb E + 91))]) rfl ⟨rfl, (Nat.le_of_ble_eq_true rfl)⟩ ?_
  refine j_iconst S D_M_faulty_2 ci_0 ?_
  refine j_istore_n S D_M_faulty_3 (lv := [(2, .int 0), (1, .int 0), (0, .ref (eb E + 91))]) rfl ⟨rfl, (Nat.le_of_ble_eq_true rfl)⟩ ?_
  refine j_locals [2, 1, 0] rfl ?_
  obtain ⟨y_4, e_4, h⟩ := bpE h
  refine L_M_faulty_4 S  N 0 0 _ e_4 ?_
  refine j_iload_n S D_M_faulty_33 1 rfl rfl ?_
  exact rtI hR h _ _ D_M_faulty_34

def y_M_count : MethodName := ⟨"SandPictureModel", "count", "(I)I"⟩
theorem D_M_count_0 : decode prog_9_method_87_code 0 = .ok (.iload_n 1, 1) ∧ 0 + 1 = 1 := by decide +kernel
theorem D_M_count_1 : decode prog_9_method_87_code 1 = .ok (.tableswitch 98 0 7 #[47, 54, 61, 68, 73, 81, 86, 91], 47) := by decide +kernel
theorem D_M_count_48 : decode prog_9_method_87_code 48 = .ok (.aload_n 0, 1) ∧ 48 + 1 = 49 := by decide +kernel
theorem D_M_count_49 : decode prog_9_method_87_code 49 = .ok (.getfield 9, 3) ∧ 49 + 3 = 52 := by decide +kernel
theorem D_M_count_52 : decode prog_9_method_87_code 52 = .ok (.iconst 1, 1) ∧ 52 + 1 = 53 := by decide +kernel
theorem D_M_count_53 : decode prog_9_method_87_code 53 = .ok (.iaload, 1) ∧ 53 + 1 = 54 := by decide +kernel
theorem D_M_count_54 : decode prog_9_method_87_code 54 = .ok (.ireturn, 1) := by decide +kernel
theorem D_M_count_55 : decode prog_9_method_87_code 55 = .ok (.aload_n 0, 1) ∧ 55 + 1 = 56 := by decide +kernel
theorem D_M_count_56 : decode prog_9_method_87_code 56 = .ok (.getfield 9, 3) ∧ 56 + 3 = 59 := by decide +kernel
theorem D_M_count_59 : decode prog_9_method_87_code 59 = .ok (.iconst 2, 1) ∧ 59 + 1 = 60 := by decide +kernel
theorem D_M_count_60 : decode prog_9_method_87_code 60 = .ok (.iaload, 1) ∧ 60 + 1 = 61 := by decide +kernel
theorem D_M_count_61 : decode prog_9_method_87_code 61 = .ok (.ireturn, 1) := by decide +kernel
theorem D_M_count_62 : decode prog_9_method_87_code 62 = .ok (.aload_n 0, 1) ∧ 62 + 1 = 63 := by decide +kernel
theorem D_M_count_63 : decode prog_9_method_87_code 63 = .ok (.getfield 9, 3) ∧ 63 + 3 = 66 := by decide +kernel
theorem D_M_count_66 : decode prog_9_method_87_code 66 = .ok (.iconst 3, 1) ∧ 66 + 1 = 67 := by decide +kernel
theorem D_M_count_67 : decode prog_9_method_87_code 67 = .ok (.iaload, 1) ∧ 67 + 1 = 68 := by decide +kernel
theorem D_M_count_68 : decode prog_9_method_87_code 68 = .ok (.ireturn, 1) := by decide +kernel
theorem D_M_count_69 : decode prog_9_method_87_code 69 = .ok (.aload_n 0, 1) ∧ 69 + 1 = 70 := by decide +kernel
theorem D_M_count_70 : decode prog_9_method_87_code 70 = .ok (.invokevirtual 265, 3) ∧ 70 + 3 = 73 := by decide +kernel
theorem D_M_count_73 : decode prog_9_method_87_code 73 = .ok (.ireturn, 1) := by decide +kernel
theorem D_M_count_74 : decode prog_9_method_87_code 74 = .ok (.aload_n 0, 1) ∧ 74 + 1 = 75 := by decide +kernel
theorem D_M_count_75 : decode prog_9_method_87_code 75 = .ok (.getfield 9, 3) ∧ 75 + 3 = 78 := by decide +kernel
theorem D_M_count_78 : decode prog_9_method_87_code 78 = .ok (.bipush 6, 2) ∧ 78 + 2 = 80 := by decide +kernel
theorem D_M_count_80 : decode prog_9_method_87_code 80 = .ok (.iaload, 1) ∧ 80 + 1 = 81 := by decide +kernel
theorem D_M_count_81 : decode prog_9_method_87_code 81 = .ok (.ireturn, 1) := by decide +kernel
theorem D_M_count_82 : decode prog_9_method_87_code 82 = .ok (.aload_n 0, 1) ∧ 82 + 1 = 83 := by decide +kernel
theorem D_M_count_83 : decode prog_9_method_87_code 83 = .ok (.getfield 251, 3) ∧ 83 + 3 = 86 := by decide +kernel
theorem D_M_count_86 : decode prog_9_method_87_code 86 = .ok (.ireturn, 1) := by decide +kernel
theorem D_M_count_87 : decode prog_9_method_87_code 87 = .ok (.aload_n 0, 1) ∧ 87 + 1 = 88 := by decide +kernel
theorem D_M_count_88 : decode prog_9_method_87_code 88 = .ok (.getfield 177, 3) ∧ 88 + 3 = 91 := by decide +kernel
theorem D_M_count_91 : decode prog_9_method_87_code 91 = .ok (.ireturn, 1) := by decide +kernel
theorem D_M_count_92 : decode prog_9_method_87_code 92 = .ok (.aload_n 0, 1) ∧ 92 + 1 = 93 := by decide +kernel
theorem D_M_count_93 : decode prog_9_method_87_code 93 = .ok (.getfield 9, 3) ∧ 93 + 3 = 96 := by decide +kernel
theorem D_M_count_96 : decode prog_9_method_87_code 96 = .ok (.iconst 0, 1) ∧ 96 + 1 = 97 := by decide +kernel
theorem D_M_count_97 : decode prog_9_method_87_code 97 = .ok (.iaload, 1) ∧ 97 + 1 = 98 := by decide +kernel
theorem D_M_count_98 : decode prog_9_method_87_code 98 = .ok (.ireturn, 1) := by decide +kernel
theorem D_M_count_99 : decode prog_9_method_87_code 99 = .ok (.ldc 87, 2) ∧ 99 + 2 = 101 := by decide +kernel
theorem D_M_count_101 : decode prog_9_method_87_code 101 = .ok (.ireturn, 1) := by decide +kernel
theorem D_M_count_1o : decode prog_9_method_87_code 1 = .ok (.tableswitch 98 0 7 #[47, 54, 61, 68, 73, 81, 86, 91], 47) ∧ ((1 : Nat) : Int) + 98 = ((99 : Nat) : Int) := by decide +kernel
def f_M_count (N : Nat) (a1 : Int32) (mem : Mm) : Option (Int32) := if a1 = 0 then some (mem 92 (ix 1)) else if a1 = 1 then some (mem 92 (ix 2)) else if a1 = 2 then some (mem 92 (ix 3)) else if a1 = 3 then bp (f_M_faulty N mem) fun r_70 => some r_70 else if a1 = 4 then some (mem 92 (ix 6)) else if a1 = 5 then some (mem 91 33) else if a1 = 6 then some (mem 91 7) else if a1 = 7 then some (mem 92 (ix 0)) else some (-1000000001)
theorem c_M_count (l : Launch) (E : En) (N : Nat) (a1 : Int32) {mem : Mm} {r : Int32} (h : f_M_count N a1 mem = some r) : CtI l E 2 y_M_count prog_9_method_87_code 2 (some .int) [.ref (eb E + 91), .int a1] SH mem r mem := by
  refine mk_CtI ⟨by decide, (Nat.le_of_ble_eq_true rfl)⟩ (fun X S hl hR => ?_)
  have S : Std X E prog_9_method_87_code R6 2 2 := S
  show J X E 2 0 [(0, .ref (eb E + 91)), (1, .int a1)] [] SH mem
  unfold f_M_count at h
  refine j_iload_n S D_M_count_0 1 rfl rfl ?_
  by_cases c_1_0 : a1 = 0
  · have h := ifT c_1_0 h
    refine j_tabIn (tg := 48) (off := 47) S D_M_count_1 0 c_1_0 (by decide +kernel) ?_
    refine j_aload_n S D_M_count_48 0 rfl rfl ?_
    refine j_getR S D_M_count_49 fl_R6_9 sh_Mod rfl ?_
    refine j_iconst S D_M_count_52 ci_1 ?_
    refine j_iald S D_M_count_53 sh_92 inbc_1_1436 ?_
    exact rtI hR h _ _ D_M_count_54
  · have h := ifF c_1_0 h
    by_cases c_1_1 : a1 = 1
    · have h := ifT c_1_1 h
      refine j_tabIn (tg := 55) (off := 54) S D_M_count_1 1 c_1_1 (by decide +kernel) ?_
      refine j_aload_n S D_M_count_55 0 rfl rfl ?_
      refine j_getR S D_M_count_56 fl_R6_9 sh_Mod rfl ?_
      refine j_iconst S D_M_count_59 ci_2 ?_
      refine j_iald S D_M_count_60 sh_92 inbc_2_1436 ?_
      exact rtI hR h _ _ D_M_count_61
    · have h := ifF c_1_1 h
      by_cases c_1_2 : a1 = 2
      · have h := ifT c_1_2 h
        refine j_tabIn (tg := 62) (off := 61) S D_M_count_1 2 c_1_2 (by decide +kernel) ?_
        refine j_aload_n S D_M_count_62 0 rfl rfl ?_
        refine j_getR S D_M_count_63 fl_R6_9 sh_Mod rfl ?_
        refine j_iconst S D_M_count_66 ci_3 ?_
        refine j_iald S D_M_count_67 sh_92 inbc_3_1436 ?_
        exact rtI hR h _ _ D_M_count_68
      · have h := ifF c_1_2 h
        by_cases c_1_3 : a1 = 3
        · have h := ifT c_1_3 h
          refine j_tabIn (tg := 69) (off := 68) S D_M_count_1 3 c_1_3 (by decide +kernel) ?_
          refine j_aload_n S D_M_count_69 0 rfl rfl ?_
          obtain ⟨r_70, e_70, h⟩ := bpE h
          refine j_callVI (As := []) S D_M_count_70 mv_R6_265 (c_M_faulty (cxL X) E N e_70) (by decide) sh_Mod rfl rfl rfl rfl (Nat.le_of_ble_eq_true rfl) ?_
          exact rtI hR h _ _ D_M_count_73
        · have h := ifF c_1_3 h
          by_cases c_1_4 : a1 = 4
          · have h := ifT c_1_4 h
            refine j_tabIn (tg := 74) (off := 73) S D_M_count_1 4 c_1_4 (by decide +kernel) ?_
            refine j_aload_n S D_M_count_74 0 rfl rfl ?_
            refine j_getR S D_M_count_75 fl_R6_9 sh_Mod rfl ?_
            refine j_bipush S D_M_count_78 cb_6 ?_
            refine j_iald S D_M_count_80 sh_92 inbc_6_1436 ?_
            exact rtI hR h _ _ D_M_count_81
          · have h := ifF c_1_4 h
            by_cases c_1_5 : a1 = 5
            · have h := ifT c_1_5 h
              refine j_tabIn (tg := 82) (off := 81) S D_M_count_1 5 c_1_5 (by decide +kernel) ?_
              refine j_aload_n S D_M_count_82 0 rfl rfl ?_
              refine j_getI S D_M_count_83 fl_R6_251 sh_Mod rfl ?_
              exact rtI hR h _ _ D_M_count_86
            · have h := ifF c_1_5 h
              by_cases c_1_6 : a1 = 6
              · have h := ifT c_1_6 h
                refine j_tabIn (tg := 87) (off := 86) S D_M_count_1 6 c_1_6 (by decide +kernel) ?_
                refine j_aload_n S D_M_count_87 0 rfl rfl ?_
                refine j_getI S D_M_count_88 fl_R6_177 sh_Mod rfl ?_
                exact rtI hR h _ _ D_M_count_91
              · have h := ifF c_1_6 h
                by_cases c_1_7 : a1 = 7
                · have h := ifT c_1_7 h
                  refine j_tabIn (tg := 92) (off := 91) S D_M_count_1 7 c_1_7 (by decide +kernel) ?_
                  refine j_aload_n S D_M_count_92 0 rfl rfl ?_
                  refine j_getR S D_M_count_93 fl_R6_9 sh_Mod rfl ?_
                  refine j_iconst S D_M_count_96 ci_0 ?_
                  refine j_iald S D_M_count_97 sh_92 inbc_0_1436 ?_
                  exact rtI hR h _ _ D_M_count_98
                · have h := ifF c_1_7 h
                  refine j_tabOut S D_M_count_1o (tout_0_7 c_1_0 c_1_1 c_1_2 c_1_3 c_1_4 c_1_5 c_1_6 c_1_7) ?_
                  refine j_ldc S D_M_count_99 co_R6_87 ?_
                  exact rtI hR h _ _ D_M_count_101
