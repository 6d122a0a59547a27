def y_M_init : MethodName := ⟨"SandPictureModel", "<init>", "()V"⟩
theorem D_M_init_0 : decode prog_9_method_1_code 0 = .ok (.aload_n 0, 1) ∧ 0 + 1 = 1 := by decide +kernel
theorem D_M_init_1 : decode prog_9_method_1_code 1 = .ok (.invokespecial 1, 3) ∧ 1 + 3 = 4 := by decide +kernel
theorem D_M_init_4 : decode prog_9_method_1_code 4 = .ok (.aload_n 0, 1) ∧ 4 + 1 = 5 := by decide +kernel
theorem D_M_init_5 : decode prog_9_method_1_code 5 = .ok (.sipush 1436, 3) ∧ 5 + 3 = 8 := by decide +kernel
theorem D_M_init_8 : decode prog_9_method_1_code 8 = .ok (.newarray .int, 2) ∧ 8 + 2 = 10 := by decide +kernel
theorem D_M_init_10 : decode prog_9_method_1_code 10 = .ok (.putfield 9, 3) ∧ 10 + 3 = 13 := by decide +kernel
theorem D_M_init_13 : decode prog_9_method_1_code 13 = .ok (.aload_n 0, 1) ∧ 13 + 1 = 14 := by decide +kernel
theorem D_M_init_14 : decode prog_9_method_1_code 14 = .ok (.sipush 1436, 3) ∧ 14 + 3 = 17 := by decide +kernel
theorem D_M_init_17 : decode prog_9_method_1_code 17 = .ok (.newarray .int, 2) ∧ 17 + 2 = 19 := by decide +kernel
theorem D_M_init_19 : decode prog_9_method_1_code 19 = .ok (.putfield 13, 3) ∧ 19 + 3 = 22 := by decide +kernel
theorem D_M_init_22 : decode prog_9_method_1_code 22 = .ok (.aload_n 0, 1) ∧ 22 + 1 = 23 := by decide +kernel
theorem D_M_init_23 : decode prog_9_method_1_code 23 = .ok (.sipush 1436, 3) ∧ 23 + 3 = 26 := by decide +kernel
theorem D_M_init_26 : decode prog_9_method_1_code 26 = .ok (.newarray .int, 2) ∧ 26 + 2 = 28 := by decide +kernel
theorem D_M_init_28 : decode prog_9_method_1_code 28 = .ok (.putfield 16, 3) ∧ 28 + 3 = 31 := by decide +kernel
theorem D_M_init_31 : decode prog_9_method_1_code 31 = .ok (.aload_n 0, 1) ∧ 31 + 1 = 32 := by decide +kernel
theorem D_M_init_32 : decode prog_9_method_1_code 32 = .ok (.iconst (-1), 1) ∧ 32 + 1 = 33 := by decide +kernel
theorem D_M_init_33 : decode prog_9_method_1_code 33 = .ok (.putfield 19, 3) ∧ 33 + 3 = 36 := by decide +kernel
theorem D_M_init_36 : decode prog_9_method_1_code 36 = .ok (.aload_n 0, 1) ∧ 36 + 1 = 37 := by decide +kernel
theorem D_M_init_37 : decode prog_9_method_1_code 37 = .ok (.bipush 64, 2) ∧ 37 + 2 = 39 := by decide +kernel
theorem D_M_init_39 : decode prog_9_method_1_code 39 = .ok (.newarray .int, 2) ∧ 39 + 2 = 41 := by decide +kernel
theorem D_M_init_41 : decode prog_9_method_1_code 41 = .ok (.putfield 23, 3) ∧ 41 + 3 = 44 := by decide +kernel
theorem D_M_init_44 : decode prog_9_method_1_code 44 = .ok (.aload_n 0, 1) ∧ 44 + 1 = 45 := by decide +kernel
theorem D_M_init_45 : decode prog_9_method_1_code 45 = .ok (.bipush 96, 2) ∧ 45 + 2 = 47 := by decide +kernel
theorem D_M_init_47 : decode prog_9_method_1_code 47 = .ok (.newarray .int, 2) ∧ 47 + 2 = 49 := by decide +kernel
theorem D_M_init_49 : decode prog_9_method_1_code 49 = .ok (.putfield 26, 3) ∧ 49 + 3 = 52 := by decide +kernel
theorem D_M_init_52 : decode prog_9_method_1_code 52 = .ok (.aload_n 0, 1) ∧ 52 + 1 = 53 := by decide +kernel
theorem D_M_init_53 : decode prog_9_method_1_code 53 = .ok (.bipush 12, 2) ∧ 53 + 2 = 55 := by decide +kernel
theorem D_M_init_55 : decode prog_9_method_1_code 55 = .ok (.newarray .char, 2) ∧ 55 + 2 = 57 := by decide +kernel
theorem D_M_init_57 : decode prog_9_method_1_code 57 = .ok (.dup, 1) ∧ 57 + 1 = 58 := by decide +kernel
theorem D_M_init_58 : decode prog_9_method_1_code 58 = .ok (.iconst 0, 1) ∧ 58 + 1 = 59 := by decide +kernel
theorem D_M_init_59 : decode prog_9_method_1_code 59 = .ok (.bipush 112, 2) ∧ 59 + 2 = 61 := by decide +kernel
theorem D_M_init_61 : decode prog_9_method_1_code 61 = .ok (.castore, 1) ∧ 61 + 1 = 62 := by decide +kernel
theorem D_M_init_62 : decode prog_9_method_1_code 62 = .ok (.dup, 1) ∧ 62 + 1 = 63 := by decide +kernel
theorem D_M_init_63 : decode prog_9_method_1_code 63 = .ok (.iconst 1, 1) ∧ 63 + 1 = 64 := by decide +kernel
theorem D_M_init_64 : decode prog_9_method_1_code 64 = .ok (.bipush 111, 2) ∧ 64 + 2 = 66 := by decide +kernel
theorem D_M_init_66 : decode prog_9_method_1_code 66 = .ok (.castore, 1) ∧ 66 + 1 = 67 := by decide +kernel
theorem D_M_init_67 : decode prog_9_method_1_code 67 = .ok (.dup, 1) ∧ 67 + 1 = 68 := by decide +kernel
theorem D_M_init_68 : decode prog_9_method_1_code 68 = .ok (.iconst 2, 1) ∧ 68 + 1 = 69 := by decide +kernel
theorem D_M_init_69 : decode prog_9_method_1_code 69 = .ok (.bipush 117, 2) ∧ 69 + 2 = 71 := by decide +kernel
theorem D_M_init_71 : decode prog_9_method_1_code 71 = .ok (.castore, 1) ∧ 71 + 1 = 72 := by decide +kernel
theorem D_M_init_72 : decode prog_9_method_1_code 72 = .ok (.dup, 1) ∧ 72 + 1 = 73 := by decide +kernel
theorem D_M_init_73 : decode prog_9_method_1_code 73 = .ok (.iconst 3, 1) ∧ 73 + 1 = 74 := by decide +kernel
theorem D_M_init_74 : decode prog_9_method_1_code 74 = .ok (.bipush 114, 2) ∧ 74 + 2 = 76 := by decide +kernel
theorem D_M_init_76 : decode prog_9_method_1_code 76 = .ok (.castore, 1) ∧ 76 + 1 = 77 := by decide +kernel
theorem D_M_init_77 : decode prog_9_method_1_code 77 = .ok (.dup, 1) ∧ 77 + 1 = 78 := by decide +kernel
theorem D_M_init_78 : decode prog_9_method_1_code 78 = .ok (.iconst 4, 1) ∧ 78 + 1 = 79 := by decide +kernel
theorem D_M_init_79 : decode prog_9_method_1_code 79 = .ok (.bipush 98, 2) ∧ 79 + 2 = 81 := by decide +kernel
theorem D_M_init_81 : decode prog_9_method_1_code 81 = .ok (.castore, 1) ∧ 81 + 1 = 82 := by decide +kernel
theorem D_M_init_82 : decode prog_9_method_1_code 82 = .ok (.dup, 1) ∧ 82 + 1 = 83 := by decide +kernel
theorem D_M_init_83 : decode prog_9_method_1_code 83 = .ok (.iconst 5, 1) ∧ 83 + 1 = 84 := by decide +kernel
theorem D_M_init_84 : decode prog_9_method_1_code 84 = .ok (.bipush 97, 2) ∧ 84 + 2 = 86 := by decide +kernel
theorem D_M_init_86 : decode prog_9_method_1_code 86 = .ok (.castore, 1) ∧ 86 + 1 = 87 := by decide +kernel
theorem D_M_init_87 : decode prog_9_method_1_code 87 = .ok (.dup, 1) ∧ 87 + 1 = 88 := by decide +kernel
theorem D_M_init_88 : decode prog_9_method_1_code 88 = .ok (.bipush 6, 2) ∧ 88 + 2 = 90 := by decide +kernel
theorem D_M_init_90 : decode prog_9_method_1_code 90 = .ok (.bipush 99, 2) ∧ 90 + 2 = 92 := by decide +kernel
theorem D_M_init_92 : decode prog_9_method_1_code 92 = .ok (.castore, 1) ∧ 92 + 1 = 93 := by decide +kernel
theorem D_M_init_93 : decode prog_9_method_1_code 93 = .ok (.dup, 1) ∧ 93 + 1 = 94 := by decide +kernel
theorem D_M_init_94 : decode prog_9_method_1_code 94 = .ok (.bipush 7, 2) ∧ 94 + 2 = 96 := by decide +kernel
theorem D_M_init_96 : decode prog_9_method_1_code 96 = .ok (.bipush 107, 2) ∧ 96 + 2 = 98 := by decide +kernel
theorem D_M_init_98 : decode prog_9_method_1_code 98 = .ok (.castore, 1) ∧ 98 + 1 = 99 := by decide +kernel
theorem D_M_init_99 : decode prog_9_method_1_code 99 = .ok (.dup, 1) ∧ 99 + 1 = 100 := by decide +kernel
theorem D_M_init_100 : decode prog_9_method_1_code 100 = .ok (.bipush 8, 2) ∧ 100 + 2 = 102 := by decide +kernel
theorem D_M_init_102 : decode prog_9_method_1_code 102 = .ok (.bipush 102, 2) ∧ 102 + 2 = 104 := by decide +kernel
theorem D_M_init_104 : decode prog_9_method_1_code 104 = .ok (.castore, 1) ∧ 104 + 1 = 105 := by decide +kernel
theorem D_M_init_105 : decode prog_9_method_1_code 105 = .ok (.dup, 1) ∧ 105 + 1 = 106 := by decide +kernel
theorem D_M_init_106 : decode prog_9_method_1_code 106 = .ok (.bipush 9, 2) ∧ 106 + 2 = 108 := by decide +kernel
theorem D_M_init_108 : decode prog_9_method_1_code 108 = .ok (.bipush 105, 2) ∧ 108 + 2 = 110 := by decide +kernel
theorem D_M_init_110 : decode prog_9_method_1_code 110 = .ok (.castore, 1) ∧ 110 + 1 = 111 := by decide +kernel
theorem D_M_init_111 : decode prog_9_method_1_code 111 = .ok (.dup, 1) ∧ 111 + 1 = 112 := by decide +kernel
theorem D_M_init_112 : decode prog_9_method_1_code 112 = .ok (.bipush 10, 2) ∧ 112 + 2 = 114 := by decide +kernel
theorem D_M_init_114 : decode prog_9_method_1_code 114 = .ok (.bipush 110, 2) ∧ 114 + 2 = 116 := by decide +kernel
theorem D_M_init_116 : decode prog_9_method_1_code 116 = .ok (.castore, 1) ∧ 116 + 1 = 117 := by decide +kernel
theorem D_M_init_117 : decode prog_9_method_1_code 117 = .ok (.dup, 1) ∧ 117 + 1 = 118 := by decide +kernel
theorem D_M_init_118 : decode prog_9_method_1_code 118 = .ok (.bipush 11, 2) ∧ 118 + 2 = 120 := by decide +kernel
theorem D_M_init_120 : decode prog_9_method_1_code 120 = .ok (.bipush 101, 2) ∧ 120 + 2 = 122 := by decide +kernel
theorem D_M_init_122 : decode prog_9_method_1_code 122 = .ok (.castore, 1) ∧ 122 + 1 = 123 := by decide +kernel
theorem D_M_init_123 : decode prog_9_method_1_code 123 = .ok (.putfield 29, 3) ∧ 123 + 3 = 126 := by decide +kernel
theorem D_M_init_126 : decode prog_9_method_1_code 126 = .ok (.aload_n 0, 1) ∧ 126 + 1 = 127 := by decide +kernel
theorem D_M_init_127 : decode prog_9_method_1_code 127 = .ok (.iconst 4, 1) ∧ 127 + 1 = 128 := by decide +kernel
theorem D_M_init_128 : decode prog_9_method_1_code 128 = .ok (.newarray .int, 2) ∧ 128 + 2 = 130 := by decide +kernel
theorem D_M_init_130 : decode prog_9_method_1_code 130 = .ok (.dup, 1) ∧ 130 + 1 = 131 := by decide +kernel
theorem D_M_init_131 : decode prog_9_method_1_code 131 = .ok (.iconst 0, 1) ∧ 131 + 1 = 132 := by decide +kernel
theorem D_M_init_132 : decode prog_9_method_1_code 132 = .ok (.iconst 0, 1) ∧ 132 + 1 = 133 := by decide +kernel
theorem D_M_init_133 : decode prog_9_method_1_code 133 = .ok (.iastore, 1) ∧ 133 + 1 = 134 := by decide +kernel
theorem D_M_init_134 : decode prog_9_method_1_code 134 = .ok (.dup, 1) ∧ 134 + 1 = 135 := by decide +kernel
theorem D_M_init_135 : decode prog_9_method_1_code 135 = .ok (.iconst 1, 1) ∧ 135 + 1 = 136 := by decide +kernel
theorem D_M_init_136 : decode prog_9_method_1_code 136 = .ok (.iconst 4, 1) ∧ 136 + 1 = 137 := by decide +kernel
theorem D_M_init_137 : decode prog_9_method_1_code 137 = .ok (.iastore, 1) ∧ 137 + 1 = 138 := by decide +kernel
theorem D_M_init_138 : decode prog_9_method_1_code 138 = .ok (.dup, 1) ∧ 138 + 1 = 139 := by decide +kernel
theorem D_M_init_139 : decode prog_9_method_1_code 139 = .ok (.iconst 2, 1) ∧ 139 + 1 = 140 := by decide +kernel
theorem D_M_init_140 : decode prog_9_method_1_code 140 = .ok (.bipush 8, 2) ∧ 140 + 2 = 142 := by decide +kernel
theorem D_M_init_142 : decode prog_9_method_1_code 142 = .ok (.iastore, 1) ∧ 142 + 1 = 143 := by decide +kernel
theorem D_M_init_143 : decode prog_9_method_1_code 143 = .ok (.dup, 1) ∧ 143 + 1 = 144 := by decide +kernel
theorem D_M_init_144 : decode prog_9_method_1_code 144 = .ok (.iconst 3, 1) ∧ 144 + 1 = 145 := by decide +kernel
theorem D_M_init_145 : decode prog_9_method_1_code 145 = .ok (.bipush 12, 2) ∧ 145 + 2 = 147 := by decide +kernel
theorem D_M_init_147 : decode prog_9_method_1_code 147 = .ok (.iastore, 1) ∧ 147 + 1 = 148 := by decide +kernel
theorem D_M_init_148 : decode prog_9_method_1_code 148 = .ok (.putfield 33, 3) ∧ 148 + 3 = 151 := by decide +kernel
theorem D_M_init_151 : decode prog_9_method_1_code 151 = .ok (.aload_n 0, 1) ∧ 151 + 1 = 152 := by decide +kernel
theorem D_M_init_152 : decode prog_9_method_1_code 152 = .ok (.bipush 96, 2) ∧ 152 + 2 = 154 := by decide +kernel
theorem D_M_init_154 : decode prog_9_method_1_code 154 = .ok (.newarray .int, 2) ∧ 154 + 2 = 156 := by decide +kernel
theorem D_M_init_156 : decode prog_9_method_1_code 156 = .ok (.putfield 36, 3) ∧ 156 + 3 = 159 := by decide +kernel
theorem D_M_init_159 : decode prog_9_method_1_code 159 = .ok (.aload_n 0, 1) ∧ 159 + 1 = 160 := by decide +kernel
theorem D_M_init_160 : decode prog_9_method_1_code 160 = .ok (.bipush 96, 2) ∧ 160 + 2 = 162 := by decide +kernel
theorem D_M_init_162 : decode prog_9_method_1_code 162 = .ok (.newarray .int, 2) ∧ 162 + 2 = 164 := by decide +kernel
theorem D_M_init_164 : decode prog_9_method_1_code 164 = .ok (.putfield 39, 3) ∧ 164 + 3 = 167 := by decide +kernel
theorem D_M_init_167 : decode prog_9_method_1_code 167 = .ok (.aload_n 0, 1) ∧ 167 + 1 = 168 := by decide +kernel
theorem D_M_init_168 : decode prog_9_method_1_code 168 = .ok (.bipush 10, 2) ∧ 168 + 2 = 170 := by decide +kernel
theorem D_M_init_170 : decode prog_9_method_1_code 170 = .ok (.newarray .boolean, 2) ∧ 170 + 2 = 172 := by decide +kernel
theorem D_M_init_172 : decode prog_9_method_1_code 172 = .ok (.putfield 42, 3) ∧ 172 + 3 = 175 := by decide +kernel
theorem D_M_init_175 : decode prog_9_method_1_code 175 = .ok (.aload_n 0, 1) ∧ 175 + 1 = 176 := by decide +kernel
theorem D_M_init_176 : decode prog_9_method_1_code 176 = .ok (.bipush 96, 2) ∧ 176 + 2 = 178 := by decide +kernel
theorem D_M_init_178 : decode prog_9_method_1_code 178 = .ok (.newarray .int, 2) ∧ 178 + 2 = 180 := by decide +kernel
theorem D_M_init_180 : decode prog_9_method_1_code 180 = .ok (.putfield 46, 3) ∧ 180 + 3 = 183 := by decide +kernel
theorem D_M_init_183 : decode prog_9_method_1_code 183 = .ok (.aload_n 0, 1) ∧ 183 + 1 = 184 := by decide +kernel
theorem D_M_init_184 : decode prog_9_method_1_code 184 = .ok (.iconst 4, 1) ∧ 184 + 1 = 185 := by decide +kernel
theorem D_M_init_185 : decode prog_9_method_1_code 185 = .ok (.newarray .int, 2) ∧ 185 + 2 = 187 := by decide +kernel
theorem D_M_init_187 : decode prog_9_method_1_code 187 = .ok (.putfield 49, 3) ∧ 187 + 3 = 190 := by decide +kernel
theorem D_M_init_190 : decode prog_9_method_1_code 190 = .ok (.aload_n 0, 1) ∧ 190 + 1 = 191 := by decide +kernel
theorem D_M_init_191 : decode prog_9_method_1_code 191 = .ok (.iconst 4, 1) ∧ 191 + 1 = 192 := by decide +kernel
theorem D_M_init_192 : decode prog_9_method_1_code 192 = .ok (.newarray .int, 2) ∧ 192 + 2 = 194 := by decide +kernel
theorem D_M_init_194 : decode prog_9_method_1_code 194 = .ok (.dup, 1) ∧ 194 + 1 = 195 := by decide +kernel
theorem D_M_init_195 : decode prog_9_method_1_code 195 = .ok (.iconst 0, 1) ∧ 195 + 1 = 196 := by decide +kernel
theorem D_M_init_196 : decode prog_9_method_1_code 196 = .ok (.iconst (-1), 1) ∧ 196 + 1 = 197 := by decide +kernel
theorem D_M_init_197 : decode prog_9_method_1_code 197 = .ok (.iastore, 1) ∧ 197 + 1 = 198 := by decide +kernel
theorem D_M_init_198 : decode prog_9_method_1_code 198 = .ok (.dup, 1) ∧ 198 + 1 = 199 := by decide +kernel
theorem D_M_init_199 : decode prog_9_method_1_code 199 = .ok (.iconst 1, 1) ∧ 199 + 1 = 200 := by decide +kernel
theorem D_M_init_200 : decode prog_9_method_1_code 200 = .ok (.iconst (-1), 1) ∧ 200 + 1 = 201 := by decide +kernel
theorem D_M_init_201 : decode prog_9_method_1_code 201 = .ok (.iastore, 1) ∧ 201 + 1 = 202 := by decide +kernel
theorem D_M_init_202 : decode prog_9_method_1_code 202 = .ok (.dup, 1) ∧ 202 + 1 = 203 := by decide +kernel
theorem D_M_init_203 : decode prog_9_method_1_code 203 = .ok (.iconst 2, 1) ∧ 203 + 1 = 204 := by decide +kernel
theorem D_M_init_204 : decode prog_9_method_1_code 204 = .ok (.iconst (-1), 1) ∧ 204 + 1 = 205 := by decide +kernel
theorem D_M_init_205 : decode prog_9_method_1_code 205 = .ok (.iastore, 1) ∧ 205 + 1 = 206 := by decide +kernel
theorem D_M_init_206 : decode prog_9_method_1_code 206 = .ok (.dup, 1) ∧ 206 + 1 = 207 := by decide +kernel
theorem D_M_init_207 : decode prog_9_method_1_code 207 = .ok (.iconst 3, 1) ∧ 207 + 1 = 208 := by decide +kernel
theorem D_M_init_208 : decode prog_9_method_1_code 208 = .ok (.iconst (-1), 1) ∧ 208 + 1 = 209 := by decide +kernel
theorem D_M_init_209 : decode prog_9_method_1_code 209 = .ok (.iastore, 1) ∧ 209 + 1 = 210 := by decide +kernel
theorem D_M_init_210 : decode prog_9_method_1_code 210 = .ok (.putfield 52, 3) ∧ 210 + 3 = 213 := by decide +kernel
theorem D_M_init_213 : decode prog_9_method_1_code 213 = .ok (.aload_n 0, 1) ∧ 213 + 1 = 214 := by decide +kernel
theorem D_M_init_214 : decode prog_9_method_1_code 214 = .ok (.iconst 4, 1) ∧ 214 + 1 = 215 := by decide +kernel
theorem D_M_init_215 : decode prog_9_method_1_code 215 = .ok (.newarray .int, 2) ∧ 215 + 2 = 217 := by decide +kernel
theorem D_M_init_217 : decode prog_9_method_1_code 217 = .ok (.putfield 55, 3) ∧ 217 + 3 = 220 := by decide +kernel
theorem D_M_init_220 : decode prog_9_method_1_code 220 = .ok (.aload_n 0, 1) ∧ 220 + 1 = 221 := by decide +kernel
theorem D_M_init_221 : decode prog_9_method_1_code 221 = .ok (.bipush 96, 2) ∧ 221 + 2 = 223 := by decide +kernel
theorem D_M_init_223 : decode prog_9_method_1_code 223 = .ok (.newarray .int, 2) ∧ 223 + 2 = 225 := by decide +kernel
theorem D_M_init_225 : decode prog_9_method_1_code 225 = .ok (.putfield 58, 3) ∧ 225 + 3 = 228 := by decide +kernel
theorem D_M_init_228 : decode prog_9_method_1_code 228 = .ok (.aload_n 0, 1) ∧ 228 + 1 = 229 := by decide +kernel
theorem D_M_init_229 : decode prog_9_method_1_code 229 = .ok (.iconst 5, 1) ∧ 229 + 1 = 230 := by decide +kernel
theorem D_M_init_230 : decode prog_9_method_1_code 230 = .ok (.newarray .int, 2) ∧ 230 + 2 = 232 := by decide +kernel
theorem D_M_init_232 : decode prog_9_method_1_code 232 = .ok (.putfield 61, 3) ∧ 232 + 3 = 235 := by decide +kernel
theorem D_M_init_235 : decode prog_9_method_1_code 235 = .ok (.aload_n 0, 1) ∧ 235 + 1 = 236 := by decide +kernel
theorem D_M_init_236 : decode prog_9_method_1_code 236 = .ok (.iconst 5, 1) ∧ 236 + 1 = 237 := by decide +kernel
theorem D_M_init_237 : decode prog_9_method_1_code 237 = .ok (.newarray .int, 2) ∧ 237 + 2 = 239 := by decide +kernel
theorem D_M_init_239 : decode prog_9_method_1_code 239 = .ok (.putfield 64, 3) ∧ 239 + 3 = 242 := by decide +kernel
theorem D_M_init_242 : decode prog_9_method_1_code 242 = .ok (.aload_n 0, 1) ∧ 242 + 1 = 243 := by decide +kernel
theorem D_M_init_243 : decode prog_9_method_1_code 243 = .ok (.iconst 5, 1) ∧ 243 + 1 = 244 := by decide +kernel
theorem D_M_init_244 : decode prog_9_method_1_code 244 = .ok (.newarray .int, 2) ∧ 244 + 2 = 246 := by decide +kernel
theorem D_M_init_246 : decode prog_9_method_1_code 246 = .ok (.putfield 67, 3) ∧ 246 + 3 = 249 := by decide +kernel
theorem D_M_init_249 : decode prog_9_method_1_code 249 = .ok (.aload_n 0, 1) ∧ 249 + 1 = 250 := by decide +kernel
theorem D_M_init_250 : decode prog_9_method_1_code 250 = .ok (.bipush 120, 2) ∧ 250 + 2 = 252 := by decide +kernel
theorem D_M_init_252 : decode prog_9_method_1_code 252 = .ok (.newarray .int, 2) ∧ 252 + 2 = 254 := by decide +kernel
theorem D_M_init_254 : decode prog_9_method_1_code 254 = .ok (.putfield 70, 3) ∧ 254 + 3 = 257 := by decide +kernel
theorem D_M_init_257 : decode prog_9_method_1_code 257 = .ok (.aload_n 0, 1) ∧ 257 + 1 = 258 := by decide +kernel
theorem D_M_init_258 : decode prog_9_method_1_code 258 = .ok (.bipush 24, 2) ∧ 258 + 2 = 260 := by decide +kernel
theorem D_M_init_260 : decode prog_9_method_1_code 260 = .ok (.newarray .int, 2) ∧ 260 + 2 = 262 := by decide +kernel
theorem D_M_init_262 : decode prog_9_method_1_code 262 = .ok (.putfield 73, 3) ∧ 262 + 3 = 265 := by decide +kernel
theorem D_M_init_265 : decode prog_9_method_1_code 265 = .ok (.aload_n 0, 1) ∧ 265 + 1 = 266 := by decide +kernel
theorem D_M_init_266 : decode prog_9_method_1_code 266 = .ok (.bipush 60, 2) ∧ 266 + 2 = 268 := by decide +kernel
theorem D_M_init_268 : decode prog_9_method_1_code 268 = .ok (.newarray .int, 2) ∧ 268 + 2 = 270 := by decide +kernel
theorem D_M_init_270 : decode prog_9_method_1_code 270 = .ok (.putfield 76, 3) ∧ 270 + 3 = 273 := by decide +kernel
theorem D_M_init_273 : decode prog_9_method_1_code 273 = .ok (.aload_n 0, 1) ∧ 273 + 1 = 274 := by decide +kernel
theorem D_M_init_274 : decode prog_9_method_1_code 274 = .ok (.getfield 9, 3) ∧ 274 + 3 = 277 := by decide +kernel
theorem D_M_init_277 : decode prog_9_method_1_code 277 = .ok (.iconst 0, 1) ∧ 277 + 1 = 278 := by decide +kernel
theorem D_M_init_278 : decode prog_9_method_1_code 278 = .ok (.iconst 1, 1) ∧ 278 + 1 = 279 := by decide +kernel
theorem D_M_init_279 : decode prog_9_method_1_code 279 = .ok (.iastore, 1) ∧ 279 + 1 = 280 := by decide +kernel
theorem D_M_init_280 : decode prog_9_method_1_code 280 = .ok (.aload_n 0, 1) ∧ 280 + 1 = 281 := by decide +kernel
theorem D_M_init_281 : decode prog_9_method_1_code 281 = .ok (.getfield 9, 3) ∧ 281 + 3 = 284 := by decide +kernel
theorem D_M_init_284 : decode prog_9_method_1_code 284 = .ok (.iconst 3, 1) ∧ 284 + 1 = 285 := by decide +kernel
theorem D_M_init_285 : decode prog_9_method_1_code 285 = .ok (.bipush 10, 2) ∧ 285 + 2 = 287 := by decide +kernel
theorem D_M_init_287 : decode prog_9_method_1_code 287 = .ok (.iastore, 1) ∧ 287 + 1 = 288 := by decide +kernel
theorem D_M_init_288 : decode prog_9_method_1_code 288 = .ok (.iconst 0, 1) ∧ 288 + 1 = 289 := by decide +kernel
theorem D_M_init_289 : decode prog_9_method_1_code 289 = .ok (.istore_n 1, 1) ∧ 289 + 1 = 290 := by decide +kernel
theorem D_M_init_290 : decode prog_9_method_1_code 290 = .ok (.iload_n 1, 1) ∧ 290 + 1 = 291 := by decide +kernel
theorem D_M_init_291 : decode prog_9_method_1_code 291 = .ok (.iconst 3, 1) ∧ 291 + 1 = 292 := by decide +kernel
theorem D_M_init_292 : decode prog_9_method_1_code 292 = .ok (.if_icmp .ge 21, 3) ∧ ((292 : Nat) : Int) + 21 = ((313 : Nat) : Int) ∧ 292 + 3 = 295 := by decide +kernel
theorem D_M_init_295 : decode prog_9_method_1_code 295 = .ok (.aload_n 0, 1) ∧ 295 + 1 = 296 := by decide +kernel
theorem D_M_init_296 : decode prog_9_method_1_code 296 = .ok (.getfield 9, 3) ∧ 296 + 3 = 299 := by decide +kernel
theorem D_M_init_299 : decode prog_9_method_1_code 299 = .ok (.bipush 7, 2) ∧ 299 + 2 = 301 := by decide +kernel
theorem D_M_init_301 : decode prog_9_method_1_code 301 = .ok (.iload_n 1, 1) ∧ 301 + 1 = 302 := by decide +kernel
theorem D_M_init_302 : decode prog_9_method_1_code 302 = .ok (.iadd, 1) ∧ 302 + 1 = 303 := by decide +kernel
theorem D_M_init_303 : decode prog_9_method_1_code 303 = .ok (.sipush 1000, 3) ∧ 303 + 3 = 306 := by decide +kernel
theorem D_M_init_306 : decode prog_9_method_1_code 306 = .ok (.iastore, 1) ∧ 306 + 1 = 307 := by decide +kernel
theorem D_M_init_307 : decode prog_9_method_1_code 307 = .ok (.iinc 1 1, 3) ∧ 307 + 3 = 310 := by decide +kernel
theorem D_M_init_310 : decode prog_9_method_1_code 310 = .ok (.goto (-20), 3) ∧ ((310 : Nat) : Int) + (-20) = ((290 : Nat) : Int) := by decide +kernel
theorem D_M_init_313 : decode prog_9_method_1_code 313 = .ok (.iconst 0, 1) ∧ 313 + 1 = 314 := by decide +kernel
theorem D_M_init_314 : decode prog_9_method_1_code 314 = .ok (.istore_n 1, 1) ∧ 314 + 1 = 315 := by decide +kernel
theorem D_M_init_315 : decode prog_9_method_1_code 315 = .ok (.iload_n 1, 1) ∧ 315 + 1 = 316 := by decide +kernel
theorem D_M_init_316 : decode prog_9_method_1_code 316 = .ok (.bipush 6, 2) ∧ 316 + 2 = 318 := by decide +kernel
theorem D_M_init_318 : decode prog_9_method_1_code 318 = .ok (.if_icmp .ge 22, 3) ∧ ((318 : Nat) : Int) + 22 = ((340 : Nat) : Int) ∧ 318 + 3 = 321 := by decide +kernel
theorem D_M_init_321 : decode prog_9_method_1_code 321 = .ok (.aload_n 0, 1) ∧ 321 + 1 = 322 := by decide +kernel
theorem D_M_init_322 : decode prog_9_method_1_code 322 = .ok (.getfield 9, 3) ∧ 322 + 3 = 325 := by decide +kernel
theorem D_M_init_325 : decode prog_9_method_1_code 325 = .ok (.bipush 10, 2) ∧ 325 + 2 = 327 := by decide +kernel
theorem D_M_init_327 : decode prog_9_method_1_code 327 = .ok (.iconst 4, 1) ∧ 327 + 1 = 328 := by decide +kernel
theorem D_M_init_328 : decode prog_9_method_1_code 328 = .ok (.iload_n 1, 1) ∧ 328 + 1 = 329 := by decide +kernel
theorem D_M_init_329 : decode prog_9_method_1_code 329 = .ok (.imul, 1) ∧ 329 + 1 = 330 := by decide +kernel
theorem D_M_init_330 : decode prog_9_method_1_code 330 = .ok (.iadd, 1) ∧ 330 + 1 = 331 := by decide +kernel
theorem D_M_init_331 : decode prog_9_method_1_code 331 = .ok (.bipush 100, 2) ∧ 331 + 2 = 333 := by decide +kernel
theorem D_M_init_333 : decode prog_9_method_1_code 333 = .ok (.iastore, 1) ∧ 333 + 1 = 334 := by decide +kernel
theorem D_M_init_334 : decode prog_9_method_1_code 334 = .ok (.iinc 1 1, 3) ∧ 334 + 3 = 337 := by decide +kernel
theorem D_M_init_337 : decode prog_9_method_1_code 337 = .ok (.goto (-22), 3) ∧ ((337 : Nat) : Int) + (-22) = ((315 : Nat) : Int) := by decide +kernel
theorem D_M_init_340 : decode prog_9_method_1_code 340 = .ok (.return_, 1) := by decide +kernel
def g_M_init_0 (mem : Mm) : Mm := (mst (va_up (va_up (va_up (mst (va_up (va_up (va_up mem (91 + 1) (fun _ => 0)) (91 + 2) (fun _ => 0)) (91 + 3) (fun _ => 0)) (91 + 0) 4 (-1)) (91 + 4) (fun _ => 0)) (91 + 5) (fun _ => 0)) (91 + 6) (fun _ => 0)) (91 + 6) (ix 0) 112)
def g_M_init_1 (mem : Mm) : Mm := (mst (mst (mst (mst (mst (mst (mst (mst (mst (mst (mst mem (91 + 6) (ix 1) 111) (91 + 6) (ix 2) 117) (91 + 6) (ix 3) 114) (91 + 6) (ix 4) 98) (91 + 6) (ix 5) 97) (91 + 6) (ix 6) 99) (91 + 6) (ix 7) 107) (91 + 6) (ix 8) 102) (91 + 6) (ix 9) 105) (91 + 6) (ix 10) 110) (91 + 6) (ix 11) 101)
def g_M_init_2 (mem : Mm) : Mm := (va_up (va_up (va_up (va_up (mst (mst (mst (mst (va_up mem (91 + 7) (fun _ => 0)) (91 + 7) (ix 0) 0) (91 + 7) (ix 1) 4) (91 + 7) (ix 2) 8) (91 + 7) (ix 3) 12) (91 + 8) (fun _ => 0)) (91 + 9) (fun _ => 0)) (91 + 10) (fun _ => 0)) (91 + 11) (fun _ => 0))
def g_M_init_3 (mem : Mm) : Mm := (va_up (va_up (va_up (mst (mst (mst (mst (va_up (va_up mem (91 + 12) (fun _ => 0)) (91 + 13) (fun _ => 0)) (91 + 13) (ix 0) (-1)) (91 + 13) (ix 1) (-1)) (91 + 13) (ix 2) (-1)) (91 + 13) (ix 3) (-1)) (91 + 14) (fun _ => 0)) (91 + 15) (fun _ => 0)) (91 + 16) (fun _ => 0))
def g_M_init_4 (mem : Mm) : Mm := (mst (mst (va_up (va_up (va_up (va_up (va_up mem (91 + 17) (fun _ => 0)) (91 + 18) (fun _ => 0)) (91 + 19) (fun _ => 0)) (91 + 20) (fun _ => 0)) (91 + 21) (fun _ => 0)) (91 + 1) (ix 0) 1) (91 + 1) (ix 3) 10)
def g_M_init_5 (mem : Mm) : Mm := (mst (mst (mst mem (91 + 1) (ix 7) 1000) (91 + 1) (ix 8) 1000) (91 + 1) (ix 9) 1000)
def g_M_init_6 (mem : Mm) : Mm := (mst (mst (mst mem (91 + 1) (ix 10) 100) (91 + 1) (ix 14) 100) (91 + 1) (ix 18) 100)
def g_M_init_7 (mem : Mm) : Mm := (mst (mst (mst mem (91 + 1) (ix 22) 100) (91 + 1) (ix 26) 100) (91 + 1) (ix 30) 100)
def g_M_init_8 (mem : Mm) : Mm := mem
def f_M_init (mem : Mm) : Mm := g_M_init_8 (g_M_init_7 (g_M_init_6 (g_M_init_5 (g_M_init_4 (g_M_init_3 (g_M_init_2 (g_M_init_1 (g_M_init_0 (mem)))))))))
set_option maxHeartbeats 2000000 in
theorem K_M_init_0 {X : Cx} {E : En} {mem : Mm} (S0 : Std (cxK X 0 0) E prog_9_method_1_code R6 2 1) (hRm : cxR X = rmN 1 21 5109) (hin : (cxT X).name = "<init>") (hz : (cxS X).heap.size = eb E + (91 + 1)) (hKx : Kx (cxS X)) (kk : J (cxK X 6 4480) E 2 64 [(0, .ref (eb E + (91 + 0)))] [.int 1, .ref (eb E + (91 + 6)), .ref (eb E + (91 + 6)), .ref (eb E + (91 + 0))] ((SH.take 91) ++ [.inl (6, [some (some (91 + 1)), some (some (91 + 2)), some (some (91 + 3)), none, none, some (some (91 + 4)), some (some (91 + 5)), none, none, none, none, none, none, none, some none, some none, some none, none, none, some none, none, some none, some none, some none, some none, some none, some none, some none, some none, some none, some none, some none, some none, none]), .inr (.inl (0, 1436)), .inr (.inl (0, 1436)), .inr (.inl (0, 1436)), .inr (.inl (0, 64)), .inr (.inl (0, 96)), .inr (.inl (2, 12))]) (g_M_init_0 mem)) : J (cxK X 0 0) E 2 0 [(0, .ref (eb E + (91 + 0)))] [] ((SH.take 91) ++ [.inl (6, [some none, some none, some none, none, none, some none, some none, none, none, none, none, none, none, none, some none, some none, some none, none, none, some none, none, some none, some none, some none, some none, some none, some none, some none, some none, some none, some none, some none, some none, none])]) mem := by
  have hn : ((SH.take 91) : List Sh).length = 91 := rfl
  have S : Std (cxK X 0 0) E prog_9_method_1_code R6 2 1 := stdK0 S0 (rc hRm (Nat.le_of_ble_eq_true rfl)) (ro hRm (Nat.le_of_ble_eq_true rfl))
  refine j_aload_n S D_M_init_0 0 rfl rfl ?_
  refine k_obj S (by decide) D_M_init_1 ob_R6_1 (Nat.le_of_ble_eq_true rfl) ?_
  refine j_aload_n S D_M_init_4 0 rfl rfl ?_
  refine j_sipush S D_M_init_5 cs_1436 ?_
  refine k_newA (j := 1) (at0 := .int) (ty := .int) S ⟨by omega, by omega⟩ hn rfl D_M_init_8 arc_0 rfl rfl rfl (by decide +kernel) ⟨rfl, rfl, rc hRm (Nat.le_of_ble_eq_true rfl), ro hRm (Nat.le_of_ble_eq_true rfl)⟩ (L2 := [.inl (6, [some none, some none, some none, none, none, some none, some none, none, none, none, none, none, none, none, some none, some none, some none, none, none, some none, none, some none, some none, some none, some none, some none, some none, some none, some none, some none, some none, some none, some none, none]), .inr (.inl (0, 1436))]) rfl ?_
  have S : Std (cxK X 1 1436) E prog_9_method_1_code R6 2 1 := stdK0 S0 (rc hRm (Nat.le_of_ble_eq_true rfl)) (ro hRm (Nat.le_of_ble_eq_true rfl))
  refine k_putR S hin D_M_init_10 pr_R6_9 (fun _ => ⟨rfl, rfl⟩) (pfx hn rfl) rfl ?_
  refine j_shp (pset hn (L2 := [.inl (6, [some (some (91 + 1)), some none, some none, none, none, some none, some none, none, none, none, none, none, none, none, some none, some none, some none, none, none, some none, none, some none, some none, some none, some none, some none, some none, some none, some none, some none, some none, some none, some none, none]), .inr (.inl (0, 1436))]) rfl) ?_
  refine j_aload_n S D_M_init_13 0 rfl rfl ?_
  refine j_sipush S D_M_init_14 cs_1436 ?_
  refine k_newA (j := 2) (at0 := .int) (ty := .int) S ⟨by omega, by omega⟩ hn rfl D_M_init_17 arc_0 rfl rfl rfl (by decide +kernel) ⟨rfl, rfl, rc hRm (Nat.le_of_ble_eq_true rfl), ro hRm (Nat.le_of_ble_eq_true rfl)⟩ (L2 := [.inl (6, [some (some (91 + 1)), some none, some none, none, none, some none, some none, none, none, none, none, none, none, none, some none, some none, some none, none, none, some none, none, some none, some none, some none, some none, some none, some none, some none, some none, some none, some none, some none, some none, none]), .inr (.inl (0, 1436)), .inr (.inl (0, 1436))]) rfl ?_
  have S : Std (cxK X 2 2872) E prog_9_method_1_code R6 2 1 := stdK0 S0 (rc hRm (Nat.le_of_ble_eq_true rfl)) (ro hRm (Nat.le_of_ble_eq_true rfl))
  refine k_putR S hin D_M_init_19 pr_R6_13 (fun _ => ⟨rfl, rfl⟩) (pfx hn rfl) rfl ?_
  refine j_shp (pset hn (L2 := [.inl (6, [some (some (91 + 1)), some (some (91 + 2)), some none, none, none, some none, some none, none, none, none, none, none, none, none, some none, some none, some none, none, none, some none, none, some none, some none, some none, some none, some none, some none, some none, some none, some none, some none, some none, some none, none]), .inr (.inl (0, 1436)), .inr (.inl (0, 1436))]) rfl) ?_
  refine j_aload_n S D_M_init_22 0 rfl rfl ?_
  refine j_sipush S D_M_init_23 cs_1436 ?_
  refine k_newA (j := 3) (at0 := .int) (ty := .int) S ⟨by omega, by omega⟩ hn rfl D_M_init_26 arc_0 rfl rfl rfl (by decide +kernel) ⟨rfl, rfl, rc hRm (Nat.le_of_ble_eq_true rfl), ro hRm (Nat.le_of_ble_eq_true rfl)⟩ (L2 := [.inl (6, [some (some (91 + 1)), some (some (91 + 2)), some none, none, none, some none, some none, none, none, none, none, none, none, none, some none, some none, some none, none, none, some none, none, some none, some none, some none, some none, some none, some none, some none, some none, some none, some none, some none, some none, none]), .inr (.inl (0, 1436)), .inr (.inl (0, 1436)), .inr (.inl (0, 1436))]) rfl ?_
  have S : Std (cxK X 3 4308) E prog_9_method_1_code R6 2 1 := stdK0 S0 (rc hRm (Nat.le_of_ble_eq_true rfl)) (ro hRm (Nat.le_of_ble_eq_true rfl))
  refine k_putR S hin D_M_init_28 pr_R6_16 (fun _ => ⟨rfl, rfl⟩) (pfx hn rfl) rfl ?_
  refine j_shp (pset hn (L2 := [.inl (6, [some (some (91 + 1)), some (some (91 + 2)), some (some (91 + 3)), none, none, some none, some none, none, none, none, none, none, none, none, some none, some none, some none, none, none, some none, none, some none, some none, some none, some none, some none, some none, some none, some none, some none, some none, some none, some none, none]), .inr (.inl (0, 1436)), .inr (.inl (0, 1436)), .inr (.inl (0, 1436))]) rfl) ?_
  refine j_aload_n S D_M_init_31 0 rfl rfl ?_
  refine j_iconst S D_M_init_32 ci_m1 ?_
  refine j_putI S D_M_init_33 fp_R6_19 (pfx hn rfl) rfl ?_
  refine j_aload_n S D_M_init_36 0 rfl rfl ?_
  refine j_bipush S D_M_init_37 cb_64 ?_
  refine k_newA (j := 4) (at0 := .int) (ty := .int) S ⟨by omega, by omega⟩ hn rfl D_M_init_39 arc_0 rfl rfl rfl (by decide +kernel) ⟨rfl, rfl, rc hRm (Nat.le_of_ble_eq_true rfl), ro hRm (Nat.le_of_ble_eq_true rfl)⟩ (L2 := [.inl (6, [some (some (91 + 1)), some (some (91 + 2)), some (some (91 + 3)), none, none, some none, some none, none, none, none, none, none, none, none, some none, some none, some none, none, none, some none, none, some none, some none, some none, some none, some none, some none, some none, some none, some none, some none, some none, some none, none]), .inr (.inl (0, 1436)), .inr (.inl (0, 1436)), .inr (.inl (0, 1436)), .inr (.inl (0, 64))]) rfl ?_
  have S : Std (cxK X 4 4372) E prog_9_method_1_code R6 2 1 := stdK0 S0 (rc hRm (Nat.le_of_ble_eq_true rfl)) (ro hRm (Nat.le_of_ble_eq_true rfl))
  refine k_putR S hin D_M_init_41 pr_R6_23 (fun _ => ⟨rfl, rfl⟩) (pfx hn rfl) rfl ?_
  refine j_shp (pset hn (L2 := [.inl (6, [some (some (91 + 1)), some (some (91 + 2)), some (some (91 + 3)), none, none, some (some (91 + 4)), some none, none, none, none, none, none, none, none, some none, some none, some none, none, none, some none, none, some none, some none, some none, some none, some none, some none, some none, some none, some none, some none, some none, some none, none]), .inr (.inl (0, 1436)), .inr (.inl (0, 1436)), .inr (.inl (0, 1436)), .inr (.inl (0, 64))]) rfl) ?_
  refine j_aload_n S D_M_init_44 0 rfl rfl ?_
  refine j_bipush S D_M_init_45 cb_96 ?_
  refine k_newA (j := 5) (at0 := .int) (ty := .int) S ⟨by omega, by omega⟩ hn rfl D_M_init_47 arc_0 rfl rfl rfl (by decide +kernel) ⟨rfl, rfl, rc hRm (Nat.le_of_ble_eq_true rfl), ro hRm (Nat.le_of_ble_eq_true rfl)⟩ (L2 := [.inl (6, [some (some (91 + 1)), some (some (91 + 2)), some (some (91 + 3)), none, none, some (some (91 + 4)), some none, none, none, none, none, none, none, none, some none, some none, some none, none, none, some none, none, some none, some none, some none, some none, some none, some none, some none, some none, some none, some none, some none, some none, none]), .inr (.inl (0, 1436)), .inr (.inl (0, 1436)), .inr (.inl (0, 1436)), .inr (.inl (0, 64)), .inr (.inl (0, 96))]) rfl ?_
  have S : Std (cxK X 5 4468) E prog_9_method_1_code R6 2 1 := stdK0 S0 (rc hRm (Nat.le_of_ble_eq_true rfl)) (ro hRm (Nat.le_of_ble_eq_true rfl))
  refine k_putR S hin D_M_init_49 pr_R6_26 (fun _ => ⟨rfl, rfl⟩) (pfx hn rfl) rfl ?_
  refine j_shp (pset hn (L2 := [.inl (6, [some (some (91 + 1)), some (some (91 + 2)), some (some (91 + 3)), none, none, some (some (91 + 4)), some (some (91 + 5)), none, none, none, none, none, none, none, some none, some none, some none, none, none, some none, none, some none, some none, some none, some none, some none, some none, some none, some none, some none, some none, some none, some none, none]), .inr (.inl (0, 1436)), .inr (.inl (0, 1436)), .inr (.inl (0, 1436)), .inr (.inl (0, 64)), .inr (.inl (0, 96))]) rfl) ?_
  refine j_aload_n S D_M_init_52 0 rfl rfl ?_
  refine j_bipush S D_M_init_53 cb_12 ?_
  refine k_newA (j := 6) (at0 := .char) (ty := .char) S ⟨by omega, by omega⟩ hn rfl D_M_init_55 arc_2 rfl rfl rfl (by decide +kernel) ⟨rfl, rfl, rc hRm (Nat.le_of_ble_eq_true rfl), ro hRm (Nat.le_of_ble_eq_true rfl)⟩ (L2 := [.inl (6, [some (some (91 + 1)), some (some (91 + 2)), some (some (91 + 3)), none, none, some (some (91 + 4)), some (some (91 + 5)), none, none, none, none, none, none, none, some none, some none, some none, none, none, some none, none, some none, some none, some none, some none, some none, some none, some none, some none, some none, some none, some none, some none, none]), .inr (.inl (0, 1436)), .inr (.inl (0, 1436)), .inr (.inl (0, 1436)), .inr (.inl (0, 64)), .inr (.inl (0, 96)), .inr (.inl (2, 12))]) rfl ?_
  have S : Std (cxK X 6 4480) E prog_9_method_1_code R6 2 1 := stdK0 S0 (rc hRm (Nat.le_of_ble_eq_true rfl)) (ro hRm (Nat.le_of_ble_eq_true rfl))
  refine j_dup S D_M_init_57 rfl ?_
  refine j_iconst S D_M_init_58 ci_0 ?_
  refine j_bipush S D_M_init_59 cb_112 ?_
  refine k_cast S D_M_init_61 (pfx hn rfl) inbc_0_12 (by decide +kernel) ?_
  refine j_dup S D_M_init_62 rfl ?_
  refine j_iconst S D_M_init_63 ci_1 ?_
  exact kk
set_option maxHeartbeats 2000000 in
theorem K_M_init_1 {X : Cx} {E : En} {mem : Mm} (S0 : Std (cxK X 0 0) E prog_9_method_1_code R6 2 1) (hRm : cxR X = rmN 1 21 5109) (hin : (cxT X).name = "<init>") (hz : (cxS X).heap.size = eb E + (91 + 1)) (hKx : Kx (cxS X)) (kk : J (cxK X 6 4480) E 2 127 [(0, .ref (eb E + (91 + 0)))] [.ref (eb E + (91 + 0))] ((SH.take 91) ++ [.inl (6, [some (some (91 + 1)), some (some (91 + 2)), some (some (91 + 3)), none, none, some (some (91 + 4)), some (some (91 + 5)), none, none, none, none, none, none, none, some (some (91 + 6)), some none, some none, none, none, some none, none, some none, some none, some none, some none, some none, some none, some none, some none, some none, some none, some none, some none, none]), .inr (.inl (0, 1436)), .inr (.inl (0, 1436)), .inr (.inl (0, 1436)), .inr (.inl (0, 64)), .inr (.inl (0, 96)), .inr (.inl (2, 12))]) (g_M_init_1 mem)) : J (cxK X 6 4480) E 2 64 [(0, .ref (eb E + (91 + 0)))] [.int 1, .ref (eb E + (91 + 6)), .ref (eb E + (91 + 6)), .ref (eb E + (91 + 0))] ((SH.take 91) ++ [.inl (6, [some (some (91 + 1)), some (some (91 + 2)), some (some (91 + 3)), none, none, some (some (91 + 4)), some (some (91 + 5)), none, none, none, none, none, none, none, some none, some none, some none, none, none, some none, none, some none, some none, some none, some none, some none, some none, some none, some none, some none, some none, some none, some none, none]), .inr (.inl (0, 1436)), .inr (.inl (0, 1436)), .inr (.inl (0, 1436)), .inr (.inl (0, 64)), .inr (.inl (0, 96)), .inr (.inl (2, 12))]) mem := by
  have hn : ((SH.take 91) : List Sh).length = 91 := rfl
  have S : Std (cxK X 6 4480) E prog_9_method_1_code R6 2 1 := stdK0 S0 (rc hRm (Nat.le_of_ble_eq_true rfl)) (ro hRm (Nat.le_of_ble_eq_true rfl))
  refine j_bipush S D_M_init_64 cb_111 ?_
  refine k_cast S D_M_init_66 (pfx hn rfl) inbc_1_12 (by decide +kernel) ?_
  refine j_dup S D_M_init_67 rfl ?_
  refine j_iconst S D_M_init_68 ci_2 ?_
  refine j_bipush S D_M_init_69 cb_117 ?_
  refine k_cast S D_M_init_71 (pfx hn rfl) inbc_2_12 (by decide +kernel) ?_
  refine j_dup S D_M_init_72 rfl ?_
  refine j_iconst S D_M_init_73 ci_3 ?_
  refine j_bipush S D_M_init_74 cb_114 ?_
  refine k_cast S D_M_init_76 (pfx hn rfl) inbc_3_12 (by decide +kernel) ?_
  refine j_dup S D_M_init_77 rfl ?_
  refine j_iconst S D_M_init_78 ci_4 ?_
  refine j_bipush S D_M_init_79 cb_98 ?_
  refine k_cast S D_M_init_81 (pfx hn rfl) inbc_4_12 (by decide +kernel) ?_
  refine j_dup S D_M_init_82 rfl ?_
  refine j_iconst S D_M_init_83 ci_5 ?_
  refine j_bipush S D_M_init_84 cb_97 ?_
  refine k_cast S D_M_init_86 (pfx hn rfl) inbc_5_12 (by decide +kernel) ?_
  refine j_dup S D_M_init_87 rfl ?_
  refine j_bipush S D_M_init_88 cb_6 ?_
  refine j_bipush S D_M_init_90 cb_99 ?_
  refine k_cast S D_M_init_92 (pfx hn rfl) inbc_6_12 (by decide +kernel) ?_
  refine j_dup S D_M_init_93 rfl ?_
  refine j_bipush S D_M_init_94 cb_7 ?_
  refine j_bipush S D_M_init_96 cb_107 ?_
  refine k_cast S D_M_init_98 (pfx hn rfl) inbc_7_12 (by decide +kernel) ?_
  refine j_dup S D_M_init_99 rfl ?_
  refine j_bipush S D_M_init_100 cb_8 ?_
  refine j_bipush S D_M_init_102 cb_102 ?_
  refine k_cast S D_M_init_104 (pfx hn rfl) inbc_8_12 (by decide +kernel) ?_
  refine j_dup S D_M_init_105 rfl ?_
  refine j_bipush S D_M_init_106 cb_9 ?_
  refine j_bipush S D_M_init_108 cb_105 ?_
  refine k_cast S D_M_init_110 (pfx hn rfl) inbc_9_12 (by decide +kernel) ?_
  refine j_dup S D_M_init_111 rfl ?_
  refine j_bipush S D_M_init_112 cb_10 ?_
  refine j_bipush S D_M_init_114 cb_110 ?_
  refine k_cast S D_M_init_116 (pfx hn rfl) inbc_10_12 (by decide +kernel) ?_
  refine j_dup S D_M_init_117 rfl ?_
  refine j_bipush S D_M_init_118 cb_11 ?_
  refine j_bipush S D_M_init_120 cb_101 ?_
  refine k_cast S D_M_init_122 (pfx hn rfl) inbc_11_12 (by decide +kernel) ?_
  refine k_putR S hin D_M_init_123 pr_R6_29 (fun _ => ⟨rfl, rfl⟩) (pfx hn rfl) rfl ?_
  refine j_shp (pset hn (L2 := [.inl (6, [some (some (91 + 1)), some (some (91 + 2)), some (some (91 + 3)), none, none, some (some (91 + 4)), some (some (91 + 5)), none, none, none, none, none, none, none, some (some (91 + 6)), some none, some none, none, none, some none, none, some none, some none, some none, some none, some none, some none, some none, some none, some none, some none, some none, some none, none]), .inr (.inl (0, 1436)), .inr (.inl (0, 1436)), .inr (.inl (0, 1436)), .inr (.inl (0, 64)), .inr (.inl (0, 96)), .inr (.inl (2, 12))]) rfl) ?_
  refine j_aload_n S D_M_init_126 0 rfl rfl ?_
  exact kk
set_option maxHeartbeats 2000000 in
theorem K_M_init_2 {X : Cx} {E : En} {mem : Mm} (S0 : Std (cxK X 0 0) E prog_9_method_1_code R6 2 1) (hRm : cxR X = rmN 1 21 5109) (hin : (cxT X).name = "<init>") (hz : (cxS X).heap.size = eb E + (91 + 1)) (hKx : Kx (cxS X)) (kk : J (cxK X 11 4782) E 2 183 [(0, .ref (eb E + (91 + 0)))] [] ((SH.take 91) ++ [.inl (6, [some (some (91 + 1)), some (some (91 + 2)), some (some (91 + 3)), none, none, some (some (91 + 4)), some (some (91 + 5)), none, none, none, none, none, none, none, some (some (91 + 6)), some (some (91 + 7)), some (some (91 + 8)), none, none, some (some (91 + 9)), none, some (some (91 + 10)), some (some (91 + 11)), some none, some none, some none, some none, some none, some none, some none, some none, some none, some none, none]), .inr (.inl (0, 1436)), .inr (.inl (0, 1436)), .inr (.inl (0, 1436)), .inr (.inl (0, 64)), .inr (.inl (0, 96)), .inr (.inl (2, 12)), .inr (.inl (0, 4)), .inr (.inl (0, 96)), .inr (.inl (0, 96)), .inr (.inl (1, 10)), .inr (.inl (0, 96))]) (g_M_init_2 mem)) : J (cxK X 6 4480) E 2 127 [(0, .ref (eb E + (91 + 0)))] [.ref (eb E + (91 + 0))] ((SH.take 91) ++ [.inl (6, [some (some (91 + 1)), some (some (91 + 2)), some (some (91 + 3)), none, none, some (some (91 + 4)), some (some (91 + 5)), none, none, none, none, none, none, none, some (some (91 + 6)), some none, some none, none, none, some none, none, some none, some none, some none, some none, some none, some none, some none, some none, some none, some none, some none, some none, none]), .inr (.inl (0, 1436)), .inr (.inl (0, 1436)), .inr (.inl (0, 1436)), .inr (.inl (0, 64)), .inr (.inl (0, 96)), .inr (.inl (2, 12))]) mem := by
  have hn : ((SH.take 91) : List Sh).length = 91 := rfl
  have S : Std (cxK X 6 4480) E prog_9_method_1_code R6 2 1 := stdK0 S0 (rc hRm (Nat.le_of_ble_eq_true rfl)) (ro hRm (Nat.le_of_ble_eq_true rfl))
  refine j_iconst S D_M_init_127 ci_4 ?_
  refine k_newA (j := 7) (at0 := .int) (ty := .int) S ⟨by omega, by omega⟩ hn rfl D_M_init_128 arc_0 rfl rfl rfl (by decide +kernel) ⟨rfl, rfl, rc hRm (Nat.le_of_ble_eq_true rfl), ro hRm (Nat.le_of_ble_eq_true rfl)⟩ (L2 := [.inl (6, [some (some (91 + 1)), some (some (91 + 2)), some (some (91 + 3)), none, none, some (some (91 + 4)), some (some (91 + 5)), none, none, none, none, none, none, none, some (some (91 + 6)), some none, some none, none, none, some none, none, some none, some none, some none, some none, some none, some none, some none, some none, some none, some none, some none, some none, none]), .inr (.inl (0, 1436)), .inr (.inl (0, 1436)), .inr (.inl (0, 1436)), .inr (.inl (0, 64)), .inr (.inl (0, 96)), .inr (.inl (2, 12)), .inr (.inl (0, 4))]) rfl ?_
  have S : Std (cxK X 7 4484) E prog_9_method_1_code R6 2 1 := stdK0 S0 (rc hRm (Nat.le_of_ble_eq_true rfl)) (ro hRm (Nat.le_of_ble_eq_true rfl))
  refine j_dup S D_M_init_130 rfl ?_
  refine j_iconst S D_M_init_131 ci_0 ?_
  refine j_iconst S D_M_init_132 ci_0 ?_
  refine j_iast S D_M_init_133 (pfx hn rfl) inbc_0_4 ?_
  refine j_dup S D_M_init_134 rfl ?_
  refine j_iconst S D_M_init_135 ci_1 ?_
  refine j_iconst S D_M_init_136 ci_4 ?_
  refine j_iast S D_M_init_137 (pfx hn rfl) inbc_1_4 ?_
  refine j_dup S D_M_init_138 rfl ?_
  refine j_iconst S D_M_init_139 ci_2 ?_
  refine j_bipush S D_M_init_140 cb_8 ?_
  refine j_iast S D_M_init_142 (pfx hn rfl) inbc_2_4 ?_
  refine j_dup S D_M_init_143 rfl ?_
  refine j_iconst S D_M_init_144 ci_3 ?_
  refine j_bipush S D_M_init_145 cb_12 ?_
  refine j_iast S D_M_init_147 (pfx hn rfl) inbc_3_4 ?_
  refine k_putR S hin D_M_init_148 pr_R6_33 (fun _ => ⟨rfl, rfl⟩) (pfx hn rfl) rfl ?_
  refine j_shp (pset hn (L2 := [.inl (6, [some (some (91 + 1)), some (some (91 + 2)), some (some (91 + 3)), none, none, some (some (91 + 4)), some (some (91 + 5)), none, none, none, none, none, none, none, some (some (91 + 6)), some (some (91 + 7)), some none, none, none, some none, none, some none, some none, some none, some none, some none, some none, some none, some none, some none, some none, some none, some none, none]), .inr (.inl (0, 1436)), .inr (.inl (0, 1436)), .inr (.inl (0, 1436)), .inr (.inl (0, 64)), .inr (.inl (0, 96)), .inr (.inl (2, 12)), .inr (.inl (0, 4))]) rfl) ?_
  refine j_aload_n S D_M_init_151 0 rfl rfl ?_
  refine j_bipush S D_M_init_152 cb_96 ?_
  refine k_newA (j := 8) (at0 := .int) (ty := .int) S ⟨by omega, by omega⟩ hn rfl D_M_init_154 arc_0 rfl rfl rfl (by decide +kernel) ⟨rfl, rfl, rc hRm (Nat.le_of_ble_eq_true rfl), ro hRm (Nat.le_of_ble_eq_true rfl)⟩ (L2 := [.inl (6, [some (some (91 + 1)), some (some (91 + 2)), some (some (91 + 3)), none, none, some (some (91 + 4)), some (some (91 + 5)), none, none, none, none, none, none, none, some (some (91 + 6)), some (some (91 + 7)), some none, none, none, some none, none, some none, some none, some none, some none, some none, some none, some none, some none, some none, some none, some none, some none, none]), .inr (.inl (0, 1436)), .inr (.inl (0, 1436)), .inr (.inl (0, 1436)), .inr (.inl (0, 64)), .inr (.inl (0, 96)), .inr (.inl (2, 12)), .inr (.inl (0, 4)), .inr (.inl (0, 96))]) rfl ?_
  have S : Std (cxK X 8 4580) E prog_9_method_1_code R6 2 1 := stdK0 S0 (rc hRm (Nat.le_of_ble_eq_true rfl)) (ro hRm (Nat.le_of_ble_eq_true rfl))
  refine k_putR S hin D_M_init_156 pr_R6_36 (fun _ => ⟨rfl, rfl⟩) (pfx hn rfl) rfl ?_
  refine j_shp (pset hn (L2 := [.inl (6, [some (some (91 + 1)), some (some (91 + 2)), some (some (91 + 3)), none, none, some (some (91 + 4)), some (some (91 + 5)), none, none, none, none, none, none, none, some (some (91 + 6)), some (some (91 + 7)), some (some (91 + 8)), none, none, some none, none, some none, some none, some none, some none, some none, some none, some none, some none, some none, some none, some none, some none, none]), .inr (.inl (0, 1436)), .inr (.inl (0, 1436)), .inr (.inl (0, 1436)), .inr (.inl (0, 64)), .inr (.inl (0, 96)), .inr (.inl (2, 12)), .inr (.inl (0, 4)), .inr (.inl (0, 96))]) rfl) ?_
  refine j_aload_n S D_M_init_159 0 rfl rfl ?_
  refine j_bipush S D_M_init_160 cb_96 ?_
  refine k_newA (j := 9) (at0 := .int) (ty := .int) S ⟨by omega, by omega⟩ hn rfl D_M_init_162 arc_0 rfl rfl rfl (by decide +kernel) ⟨rfl, rfl, rc hRm (Nat.le_of_ble_eq_true rfl), ro hRm (Nat.le_of_ble_eq_true rfl)⟩ (L2 := [.inl (6, [some (some (91 + 1)), some (some (91 + 2)), some (some (91 + 3)), none, none, some (some (91 + 4)), some (some (91 + 5)), none, none, none, none, none, none, none, some (some (91 + 6)), some (some (91 + 7)), some (some (91 + 8)), none, none, some none, none, some none, some none, some none, some none, some none, some none, some none, some none, some none, some none, some none, some none, none]), .inr (.inl (0, 1436)), .inr (.inl (0, 1436)), .inr (.inl (0, 1436)), .inr (.inl (0, 64)), .inr (.inl (0, 96)), .inr (.inl (2, 12)), .inr (.inl (0, 4)), .inr (.inl (0, 96)), .inr (.inl (0, 96))]) rfl ?_
  have S : Std (cxK X 9 4676) E prog_9_method_1_code R6 2 1 := stdK0 S0 (rc hRm (Nat.le_of_ble_eq_true rfl)) (ro hRm (Nat.le_of_ble_eq_true rfl))
  refine k_putR S hin D_M_init_164 pr_R6_39 (fun _ => ⟨rfl, rfl⟩) (pfx hn rfl) rfl ?_
  refine j_shp (pset hn (L2 := [.inl (6, [some (some (91 + 1)), some (some (91 + 2)), some (some (91 + 3)), none, none, some (some (91 + 4)), some (some (91 + 5)), none, none, none, none, none, none, none, some (some (91 + 6)), some (some (91 + 7)), some (some (91 + 8)), none, none, some (some (91 + 9)), none, some none, some none, some none, some none, some none, some none, some none, some none, some none, some none, some none, some none, none]), .inr (.inl (0, 1436)), .inr (.inl (0, 1436)), .inr (.inl (0, 1436)), .inr (.inl (0, 64)), .inr (.inl (0, 96)), .inr (.inl (2, 12)), .inr (.inl (0, 4)), .inr (.inl (0, 96)), .inr (.inl (0, 96))]) rfl) ?_
  refine j_aload_n S D_M_init_167 0 rfl rfl ?_
  refine j_bipush S D_M_init_168 cb_10 ?_
  refine k_newA (j := 10) (at0 := .boolean) (ty := .boolean) S ⟨by omega, by omega⟩ hn rfl D_M_init_170 arc_1 rfl rfl rfl (by decide +kernel) ⟨rfl, rfl, rc hRm (Nat.le_of_ble_eq_true rfl), ro hRm (Nat.le_of_ble_eq_true rfl)⟩ (L2 := [.inl (6, [some (some (91 + 1)), some (some (91 + 2)), some (some (91 + 3)), none, none, some (some (91 + 4)), some (some (91 + 5)), none, none, none, none, none, none, none, some (some (91 + 6)), some (some (91 + 7)), some (some (91 + 8)), none, none, some (some (91 + 9)), none, some none, some none, some none, some none, some none, some none, some none, some none, some none, some none, some none, some none, none]), .inr (.inl (0, 1436)), .inr (.inl (0, 1436)), .inr (.inl (0, 1436)), .inr (.inl (0, 64)), .inr (.inl (0, 96)), .inr (.inl (2, 12)), .inr (.inl (0, 4)), .inr (.inl (0, 96)), .inr (.inl (0, 96)), .inr (.inl (1, 10))]) rfl ?_
  have S : Std (cxK X 10 4686) E prog_9_method_1_code R6 2 1 := stdK0 S0 (rc hRm (Nat.le_of_ble_eq_true rfl)) (ro hRm (Nat.le_of_ble_eq_true rfl))
  refine k_putR S hin D_M_init_172 pr_R6_42 (fun _ => ⟨rfl, rfl⟩) (pfx hn rfl) rfl ?_
  refine j_shp (pset hn (L2 := [.inl (6, [some (some (91 + 1)), some (some (91 + 2)), some (some (91 + 3)), none, none, some (some (91 + 4)), some (some (91 + 5)), none, none, none, none, none, none, none, some (some (91 + 6)), some (some (91 + 7)), some (some (91 + 8)), none, none, some (some (91 + 9)), none, some (some (91 + 10)), some none, some none, some none, some none, some none, some none, some none, some none, some none, some none, some none, none]), .inr (.inl (0, 1436)), .inr (.inl (0, 1436)), .inr (.inl (0, 1436)), .inr (.inl (0, 64)), .inr (.inl (0, 96)), .inr (.inl (2, 12)), .inr (.inl (0, 4)), .inr (.inl (0, 96)), .inr (.inl (0, 96)), .inr (.inl (1, 10))]) rfl) ?_
  refine j_aload_n S D_M_init_175 0 rfl rfl ?_
  refine j_bipush S D_M_init_176 cb_96 ?_
  refine k_newA (j := 11) (at0 := .int) (ty := .int) S ⟨by omega, by omega⟩ hn rfl D_M_init_178 arc_0 rfl rfl rfl (by decide +kernel) ⟨rfl, rfl, rc hRm (Nat.le_of_ble_eq_true rfl), ro hRm (Nat.le_of_ble_eq_true rfl)⟩ (L2 := [.inl (6, [some (some (91 + 1)), some (some (91 + 2)), some (some (91 + 3)), none, none, some (some (91 + 4)), some (some (91 + 5)), none, none, none, none, none, none, none, some (some (91 + 6)), some (some (91 + 7)), some (some (91 + 8)), none, none, some (some (91 + 9)), none, some (some (91 + 10)), some none, some none, some none, some none, some none, some none, some none, some none, some none, some none, some none, none]), .inr (.inl (0, 1436)), .inr (.inl (0, 1436)), .inr (.inl (0, 1436)), .inr (.inl (0, 64)), .inr (.inl (0, 96)), .inr (.inl (2, 12)), .inr (.inl (0, 4)), .inr (.inl (0, 96)), .inr (.inl (0, 96)), .inr (.inl (1, 10)), .inr (.inl (0, 96))]) rfl ?_
  have S : Std (cxK X 11 4782) E prog_9_method_1_code R6 2 1 := stdK0 S0 (rc hRm (Nat.le_of_ble_eq_true rfl)) (ro hRm (Nat.le_of_ble_eq_true rfl))
  refine k_putR S hin D_M_init_180 pr_R6_46 (fun _ => ⟨rfl, rfl⟩) (pfx hn rfl) rfl ?_
  refine j_shp (pset hn (L2 := [.inl (6, [some (some (91 + 1)), some (some (91 + 2)), some (some (91 + 3)), none, none, some (some (91 + 4)), some (some (91 + 5)), none, none, none, none, none, none, none, some (some (91 + 6)), some (some (91 + 7)), some (some (91 + 8)), none, none, some (some (91 + 9)), none, some (some (91 + 10)), some (some (91 + 11)), some none, some none, some none, some none, some none, some none, some none, some none, some none, some none, none]), .inr (.inl (0, 1436)), .inr (.inl (0, 1436)), .inr (.inl (0, 1436)), .inr (.inl (0, 64)), .inr (.inl (0, 96)), .inr (.inl (2, 12)), .inr (.inl (0, 4)), .inr (.inl (0, 96)), .inr (.inl (0, 96)), .inr (.inl (1, 10)), .inr (.inl (0, 96))]) rfl) ?_
  exact kk
set_option maxHeartbeats 2000000 in
theorem K_M_init_3 {X : Cx} {E : En} {mem : Mm} (S0 : Std (cxK X 0 0) E prog_9_method_1_code R6 2 1) (hRm : cxR X = rmN 1 21 5109) (hin : (cxT X).name = "<init>") (hz : (cxS X).heap.size = eb E + (91 + 1)) (hKx : Kx (cxS X)) (kk : J (cxK X 16 4895) E 2 235 [(0, .ref (eb E + (91 + 0)))] [] ((SH.take 91) ++ [.inl (6, [some (some (91 + 1)), some (some (91 + 2)), some (some (91 + 3)), none, none, some (some (91 + 4)), some (some (91 + 5)), none, none, none, none, none, none, none, some (some (91 + 6)), some (some (91 + 7)), some (some (91 + 8)), none, none, some (some (91 + 9)), none, some (some (91 + 10)), some (some (91 + 11)), some (some (91 + 12)), some (some (91 + 13)), some (some (91 + 14)), some (some (91 + 15)), some (some (91 + 16)), some none, some none, some none, some none, some none, none]), .inr (.inl (0, 1436)), .inr (.inl (0, 1436)), .inr (.inl (0, 1436)), .inr (.inl (0, 64)), .inr (.inl (0, 96)), .inr (.inl (2, 12)), .inr (.inl (0, 4)), .inr (.inl (0, 96)), .inr (.inl (0, 96)), .inr (.inl (1, 10)), .inr (.inl (0, 96)), .inr (.inl (0, 4)), .inr (.inl (0, 4)), .inr (.inl (0, 4)), .inr (.inl (0, 96)), .inr (.inl (0, 5))]) (g_M_init_3 mem)) : J (cxK X 11 4782) E 2 183 [(0, .ref (eb E + (91 + 0)))] [] ((SH.take 91) ++ [.inl (6, [some (some (91 + 1)), some (some (91 + 2)), some (some (91 + 3)), none, none, some (some (91 + 4)), some (some (91 + 5)), none, none, none, none, none, none, none, some (some (91 + 6)), some (some (91 + 7)), some (some (91 + 8)), none, none, some (some (91 + 9)), none, some (some (91 + 10)), some (some (91 + 11)), some none, some none, some none, some none, some none, some none, some none, some none, some none, some none, none]), .inr (.inl (0, 1436)), .inr (.inl (0, 1436)), .inr (.inl (0, 1436)), .inr (.inl (0, 64)), .inr (.inl (0, 96)), .inr (.inl (2, 12)), .inr (.inl (0, 4)), .inr (.inl (0, 96)), .inr (.inl (0, 96)), .inr (.inl (1, 10)), .inr (.inl (0, 96))]) mem := by
  have hn : ((SH.take 91) : List Sh).length = 91 := rfl
  have S : Std (cxK X 11 4782) E prog_9_method_1_code R6 2 1 := stdK0 S0 (rc hRm (Nat.le_of_ble_eq_true rfl)) (ro hRm (Nat.le_of_ble_eq_true rfl))
  refine j_aload_n S D_M_init_183 0 rfl rfl ?_
  refine j_iconst S D_M_init_184 ci_4 ?_
  refine k_newA (j := 12) (at0 := .int) (ty := .int) S ⟨by omega, by omega⟩ hn rfl D_M_init_185 arc_0 rfl rfl rfl (by decide +kernel) ⟨rfl, rfl, rc hRm (Nat.le_of_ble_eq_true rfl), ro hRm (Nat.le_of_ble_eq_true rfl)⟩ (L2 := [.inl (6, [some (some (91 + 1)), some (some (91 + 2)), some (some (91 + 3)), none, none, some (some (91 + 4)), some (some (91 + 5)), none, none, none, none, none, none, none, some (some (91 + 6)), some (some (91 + 7)), some (some (91 + 8)), none, none, some (some (91 + 9)), none, some (some (91 + 10)), some (some (91 + 11)), some none, some none, some none, some none, some none, some none, some none, some none, some none, some none, none]), .inr (.inl (0, 1436)), .inr (.inl (0, 1436)), .inr (.inl (0, 1436)), .inr (.inl (0, 64)), .inr (.inl (0, 96)), .inr (.inl (2, 12)), .inr (.inl (0, 4)), .inr (.inl (0, 96)), .inr (.inl (0, 96)), .inr (.inl (1, 10)), .inr (.inl (0, 96)), .inr (.inl (0, 4))]) rfl ?_
  have S : Std (cxK X 12 4786) E prog_9_method_1_code R6 2 1 := stdK0 S0 (rc hRm (Nat.le_of_ble_eq_true rfl)) (ro hRm (Nat.le_of_ble_eq_true rfl))
  refine k_putR S hin D_M_init_187 pr_R6_49 (fun _ => ⟨rfl, rfl⟩) (pfx hn rfl) rfl ?_
  refine j_shp (pset hn (L2 := [.inl (6, [some (some (91 + 1)), some (some (91 + 2)), some (some (91 + 3)), none, none, some (some (91 + 4)), some (some (91 + 5)), none, none, none, none, none, none, none, some (some (91 + 6)), some (some (91 + 7)), some (some (91 + 8)), none, none, some (some (91 + 9)), none, some (some (91 + 10)), some (some (91 + 11)), some (some (91 + 12)), some none, some none, some none, some none, some none, some none, some none, some none, some none, none]), .inr (.inl (0, 1436)), .inr (.inl (0, 1436)), .inr (.inl (0, 1436)), .inr (.inl (0, 64)), .inr (.inl (0, 96)), .inr (.inl (2, 12)), .inr (.inl (0, 4)), .inr (.inl (0, 96)), .inr (.inl (0, 96)), .inr (.inl (1, 10)), .inr (.inl (0, 96)), .inr (.inl (0, 4))]) rfl) ?_
  refine j_aload_n S D_M_init_190 0 rfl rfl ?_
  refine j_iconst S D_M_init_191 ci_4 ?_
  refine k_newA (j := 13) (at0 := .int) (ty := .int) S ⟨by omega, by omega⟩ hn rfl D_M_init_192 arc_0 rfl rfl rfl (by decide +kernel) ⟨rfl, rfl, rc hRm (Nat.le_of_ble_eq_true rfl), ro hRm (Nat.le_of_ble_eq_true rfl)⟩ (L2 := [.inl (6, [some (some (91 + 1)), some (some (91 + 2)), some (some (91 + 3)), none, none, some (some (91 + 4)), some (some (91 + 5)), none, none, none, none, none, none, none, some (some (91 + 6)), some (some (91 + 7)), some (some (91 + 8)), none, none, some (some (91 + 9)), none, some (some (91 + 10)), some (some (91 + 11)), some (some (91 + 12)), some none, some none, some none, some none, some none, some none, some none, some none, some none, none]), .inr (.inl (0, 1436)), .inr (.inl (0, 1436)), .inr (.inl (0, 1436)), .inr (.inl (0, 64)), .inr (.inl (0, 96)), .inr (.inl (2, 12)), .inr (.inl (0, 4)), .inr (.inl (0, 96)), .inr (.inl (0, 96)), .inr (.inl (1, 10)), .inr (.inl (0, 96)), .inr (.inl (0, 4)), .inr (.inl (0, 4))]) rfl ?_
  have S : Std (cxK X 13 4790) E prog_9_method_1_code R6 2 1 := stdK0 S0 (rc hRm (Nat.le_of_ble_eq_true rfl)) (ro hRm (Nat.le_of_ble_eq_true rfl))
  refine j_dup S D_M_init_194 rfl ?_
  refine j_iconst S D_M_init_195 ci_0 ?_
  refine j_iconst S D_M_init_196 ci_m1 ?_
  refine j_iast S D_M_init_197 (pfx hn rfl) inbc_0_4 ?_
  refine j_dup S D_M_init_198 rfl ?_
  refine j_iconst S D_M_init_199 ci_1 ?_
  refine j_iconst S D_M_init_200 ci_m1 ?_
  refine j_iast S D_M_init_201 (pfx hn rfl) inbc_1_4 ?_
  refine j_dup S D_M_init_202 rfl ?_
  refine j_iconst S D_M_init_203 ci_2 ?_
  refine j_iconst S D_M_init_204 ci_m1 ?_
  refine j_iast S D_M_init_205 (pfx hn rfl) inbc_2_4 ?_
  refine j_dup S D_M_init_206 rfl ?_
  refine j_iconst S D_M_init_207 ci_3 ?_
  refine j_iconst S D_M_init_208 ci_m1 ?_
  refine j_iast S D_M_init_209 (pfx hn rfl) inbc_3_4 ?_
  refine k_putR S hin D_M_init_210 pr_R6_52 (fun _ => ⟨rfl, rfl⟩) (pfx hn rfl) rfl ?_
  refine j_shp (pset hn (L2 := [.inl (6, [some (some (91 + 1)), some (some (91 + 2)), some (some (91 + 3)), none, none, some (some (91 + 4)), some (some (91 + 5)), none, none, none, none, none, none, none, some (some (91 + 6)), some (some (91 + 7)), some (some (91 + 8)), none, none, some (some (91 + 9)), none, some (some (91 + 10)), some (some (91 + 11)), some (some (91 + 12)), some (some (91 + 13)), some none, some none, some none, some none, some none, some none, some none, some none, none]), .inr (.inl (0, 1436)), .inr (.inl (0, 1436)), .inr (.inl (0, 1436)), .inr (.inl (0, 64)), .inr (.inl (0, 96)), .inr (.inl (2, 12)), .inr (.inl (0, 4)), .inr (.inl (0, 96)), .inr (.inl (0, 96)), .inr (.inl (1, 10)), .inr (.inl (0, 96)), .inr (.inl (0, 4)), .inr (.inl (0, 4))]) rfl) ?_
  refine j_aload_n S D_M_init_213 0 rfl rfl ?_
  refine j_iconst S D_M_init_214 ci_4 ?_
  refine k_newA (j := 14) (at0 := .int) (ty := .int) S ⟨by omega, by omega⟩ hn rfl D_M_init_215 arc_0 rfl rfl rfl (by decide +kernel) ⟨rfl, rfl, rc hRm (Nat.le_of_ble_eq_true rfl), ro hRm (Nat.le_of_ble_eq_true rfl)⟩ (L2 := [.inl (6, [some (some (91 + 1)), some (some (91 + 2)), some (some (91 + 3)), none, none, some (some (91 + 4)), some (some (91 + 5)), none, none, none, none, none, none, none, some (some (91 + 6)), some (some (91 + 7)), some (some (91 + 8)), none, none, some (some (91 + 9)), none, some (some (91 + 10)), some (some (91 + 11)), some (some (91 + 12)), some (some (91 + 13)), some none, some none, some none, some none, some none, some none, some none, some none, none]), .inr (.inl (0, 1436)), .inr (.inl (0, 1436)), .inr (.inl (0, 1436)), .inr (.inl (0, 64)), .inr (.inl (0, 96)), .inr (.inl (2, 12)), .inr (.inl (0, 4)), .inr (.inl (0, 96)), .inr (.inl (0, 96)), .inr (.inl (1, 10)), .inr (.inl (0, 96)), .inr (.inl (0, 4)), .inr (.inl (0, 4)), .inr (.inl (0, 4))]) rfl ?_
  have S : Std (cxK X 14 4794) E prog_9_method_1_code R6 2 1 := stdK0 S0 (rc hRm (Nat.le_of_ble_eq_true rfl)) (ro hRm (Nat.le_of_ble_eq_true rfl))
  refine k_putR S hin D_M_init_217 pr_R6_55 (fun _ => ⟨rfl, rfl⟩) (pfx hn rfl) rfl ?_
  refine j_shp (pset hn (L2 := [.inl (6, [some (some (91 + 1)), some (some (91 + 2)), some (some (91 + 3)), none, none, some (some (91 + 4)), some (some (91 + 5)), none, none, none, none, none, none, none, some (some (91 + 6)), some (some (91 + 7)), some (some (91 + 8)), none, none, some (some (91 + 9)), none, some (some (91 + 10)), some (some (91 + 11)), some (some (91 + 12)), some (some (91 + 13)), some (some (91 + 14)), some none, some none, some none, some none, some none, some none, some none, none]), .inr (.inl (0, 1436)), .inr (.inl (0, 1436)), .inr (.inl (0, 1436)), .inr (.inl (0, 64)), .inr (.inl (0, 96)), .inr (.inl (2, 12)), .inr (.inl (0, 4)), .inr (.inl (0, 96)), .inr (.inl (0, 96)), .inr (.inl (1, 10)), .inr (.inl (0, 96)), .inr (.inl (0, 4)), .inr (.inl (0, 4)), .inr (.inl (0, 4))]) rfl) ?_
  refine j_aload_n S D_M_init_220 0 rfl rfl ?_
  refine j_bipush S D_M_init_221 cb_96 ?_
  refine k_newA (j := 15) (at0 := .int) (ty := .int) S ⟨by omega, by omega⟩ hn rfl D_M_init_223 arc_0 rfl rfl rfl (by decide +kernel) ⟨rfl, rfl, rc hRm (Nat.le_of_ble_eq_true rfl), ro hRm (Nat.le_of_ble_eq_true rfl)⟩ (L2 := [.inl (6, [some (some (91 + 1)), some (some (91 + 2)), some (some (91 + 3)), none, none, some (some (91 + 4)), some (some (91 + 5)), none, none, none, none, none, none, none, some (some (91 + 6)), some (some (91 + 7)), some (some (91 + 8)), none, none, some (some (91 + 9)), none, some (some (91 + 10)), some (some (91 + 11)), some (some (91 + 12)), some (some (91 + 13)), some (some (91 + 14)), some none, some none, some none, some none, some none, some none, some none, none]), .inr (.inl (0, 1436)), .inr (.inl (0, 1436)), .inr (.inl (0, 1436)), .inr (.inl (0, 64)), .inr (.inl (0, 96)), .inr (.inl (2, 12)), .inr (.inl (0, 4)), .inr (.inl (0, 96)), .inr (.inl (0, 96)), .inr (.inl (1, 10)), .inr (.inl (0, 96)), .inr (.inl (0, 4)), .inr (.inl (0, 4)), .inr (.inl (0, 4)), .inr (.inl (0, 96))]) rfl ?_
  have S : Std (cxK X 15 4890) E prog_9_method_1_code R6 2 1 := stdK0 S0 (rc hRm (Nat.le_of_ble_eq_true rfl)) (ro hRm (Nat.le_of_ble_eq_true rfl))
  refine k_putR S hin D_M_init_225 pr_R6_58 (fun _ => ⟨rfl, rfl⟩) (pfx hn rfl) rfl ?_
  refine j_shp (pset hn (L2 := [.inl (6, [some (some (91 + 1)), some (some (91 + 2)), some (some (91 + 3)), none, none, some (some (91 + 4)), some (some (91 + 5)), none, none, none, none, none, none, none, some (some (91 + 6)), some (some (91 + 7)), some (some (91 + 8)), none, none, some (some (91 + 9)), none, some (some (91 + 10)), some (some (91 + 11)), some (some (91 + 12)), some (some (91 + 13)), some (some (91 + 14)), some (some (91 + 15)), some none, some none, some none, some none, some none, some none, none]), .inr (.inl (0, 1436)), .inr (.inl (0, 1436)), .inr (.inl (0, 1436)), .inr (.inl (0, 64)), .inr (.inl (0, 96)), .inr (.inl (2, 12)), .inr (.inl (0, 4)), .inr (.inl (0, 96)), .inr (.inl (0, 96)), .inr (.inl (1, 10)), .inr (.inl (0, 96)), .inr (.inl (0, 4)), .inr (.inl (0, 4)), .inr (.inl (0, 4)), .inr (.inl (0, 96))]) rfl) ?_
  refine j_aload_n S D_M_init_228 0 rfl rfl ?_
  refine j_iconst S D_M_init_229 ci_5 ?_
  refine k_newA (j := 16) (at0 := .int) (ty := .int) S ⟨by omega, by omega⟩ hn rfl D_M_init_230 arc_0 rfl rfl rfl (by decide +kernel) ⟨rfl, rfl, rc hRm (Nat.le_of_ble_eq_true rfl), ro hRm (Nat.le_of_ble_eq_true rfl)⟩ (L2 := [.inl (6, [some (some (91 + 1)), some (some (91 + 2)), some (some (91 + 3)), none, none, some (some (91 + 4)), some (some (91 + 5)), none, none, none, none, none, none, none, some (some (91 + 6)), some (some (91 + 7)), some (some (91 + 8)), none, none, some (some (91 + 9)), none, some (some (91 + 10)), some (some (91 + 11)), some (some (91 + 12)), some (some (91 + 13)), some (some (91 + 14)), some (some (91 + 15)), some none, some none, some none, some none, some none, some none, none]), .inr (.inl (0, 1436)), .inr (.inl (0, 1436)), .inr (.inl (0, 1436)), .inr (.inl (0, 64)), .inr (.inl (0, 96)), .inr (.inl (2, 12)), .inr (.inl (0, 4)), .inr (.inl (0, 96)), .inr (.inl (0, 96)), .inr (.inl (1, 10)), .inr (.inl (0, 96)), .inr (.inl (0, 4)), .inr (.inl (0, 4)), .inr (.inl (0, 4)), .inr (.inl (0, 96)), .inr (.inl (0, 5))]) rfl ?_
  have S : Std (cxK X 16 4895) E prog_9_method_1_code R6 2 1 := stdK0 S0 (rc hRm (Nat.le_of_ble_eq_true rfl)) (ro hRm (Nat.le_of_ble_eq_true rfl))
  refine k_putR S hin D_M_init_232 pr_R6_61 (fun _ => ⟨rfl, rfl⟩) (pfx hn rfl) rfl ?_
  refine j_shp (pset hn (L2 := [.inl (6, [some (some (91 + 1)), some (some (91 + 2)), some (some (91 + 3)), none, none, some (some (91 + 4)), some (some (91 + 5)), none, none, none, none, none, none, none, some (some (91 + 6)), some (some (91 + 7)), some (some (91 + 8)), none, none, some (some (91 + 9)), none, some (some (91 + 10)), some (some (91 + 11)), some (some (91 + 12)), some (some (91 + 13)), some (some (91 + 14)), some (some (91 + 15)), some (some (91 + 16)), some none, some none, some none, some none, some none, none]), .inr (.inl (0, 1436)), .inr (.inl (0, 1436)), .inr (.inl (0, 1436)), .inr (.inl (0, 64)), .inr (.inl (0, 96)), .inr (.inl (2, 12)), .inr (.inl (0, 4)), .inr (.inl (0, 96)), .inr (.inl (0, 96)), .inr (.inl (1, 10)), .inr (.inl (0, 96)), .inr (.inl (0, 4)), .inr (.inl (0, 4)), .inr (.inl (0, 4)), .inr (.inl (0, 96)), .inr (.inl (0, 5))]) rfl) ?_
  exact kk
set_option maxHeartbeats 2000000 in
theorem K_M_init_4 {X : Cx} {E : En} {mem : Mm} (S0 : Std (cxK X 0 0) E prog_9_method_1_code R6 2 1) (hRm : cxR X = rmN 1 21 5109) (hin : (cxT X).name = "<init>") (hz : (cxS X).heap.size = eb E + (91 + 1)) (hKx : Kx (cxS X)) (kk : J (cxK X 21 5109) E 2 295 [(1, .int 0), (0, .ref (eb E + (91 + 0)))] [] ((SH.take 91) ++ [.inl (6, [some (some (91 + 1)), some (some (91 + 2)), some (some (91 + 3)), none, none, some (some (91 + 4)), some (some (91 + 5)), none, none, none, none, none, none, none, some (some (91 + 6)), some (some (91 + 7)), some (some (91 + 8)), none, none, some (some (91 + 9)), none, some (some (91 + 10)), some (some (91 + 11)), some (some (91 + 12)), some (some (91 + 13)), some (some (91 + 14)), some (some (91 + 15)), some (some (91 + 16)), some (some (91 + 17)), some (some (91 + 18)), some (some (91 + 19)), some (some (91 + 20)), some (some (91 + 21)), none]), .inr (.inl (0, 1436)), .inr (.inl (0, 1436)), .inr (.inl (0, 1436)), .inr (.inl (0, 64)), .inr (.inl (0, 96)), .inr (.inl (2, 12)), .inr (.inl (0, 4)), .inr (.inl (0, 96)), .inr (.inl (0, 96)), .inr (.inl (1, 10)), .inr (.inl (0, 96)), .inr (.inl (0, 4)), .inr (.inl (0, 4)), .inr (.inl (0, 4)), .inr (.inl (0, 96)), .inr (.inl (0, 5)), .inr (.inl (0, 5)), .inr (.inl (0, 5)), .inr (.inl (0, 120)), .inr (.inl (0, 24)), .inr (.inl (0, 60))]) (g_M_init_4 mem)) : J (cxK X 16 4895) E 2 235 [(0, .ref (eb E + (91 + 0)))] [] ((SH.take 91) ++ [.inl (6, [some (some (91 + 1)), some (some (91 + 2)), some (some (91 + 3)), none, none, some (some (91 + 4)), some (some (91 + 5)), none, none, none, none, none, none, none, some (some (91 + 6)), some (some (91 + 7)), some (some (91 + 8)), none, none, some (some (91 + 9)), none, some (some (91 + 10)), some (some (91 + 11)), some (some (91 + 12)), some (some (91 + 13)), some (some (91 + 14)), some (some (91 + 15)), some (some (91 + 16)), some none, some none, some none, some none, some none, none]), .inr (.inl (0, 1436)), .inr (.inl (0, 1436)), .inr (.inl (0, 1436)), .inr (.inl (0, 64)), .inr (.inl (0, 96)), .inr (.inl (2, 12)), .inr (.inl (0, 4)), .inr (.inl (0, 96)), .inr (.inl (0, 96)), .inr (.inl (1, 10)), .inr (.inl (0, 96)), .inr (.inl (0, 4)), .inr (.inl (0, 4)), .inr (.inl (0, 4)), .inr (.inl (0, 96)), .inr (.inl (0, 5))]) mem := by
  have hn : ((SH.take 91) : List Sh).length = 91 := rfl
  have S : Std (cxK X 16 4895) E prog_9_method_1_code R6 2 1 := stdK0 S0 (rc hRm (Nat.le_of_ble_eq_true rfl)) (ro hRm (Nat.le_of_ble_eq_true rfl))
  refine j_aload_n S D_M_init_235 0 rfl rfl ?_
  refine j_iconst S D_M_init_236 ci_5 ?_
  refine k_newA (j := 17) (at0 := .int) (ty := .int) S ⟨by omega, by omega⟩ hn rfl D_M_init_237 arc_0 rfl rfl rfl (by decide +kernel) ⟨rfl, rfl, rc hRm (Nat.le_of_ble_eq_true rfl), ro hRm (Nat.le_of_ble_eq_true rfl)⟩ (L2 := [.inl (6, [some (some (91 + 1)), some (some (91 + 2)), some (some (91 + 3)), none, none, some (some (91 + 4)), some (some (91 + 5)), none, none, none, none, none, none, none, some (some (91 + 6)), some (some (91 + 7)), some (some (91 + 8)), none, none, some (some (91 + 9)), none, some (some (91 + 10)), some (some (91 + 11)), some (some (91 + 12)), some (some (91 + 13)), some (some (91 + 14)), some (some (91 + 15)), some (some (91 + 16)), some none, some none, some none, some none, some none, none]), .inr (.inl (0, 1436)), .inr (.inl (0, 1436)), .inr (.inl (0, 1436)), .inr (.inl (0, 64)), .inr (.inl (0, 96)), .inr (.inl (2, 12)), .inr (.inl (0, 4)), .inr (.inl (0, 96)), .inr (.inl (0, 96)), .inr (.inl (1, 10)), .inr (.inl (0, 96)), .inr (.inl (0, 4)), .inr (.inl (0, 4)), .inr (.inl (0, 4)), .inr (.inl (0, 96)), .inr (.inl (0, 5)), .inr (.inl (0, 5))]) rfl ?_
  have S : Std (cxK X 17 4900) E prog_9_method_1_code R6 2 1 := stdK0 S0 (rc hRm (Nat.le_of_ble_eq_true rfl)) (ro hRm (Nat.le_of_ble_eq_true rfl))
  refine k_putR S hin D_M_init_239 pr_R6_64 (fun _ => ⟨rfl, rfl⟩) (pfx hn rfl) rfl ?_
  refine j_shp (pset hn (L2 := [.inl (6, [some (some (91 + 1)), some (some (91 + 2)), some (some (91 + 3)), none, none, some (some (91 + 4)), some (some (91 + 5)), none, none, none, none, none, none, none, some (some (91 + 6)), some (some (91 + 7)), some (some (91 + 8)), none, none, some (some (91 + 9)), none, some (some (91 + 10)), some (some (91 + 11)), some (some (91 + 12)), some (some (91 + 13)), some (some (91 + 14)), some (some (91 + 15)), some (some (91 + 16)), some (some (91 + 17)), some none, some none, some none, some none, none]), .inr (.inl (0, 1436)), .inr (.inl (0, 1436)), .inr (.inl (0, 1436)), .inr (.inl (0, 64)), .inr (.inl (0, 96)), .inr (.inl (2, 12)), .inr (.inl (0, 4)), .inr (.inl (0, 96)), .inr (.inl (0, 96)), .inr (.inl (1, 10)), .inr (.inl (0, 96)), .inr (.inl (0, 4)), .inr (.inl (0, 4)), .inr (.inl (0, 4)), .inr (.inl (0, 96)), .inr (.inl (0, 5)), .inr (.inl (0, 5))]) rfl) ?_
  refine j_aload_n S D_M_init_242 0 rfl rfl ?_
  refine j_iconst S D_M_init_243 ci_5 ?_
  refine k_newA (j := 18) (at0 := .int) (ty := .int) S ⟨by omega, by omega⟩ hn rfl D_M_init_244 arc_0 rfl rfl rfl (by decide +kernel) ⟨rfl, rfl, rc hRm (Nat.le_of_ble_eq_true rfl), ro hRm (Nat.le_of_ble_eq_true rfl)⟩ (L2 := [.inl (6, [some (some (91 + 1)), some (some (91 + 2)), some (some (91 + 3)), none, none, some (some (91 + 4)), some (some (91 + 5)), none, none, none, none, none, none, none, some (some (91 + 6)), some (some (91 + 7)), some (some (91 + 8)), none, none, some (some (91 + 9)), none, some (some (91 + 10)), some (some (91 + 11)), some (some (91 + 12)), some (some (91 + 13)), some (some (91 + 14)), some (some (91 + 15)), some (some (91 + 16)), some (some (91 + 17)), some none, some none, some none, some none, none]), .inr (.inl (0, 1436)), .inr (.inl (0, 1436)), .inr (.inl (0, 1436)), .inr (.inl (0, 64)), .inr (.inl (0, 96)), .inr (.inl (2, 12)), .inr (.inl (0, 4)), .inr (.inl (0, 96)), .inr (.inl (0, 96)), .inr (.inl (1, 10)), .inr (.inl (0, 96)), .inr (.inl (0, 4)), .inr (.inl (0, 4)), .inr (.inl (0, 4)), .inr (.inl (0, 96)), .inr (.inl (0, 5)), .inr (.inl (0, 5)), .inr (.inl (0, 5))]) rfl ?_
  have S : Std (cxK X 18 4905) E prog_9_method_1_code R6 2 1 := stdK0 S0 (rc hRm (Nat.le_of_ble_eq_true rfl)) (ro hRm (Nat.le_of_ble_eq_true rfl))
  refine k_putR S hin D_M_init_246 pr_R6_67 (fun _ => ⟨rfl, rfl⟩) (pfx hn rfl) rfl ?_
  refine j_shp (pset hn (L2 := [.inl (6, [some (some (91 + 1)), some (some (91 + 2)), some (some (91 + 3)), none, none, some (some (91 + 4)), some (some (91 + 5)), none, none, none, none, none, none, none, some (some (91 + 6)), some (some (91 + 7)), some (some (91 + 8)), none, none, some (some (91 + 9)), none, some (some (91 + 10)), some (some (91 + 11)), some (some (91 + 12)), some (some (91 + 13)), some (some (91 + 14)), some (some (91 + 15)), some (some (91 + 16)), some (some (91 + 17)), some (some (91 + 18)), some none, some none, some none, none]), .inr (.inl (0, 1436)), .inr (.inl (0, 1436)), .inr (.inl (0, 1436)), .inr (.inl (0, 64)), .inr (.inl (0, 96)), .inr (.inl (2, 12)), .inr (.inl (0, 4)), .inr (.inl (0, 96)), .inr (.inl (0, 96)), .inr (.inl (1, 10)), .inr (.inl (0, 96)), .inr (.inl (0, 4)), .inr (.inl (0, 4)), .inr (.inl (0, 4)), .inr (.inl (0, 96)), .inr (.inl (0, 5)), .inr (.inl (0, 5)), .inr (.inl (0, 5))]) rfl) ?_
  refine j_aload_n S D_M_init_249 0 rfl rfl ?_
  refine j_bipush S D_M_init_250 cb_120 ?_
  refine k_newA (j := 19) (at0 := .int) (ty := .int) S ⟨by omega, by omega⟩ hn rfl D_M_init_252 arc_0 rfl rfl rfl (by decide +kernel) ⟨rfl, rfl, rc hRm (Nat.le_of_ble_eq_true rfl), ro hRm (Nat.le_of_ble_eq_true rfl)⟩ (L2 := [.inl (6, [some (some (91 + 1)), some (some (91 + 2)), some (some (91 + 3)), none, none, some (some (91 + 4)), some (some (91 + 5)), none, none, none, none, none, none, none, some (some (91 + 6)), some (some (91 + 7)), some (some (91 + 8)), none, none, some (some (91 + 9)), none, some (some (91 + 10)), some (some (91 + 11)), some (some (91 + 12)), some (some (91 + 13)), some (some (91 + 14)), some (some (91 + 15)), some (some (91 + 16)), some (some (91 + 17)), some (some (91 + 18)), some none, some none, some none, none]), .inr (.inl (0, 1436)), .inr (.inl (0, 1436)), .inr (.inl (0, 1436)), .inr (.inl (0, 64)), .inr (.inl (0, 96)), .inr (.inl (2, 12)), .inr (.inl (0, 4)), .inr (.inl (0, 96)), .inr (.inl (0, 96)), .inr (.inl (1, 10)), .inr (.inl (0, 96)), .inr (.inl (0, 4)), .inr (.inl (0, 4)), .inr (.inl (0, 4)), .inr (.inl (0, 96)), .inr (.inl (0, 5)), .inr (.inl (0, 5)), .inr (.inl (0, 5)), .inr (.inl (0, 120))]) rfl ?_
  have S : Std (cxK X 19 5025) E prog_9_method_1_code R6 2 1 := stdK0 S0 (rc hRm (Nat.le_of_ble_eq_true rfl)) (ro hRm (Nat.le_of_ble_eq_true rfl))
  refine k_putR S hin D_M_init_254 pr_R6_70 (fun _ => ⟨rfl, rfl⟩) (pfx hn rfl) rfl ?_
  refine j_shp (pset hn (L2 := [.inl (6, [some (some (91 + 1)), some (some (91 + 2)), some (some (91 + 3)), none, none, some (some (91 + 4)), some (some (91 + 5)), none, none, none, none, none, none, none, some (some (91 + 6)), some (some (91 + 7)), some (some (91 + 8)), none, none, some (some (91 + 9)), none, some (some (91 + 10)), some (some (91 + 11)), some (some (91 + 12)), some (some (91 + 13)), some (some (91 + 14)), some (some (91 + 15)), some (some (91 + 16)), some (some (91 + 17)), some (some (91 + 18)), some (some (91 + 19)), some none, some none, none]), .inr (.inl (0, 1436)), .inr (.inl (0, 1436)), .inr (.inl (0, 1436)), .inr (.inl (0, 64)), .inr (.inl (0, 96)), .inr (.inl (2, 12)), .inr (.inl (0, 4)), .inr (.inl (0, 96)), .inr (.inl (0, 96)), .inr (.inl (1, 10)), .inr (.inl (0, 96)), .inr (.inl (0, 4)), .inr (.inl (0, 4)), .inr (.inl (0, 4)), .inr (.inl (0, 96)), .inr (.inl (0, 5)), .inr (.inl (0, 5)), .inr (.inl (0, 5)), .inr (.inl (0, 120))]) rfl) ?_
  refine j_aload_n S D_M_init_257 0 rfl rfl ?_
  refine j_bipush S D_M_init_258 cb_24 ?_
  refine k_newA (j := 20) (at0 := .int) (ty := .int) S ⟨by omega, by omega⟩ hn rfl D_M_init_260 arc_0 rfl rfl rfl (by decide +kernel) ⟨rfl, rfl, rc hRm (Nat.le_of_ble_eq_true rfl), ro hRm (Nat.le_of_ble_eq_true rfl)⟩ (L2 := [.inl (6, [some (some (91 + 1)), some (some (91 + 2)), some (some (91 + 3)), none, none, some (some (91 + 4)), some (some (91 + 5)), none, none, none, none, none, none, none, some (some (91 + 6)), some (some (91 + 7)), some (some (91 + 8)), none, none, some (some (91 + 9)), none, some (some (91 + 10)), some (some (91 + 11)), some (some (91 + 12)), some (some (91 + 13)), some (some (91 + 14)), some (some (91 + 15)), some (some (91 + 16)), some (some (91 + 17)), some (some (91 + 18)), some (some (91 + 19)), some none, some none, none]), .inr (.inl (0, 1436)), .inr (.inl (0, 1436)), .inr (.inl (0, 1436)), .inr (.inl (0, 64)), .inr (.inl (0, 96)), .inr (.inl (2, 12)), .inr (.inl (0, 4)), .inr (.inl (0, 96)), .inr (.inl (0, 96)), .inr (.inl (1, 10)), .inr (.inl (0, 96)), .inr (.inl (0, 4)), .inr (.inl (0, 4)), .inr (.inl (0, 4)), .inr (.inl (0, 96)), .inr (.inl (0, 5)), .inr (.inl (0, 5)), .inr (.inl (0, 5)), .inr (.inl (0, 120)), .inr (.inl (0, 24))]) rfl ?_
  have S : Std (cxK X 20 5049) E prog_9_method_1_code R6 2 1 := stdK0 S0 (rc hRm (Nat.le_of_ble_eq_true rfl)) (ro hRm (Nat.le_of_ble_eq_true rfl))
  refine k_putR S hin D_M_init_262 pr_R6_73 (fun _ => ⟨rfl, rfl⟩) (pfx hn rfl) rfl ?_
  refine j_shp (pset hn (L2 := [.inl (6, [some (some (91 + 1)), some (some (91 + 2)), some (some (91 + 3)), none, none, some (some (91 + 4)), some (some (91 + 5)), none, none, none, none, none, none, none, some (some (91 + 6)), some (some (91 + 7)), some (some (91 + 8)), none, none, some (some (91 + 9)), none, some (some (91 + 10)), some (some (91 + 11)), some (some (91 + 12)), some (some (91 + 13)), some (some (91 + 14)), some (some (91 + 15)), some (some (91 + 16)), some (some (91 + 17)), some (some (91 + 18)), some (some (91 + 19)), some (some (91 + 20)), some none, none]), .inr (.inl (0, 1436)), .inr (.inl (0, 1436)), .inr (.inl (0, 1436)), .inr (.inl (0, 64)), .inr (.inl (0, 96)), .inr (.inl (2, 12)), .inr (.inl (0, 4)), .inr (.inl (0, 96)), .inr (.inl (0, 96)), .inr (.inl (1, 10)), .inr (.inl (0, 96)), .inr (.inl (0, 4)), .inr (.inl (0, 4)), .inr (.inl (0, 4)), .inr (.inl (0, 96)), .inr (.inl (0, 5)), .inr (.inl (0, 5)), .inr (.inl (0, 5)), .inr (.inl (0, 120)), .inr (.inl (0, 24))]) rfl) ?_
  refine j_aload_n S D_M_init_265 0 rfl rfl ?_
  refine j_bipush S D_M_init_266 cb_60 ?_
  refine k_newA (j := 21) (at0 := .int) (ty := .int) S ⟨by omega, by omega⟩ hn rfl D_M_init_268 arc_0 rfl rfl rfl (by decide +kernel) ⟨rfl, rfl, rc hRm (Nat.le_of_ble_eq_true rfl), ro hRm (Nat.le_of_ble_eq_true rfl)⟩ (L2 := [.inl (6, [some (some (91 + 1)), some (some (91 + 2)), some (some (91 + 3)), none, none, some (some (91 + 4)), some (some (91 + 5)), none, none, none, none, none, none, none, some (some (91 + 6)), some (some (91 + 7)), some (some (91 + 8)), none, none, some (some (91 + 9)), none, some (some (91 + 10)), some (some (91 + 11)), some (some (91 + 12)), some (some (91 + 13)), some (some (91 + 14)), some (some (91 + 15)), some (some (91 + 16)), some (some (91 + 17)), some (some (91 + 18)), some (some (91 + 19)), some (some (91 + 20)), some none, none]), .inr (.inl (0, 1436)), .inr (.inl (0, 1436)), .inr (.inl (0, 1436)), .inr (.inl (0, 64)), .inr (.inl (0, 96)), .inr (.inl (2, 12)), .inr (.inl (0, 4)), .inr (.inl (0, 96)), .inr (.inl (0, 96)), .inr (.inl (1, 10)), .inr (.inl (0, 96)), .inr (.inl (0, 4)), .inr (.inl (0, 4)), .inr (.inl (0, 4)), .inr (.inl (0, 96)), .inr (.inl (0, 5)), .inr (.inl (0, 5)), .inr (.inl (0, 5)), .inr (.inl (0, 120)), .inr (.inl (0, 24)), .inr (.inl (0, 60))]) rfl ?_
  have S : Std (cxK X 21 5109) E prog_9_method_1_code R6 2 1 := stdK0 S0 (rc hRm (Nat.le_of_ble_eq_true rfl)) (ro hRm (Nat.le_of_ble_eq_true rfl))
  refine k_putR S hin D_M_init_270 pr_R6_76 (fun _ => ⟨rfl, rfl⟩) (pfx hn rfl) rfl ?_
  refine j_shp (pset hn (L2 := [.inl (6, [some (some (91 + 1)), some (some (91 + 2)), some (some (91 + 3)), none, none, some (some (91 + 4)), some (some (91 + 5)), none, none, none, none, none, none, none, some (some (91 + 6)), some (some (91 + 7)), some (some (91 + 8)), none, none, some (some (91 + 9)), none, some (some (91 + 10)), some (some (91 + 11)), some (some (91 + 12)), some (some (91 + 13)), some (some (91 + 14)), some (some (91 + 15)), some (some (91 + 16)), some (some (91 + 17)), some (some (91 + 18)), some (some (91 + 19)), some (some (91 + 20)), some (some (91 + 21)), none]), .inr (.inl (0, 1436)), .inr (.inl (0, 1436)), .inr (.inl (0, 1436)), .inr (.inl (0, 64)), .inr (.inl (0, 96)), .inr (.inl (2, 12)), .inr (.inl (0, 4)), .inr (.inl (0, 96)), .inr (.inl (0, 96)), .inr (.inl (1, 10)), .inr (.inl (0, 96)), .inr (.inl (0, 4)), .inr (.inl (0, 4)), .inr (.inl (0, 4)), .inr (.inl (0, 96)), .inr (.inl (0, 5)), .inr (.inl (0, 5)), .inr (.inl (0, 5)), .inr (.inl (0, 120)), .inr (.inl (0, 24)), .inr (.inl (0, 60))]) rfl) ?_
  refine j_aload_n S D_M_init_273 0 rfl rfl ?_
  refine j_getR S D_M_init_274 fl_R6_9 (pfx hn rfl) rfl ?_
  refine j_iconst S D_M_init_277 ci_0 ?_
  refine j_iconst S D_M_init_278 ci_1 ?_
  refine j_iast S D_M_init_279 (pfx hn rfl) inbc_0_1436 ?_
  refine j_aload_n S D_M_init_280 0 rfl rfl ?_
  refine j_getR S D_M_init_281 fl_R6_9 (pfx hn rfl) rfl ?_
  refine j_iconst S D_M_init_284 ci_3 ?_
  refine j_bipush S D_M_init_285 cb_10 ?_
  refine j_iast S D_M_init_287 (pfx hn rfl) inbc_3_1436 ?_
  refine j_iconst S D_M_init_288 ci_0 ?_
  refine j_istore_n S D_M_init_289 (lv := [(1, .int 0), (0, .ref (eb E + (91 + 0)))]) rfl ⟨rfl, (Nat.le_of_ble_eq_true rfl)⟩ ?_
  refine j_iload_n S D_M_init_290 0 rfl rfl ?_
  refine j_iconst S D_M_init_291 ci_3 ?_
  refine j_icmp_ge S D_M_init_292 (fun c_ => absurd c_ (by decide +kernel)) (fun _ => ?_)
  exact kk
set_option maxHeartbeats 2000000 in
theorem K_M_init_5 {X : Cx} {E : En} {mem : Mm} (S0 : Std (cxK X 0 0) E prog_9_method_1_code R6 2 1) (hRm : cxR X = rmN 1 21 5109) (hin : (cxT X).name = "<init>") (hz : (cxS X).heap.size = eb E + (91 + 1)) (hKx : Kx (cxS X)) (kk : J (cxK X 21 5109) E 2 322 [(1, .int 0), (0, .ref (eb E + (91 + 0)))] [.ref (eb E + (91 + 0))] ((SH.take 91) ++ [.inl (6, [some (some (91 + 1)), some (some (91 + 2)), some (some (91 + 3)), none, none, some (some (91 + 4)), some (some (91 + 5)), none, none, none, none, none, none, none, some (some (91 + 6)), some (some (91 + 7)), some (some (91 + 8)), none, none, some (some (91 + 9)), none, some (some (91 + 10)), some (some (91 + 11)), some (some (91 + 12)), some (some (91 + 13)), some (some (91 + 14)), some (some (91 + 15)), some (some (91 + 16)), some (some (91 + 17)), some (some (91 + 18)), some (some (91 + 19)), some (some (91 + 20)), some (some (91 + 21)), none]), .inr (.inl (0, 1436)), .inr (.inl (0, 1436)), .inr (.inl (0, 1436)), .inr (.inl (0, 64)), .inr (.inl (0, 96)), .inr (.inl (2, 12)), .inr (.inl (0, 4)), .inr (.inl (0, 96)), .inr (.inl (0, 96)), .inr (.inl (1, 10)), .inr (.inl (0, 96)), .inr (.inl (0, 4)), .inr (.inl (0, 4)), .inr (.inl (0, 4)), .inr (.inl (0, 96)), .inr (.inl (0, 5)), .inr (.inl (0, 5)), .inr (.inl (0, 5)), .inr (.inl (0, 120)), .inr (.inl (0, 24)), .inr (.inl (0, 60))]) (g_M_init_5 mem)) : J (cxK X 21 5109) E 2 295 [(1, .int 0), (0, .ref (eb E + (91 + 0)))] [] ((SH.take 91) ++ [.inl (6, [some (some (91 + 1)), some (some (91 + 2)), some (some (91 + 3)), none, none, some (some (91 + 4)), some (some (91 + 5)), none, none, none, none, none, none, none, some (some (91 + 6)), some (some (91 + 7)), some (some (91 + 8)), none, none, some (some (91 + 9)), none, some (some (91 + 10)), some (some (91 + 11)), some (some (91 + 12)), some (some (91 + 13)), some (some (91 + 14)), some (some (91 + 15)), some (some (91 + 16)), some (some (91 + 17)), some (some (91 + 18)), some (some (91 + 19)), some (some (91 + 20)), some (some (91 + 21)), none]), .inr (.inl (0, 1436)), .inr (.inl (0, 1436)), .inr (.inl (0, 1436)), .inr (.inl (0, 64)), .inr (.inl (0, 96)), .inr (.inl (2, 12)), .inr (.inl (0, 4)), .inr (.inl (0, 96)), .inr (.inl (0, 96)), .inr (.inl (1, 10)), .inr (.inl (0, 96)), .inr (.inl (0, 4)), .inr (.inl (0, 4)), .inr (.inl (0, 4)), .inr (.inl (0, 96)), .inr (.inl (0, 5)), .inr (.inl (0, 5)), .inr (.inl (0, 5)), .inr (.inl (0, 120)), .inr (.inl (0, 24)), .inr (.inl (0, 60))]) mem := by
  have hn : ((SH.take 91) : List Sh).length = 91 := rfl
  have S : Std (cxK X 21 5109) E prog_9_method_1_code R6 2 1 := stdK0 S0 (rc hRm (Nat.le_of_ble_eq_true rfl)) (ro hRm (Nat.le_of_ble_eq_true rfl))
  refine j_aload_n S D_M_init_295 1 rfl rfl ?_
  refine j_getR S D_M_init_296 fl_R6_9 (pfx hn rfl) rfl ?_
  refine j_bipush S D_M_init_299 cb_7 ?_
  refine j_iload_n S D_M_init_301 0 rfl rfl ?_
  refine j_iadd S D_M_init_302 ?_
  refine j_nm (v := 7) (by decide +kernel) ?_
  refine j_sipush S D_M_init_303 cs_1000 ?_
  refine j_iast S D_M_init_306 (pfx hn rfl) inbc_7_1436 ?_
  refine j_iinc S D_M_init_307 0 rfl (v := 1) (by decide +kernel) (lv := [(1, .int 1), (0, .ref (eb E + (91 + 0)))]) rfl (Nat.le_of_ble_eq_true rfl) ?_
  refine j_goto S D_M_init_310 ?_
  refine j_iload_n S D_M_init_290 0 rfl rfl ?_
  refine j_iconst S D_M_init_291 ci_3 ?_
  refine j_icmp_ge S D_M_init_292 (fun c_ => absurd c_ (by decide +kernel)) (fun _ => ?_)
  refine j_aload_n S D_M_init_295 1 rfl rfl ?_
  refine j_getR S D_M_init_296 fl_R6_9 (pfx hn rfl) rfl ?_
  refine j_bipush S D_M_init_299 cb_7 ?_
  refine j_iload_n S D_M_init_301 0 rfl rfl ?_
  refine j_iadd S D_M_init_302 ?_
  refine j_nm (v := 8) (by decide +kernel) ?_
  refine j_sipush S D_M_init_303 cs_1000 ?_
  refine j_iast S D_M_init_306 (pfx hn rfl) inbc_8_1436 ?_
  refine j_iinc S D_M_init_307 0 rfl (v := 2) (by decide +kernel) (lv := [(1, .int 2), (0, .ref (eb E + (91 + 0)))]) rfl (Nat.le_of_ble_eq_true rfl) ?_
  refine j_goto S D_M_init_310 ?_
  refine j_iload_n S D_M_init_290 0 rfl rfl ?_
  refine j_iconst S D_M_init_291 ci_3 ?_
  refine j_icmp_ge S D_M_init_292 (fun c_ => absurd c_ (by decide +kernel)) (fun _ => ?_)
  refine j_aload_n S D_M_init_295 1 rfl rfl ?_
  refine j_getR S D_M_init_296 fl_R6_9 (pfx hn rfl) rfl ?_
  refine j_bipush S D_M_init_299 cb_7 ?_
  refine j_iload_n S D_M_init_301 0 rfl rfl ?_
  refine j_iadd S D_M_init_302 ?_
  refine j_nm (v := 9) (by decide +kernel) ?_
  refine j_sipush S D_M_init_303 cs_1000 ?_
  refine j_iast S D_M_init_306 (pfx hn rfl) inbc_9_1436 ?_
  refine j_iinc S D_M_init_307 0 rfl (v := 3) (by decide +kernel) (lv := [(1, .int 3), (0, .ref (eb E + (91 + 0)))]) rfl (Nat.le_of_ble_eq_true rfl) ?_
  refine j_goto S D_M_init_310 ?_
  refine j_iload_n S D_M_init_290 0 rfl rfl ?_
  refine j_iconst S D_M_init_291 ci_3 ?_
  refine j_icmp_ge S D_M_init_292 (fun _ => ?_) (fun c_ => absurd c_ (by decide +kernel))
  refine j_iconst S D_M_init_313 ci_0 ?_
  refine j_istore_n S D_M_init_314 (lv := [(1, .int 0), (0, .ref (eb E + (91 + 0)))]) rfl ⟨rfl, (Nat.le_of_ble_eq_true rfl)⟩ ?_
  refine j_iload_n S D_M_init_315 0 rfl rfl ?_
  refine j_bipush S D_M_init_316 cb_6 ?_
  refine j_icmp_ge S D_M_init_318 (fun c_ => absurd c_ (by decide +kernel)) (fun _ => ?_)
  refine j_aload_n S D_M_init_321 1 rfl rfl ?_
  exact kk
set_option maxHeartbeats 2000000 in
theorem K_M_init_6 {X : Cx} {E : En} {mem : Mm} (S0 : Std (cxK X 0 0) E prog_9_method_1_code R6 2 1) (hRm : cxR X = rmN 1 21 5109) (hin : (cxT X).name = "<init>") (hz : (cxS X).heap.size = eb E + (91 + 1)) (hKx : Kx (cxS X)) (kk : J (cxK X 21 5109) E 2 316 [(1, .int 3), (0, .ref (eb E + (91 + 0)))] [.int 3] ((SH.take 91) ++ [.inl (6, [some (some (91 + 1)), some (some (91 + 2)), some (some (91 + 3)), none, none, some (some (91 + 4)), some (some (91 + 5)), none, none, none, none, none, none, none, some (some (91 + 6)), some (some (91 + 7)), some (some (91 + 8)), none, none, some (some (91 + 9)), none, some (some (91 + 10)), some (some (91 + 11)), some (some (91 + 12)), some (some (91 + 13)), some (some (91 + 14)), some (some (91 + 15)), some (some (91 + 16)), some (some (91 + 17)), some (some (91 + 18)), some (some (91 + 19)), some (some (91 + 20)), some (some (91 + 21)), none]), .inr (.inl (0, 1436)), .inr (.inl (0, 1436)), .inr (.inl (0, 1436)), .inr (.inl (0, 64)), .inr (.inl (0, 96)), .inr (.inl (2, 12)), .inr (.inl (0, 4)), .inr (.inl (0, 96)), .inr (.inl (0, 96)), .inr (.inl (1, 10)), .inr (.inl (0, 96)), .inr (.inl (0, 4)), .inr (.inl (0, 4)), .inr (.inl (0, 4)), .inr (.inl (0, 96)), .inr (.inl (0, 5)), .inr (.inl (0, 5)), .inr (.inl (0, 5)), .inr (.inl (0, 120)), .inr (.inl (0, 24)), .inr (.inl (0, 60))]) (g_M_init_6 mem)) : J (cxK X 21 5109) E 2 322 [(1, .int 0), (0, .ref (eb E + (91 + 0)))] [.ref (eb E + (91 + 0))] ((SH.take 91) ++ [.inl (6, [some (some (91 + 1)), some (some (91 + 2)), some (some (91 + 3)), none, none, some (some (91 + 4)), some (some (91 + 5)), none, none, none, none, none, none, none, some (some (91 + 6)), some (some (91 + 7)), some (some (91 + 8)), none, none, some (some (91 + 9)), none, some (some (91 + 10)), some (some (91 + 11)), some (some (91 + 12)), some (some (91 + 13)), some (some (91 + 14)), some (some (91 + 15)), some (some (91 + 16)), some (some (91 + 17)), some (some (91 + 18)), some (some (91 + 19)), some (some (91 + 20)), some (some (91 + 21)), none]), .inr (.inl (0, 1436)), .inr (.inl (0, 1436)), .inr (.inl (0, 1436)), .inr (.inl (0, 64)), .inr (.inl (0, 96)), .inr (.inl (2, 12)), .inr (.inl (0, 4)), .inr (.inl (0, 96)), .inr (.inl (0, 96)), .inr (.inl (1, 10)), .inr (.inl (0, 96)), .inr (.inl (0, 4)), .inr (.inl (0, 4)), .inr (.inl (0, 4)), .inr (.inl (0, 96)), .inr (.inl (0, 5)), .inr (.inl (0, 5)), .inr (.inl (0, 5)), .inr (.inl (0, 120)), .inr (.inl (0, 24)), .inr (.inl (0, 60))]) mem := by
  have hn : ((SH.take 91) : List Sh).length = 91 := rfl
  have S : Std (cxK X 21 5109) E prog_9_method_1_code R6 2 1 := stdK0 S0 (rc hRm (Nat.le_of_ble_eq_true rfl)) (ro hRm (Nat.le_of_ble_eq_true rfl))
  refine j_getR S D_M_init_322 fl_R6_9 (pfx hn rfl) rfl ?_
  refine j_bipush S D_M_init_325 cb_10 ?_
  refine j_iconst S D_M_init_327 ci_4 ?_
  refine j_iload_n S D_M_init_328 0 rfl rfl ?_
  refine j_imul S D_M_init_329 ?_
  refine j_nm (v := 0) (by decide +kernel) ?_
  refine j_iadd S D_M_init_330 ?_
  refine j_nm (v := 10) (by decide +kernel) ?_
  refine j_bipush S D_M_init_331 cb_100 ?_
  refine j_iast S D_M_init_333 (pfx hn rfl) inbc_10_1436 ?_
  refine j_iinc S D_M_init_334 0 rfl (v := 1) (by decide +kernel) (lv := [(1, .int 1), (0, .ref (eb E + (91 + 0)))]) rfl (Nat.le_of_ble_eq_true rfl) ?_
  refine j_goto S D_M_init_337 ?_
  refine j_iload_n S D_M_init_315 0 rfl rfl ?_
  refine j_bipush S D_M_init_316 cb_6 ?_
  refine j_icmp_ge S D_M_init_318 (fun c_ => absurd c_ (by decide +kernel)) (fun _ => ?_)
  refine j_aload_n S D_M_init_321 1 rfl rfl ?_
  refine j_getR S D_M_init_322 fl_R6_9 (pfx hn rfl) rfl ?_
  refine j_bipush S D_M_init_325 cb_10 ?_
  refine j_iconst S D_M_init_327 ci_4 ?_
  refine j_iload_n S D_M_init_328 0 rfl rfl ?_
  refine j_imul S D_M_init_329 ?_
  refine j_nm (v := 4) (by decide +kernel) ?_
  refine j_iadd S D_M_init_330 ?_
  refine j_nm (v := 14) (by decide +kernel) ?_
  refine j_bipush S D_M_init_331 cb_100 ?_
  refine j_iast S D_M_init_333 (pfx hn rfl) inbc_14_1436 ?_
  refine j_iinc S D_M_init_334 0 rfl (v := 2) (by decide +kernel) (lv := [(1, .int 2), (0, .ref (eb E + (91 + 0)))]) rfl (Nat.le_of_ble_eq_true rfl) ?_
  refine j_goto S D_M_init_337 ?_
  refine j_iload_n S D_M_init_315 0 rfl rfl ?_
  refine j_bipush S D_M_init_316 cb_6 ?_
  refine j_icmp_ge S D_M_init_318 (fun c_ => absurd c_ (by decide +kernel)) (fun _ => ?_)
  refine j_aload_n S D_M_init_321 1 rfl rfl ?_
  refine j_getR S D_M_init_322 fl_R6_9 (pfx hn rfl) rfl ?_
  refine j_bipush S D_M_init_325 cb_10 ?_
  refine j_iconst S D_M_init_327 ci_4 ?_
  refine j_iload_n S D_M_init_328 0 rfl rfl ?_
  refine j_imul S D_M_init_329 ?_
  refine j_nm (v := 8) (by decide +kernel) ?_
  refine j_iadd S D_M_init_330 ?_
  refine j_nm (v := 18) (by decide +kernel) ?_
  refine j_bipush S D_M_init_331 cb_100 ?_
  refine j_iast S D_M_init_333 (pfx hn rfl) inbc_18_1436 ?_
  refine j_iinc S D_M_init_334 0 rfl (v := 3) (by decide +kernel) (lv := [(1, .int 3), (0, .ref (eb E + (91 + 0)))]) rfl (Nat.le_of_ble_eq_true rfl) ?_
  refine j_goto S D_M_init_337 ?_
  refine j_iload_n S D_M_init_315 0 rfl rfl ?_
  exact kk
set_option maxHeartbeats 2000000 in
theorem K_M_init_7 {X : Cx} {E : En} {mem : Mm} (S0 : Std (cxK X 0 0) E prog_9_method_1_code R6 2 1) (hRm : cxR X = rmN 1 21 5109) (hin : (cxT X).name = "<init>") (hz : (cxS X).heap.size = eb E + (91 + 1)) (hKx : Kx (cxS X)) (kk : J (cxK X 21 5109) E 2 334 [(1, .int 5), (0, .ref (eb E + (91 + 0)))] [] ((SH.take 91) ++ [.inl (6, [some (some (91 + 1)), some (some (91 + 2)), some (some (91 + 3)), none, none, some (some (91 + 4)), some (some (91 + 5)), none, none, none, none, none, none, none, some (some (91 + 6)), some (some (91 + 7)), some (some (91 + 8)), none, none, some (some (91 + 9)), none, some (some (91 + 10)), some (some (91 + 11)), some (some (91 + 12)), some (some (91 + 13)), some (some (91 + 14)), some (some (91 + 15)), some (some (91 + 16)), some (some (91 + 17)), some (some (91 + 18)), some (some (91 + 19)), some (some (91 + 20)), some (some (91 + 21)), none]), .inr (.inl (0, 1436)), .inr (.inl (0, 1436)), .inr (.inl (0, 1436)), .inr (.inl (0, 64)), .inr (.inl (0, 96)), .inr (.inl (2, 12)), .inr (.inl (0, 4)), .inr (.inl (0, 96)), .inr (.inl (0, 96)), .inr (.inl (1, 10)), .inr (.inl (0, 96)), .inr (.inl (0, 4)), .inr (.inl (0, 4)), .inr (.inl (0, 4)), .inr (.inl (0, 96)), .inr (.inl (0, 5)), .inr (.inl (0, 5)), .inr (.inl (0, 5)), .inr (.inl (0, 120)), .inr (.inl (0, 24)), .inr (.inl (0, 60))]) (g_M_init_7 mem)) : J (cxK X 21 5109) E 2 316 [(1, .int 3), (0, .ref (eb E + (91 + 0)))] [.int 3] ((SH.take 91) ++ [.inl (6, [some (some (91 + 1)), some (some (91 + 2)), some (some (91 + 3)), none, none, some (some (91 + 4)), some (some (91 + 5)), none, none, none, none, none, none, none, some (some (91 + 6)), some (some (91 + 7)), some (some (91 + 8)), none, none, some (some (91 + 9)), none, some (some (91 + 10)), some (some (91 + 11)), some (some (91 + 12)), some (some (91 + 13)), some (some (91 + 14)), some (some (91 + 15)), some (some (91 + 16)), some (some (91 + 17)), some (some (91 + 18)), some (some (91 + 19)), some (some (91 + 20)), some (some (91 + 21)), none]), .inr (.inl (0, 1436)), .inr (.inl (0, 1436)), .inr (.inl (0, 1436)), .inr (.inl (0, 64)), .inr (.inl (0, 96)), .inr (.inl (2, 12)), .inr (.inl (0, 4)), .inr (.inl (0, 96)), .inr (.inl (0, 96)), .inr (.inl (1, 10)), .inr (.inl (0, 96)), .inr (.inl (0, 4)), .inr (.inl (0, 4)), .inr (.inl (0, 4)), .inr (.inl (0, 96)), .inr (.inl (0, 5)), .inr (.inl (0, 5)), .inr (.inl (0, 5)), .inr (.inl (0, 120)), .inr (.inl (0, 24)), .inr (.inl (0, 60))]) mem := by
  have hn : ((SH.take 91) : List Sh).length = 91 := rfl
  have S : Std (cxK X 21 5109) E prog_9_method_1_code R6 2 1 := stdK0 S0 (rc hRm (Nat.le_of_ble_eq_true rfl)) (ro hRm (Nat.le_of_ble_eq_true rfl))
  refine j_bipush S D_M_init_316 cb_6 ?_
  refine j_icmp_ge S D_M_init_318 (fun c_ => absurd c_ (by decide +kernel)) (fun _ => ?_)
  refine j_aload_n S D_M_init_321 1 rfl rfl ?_
  refine j_getR S D_M_init_322 fl_R6_9 (pfx hn rfl) rfl ?_
  refine j_bipush S D_M_init_325 cb_10 ?_
  refine j_iconst S D_M_init_327 ci_4 ?_
  refine j_iload_n S D_M_init_328 0 rfl rfl ?_
  refine j_imul S D_M_init_329 ?_
  refine j_nm (v := 12) (by decide +kernel) ?_
  refine j_iadd S D_M_init_330 ?_
  refine j_nm (v := 22) (by decide +kernel) ?_
  refine j_bipush S D_M_init_331 cb_100 ?_
  refine j_iast S D_M_init_333 (pfx hn rfl) inbc_22_1436 ?_
  refine j_iinc S D_M_init_334 0 rfl (v := 4) (by decide +kernel) (lv := [(1, .int 4), (0, .ref (eb E + (91 + 0)))]) rfl (Nat.le_of_ble_eq_true rfl) ?_
  refine j_goto S D_M_init_337 ?_
  refine j_iload_n S D_M_init_315 0 rfl rfl ?_
  refine j_bipush S D_M_init_316 cb_6 ?_
  refine j_icmp_ge S D_M_init_318 (fun c_ => absurd c_ (by decide +kernel)) (fun _ => ?_)
  refine j_aload_n S D_M_init_321 1 rfl rfl ?_
  refine j_getR S D_M_init_322 fl_R6_9 (pfx hn rfl) rfl ?_
  refine j_bipush S D_M_init_325 cb_10 ?_
  refine j_iconst S D_M_init_327 ci_4 ?_
  refine j_iload_n S D_M_init_328 0 rfl rfl ?_
  refine j_imul S D_M_init_329 ?_
  refine j_nm (v := 16) (by decide +kernel) ?_
  refine j_iadd S D_M_init_330 ?_
  refine j_nm (v := 26) (by decide +kernel) ?_
  refine j_bipush S D_M_init_331 cb_100 ?_
  refine j_iast S D_M_init_333 (pfx hn rfl) inbc_26_1436 ?_
  refine j_iinc S D_M_init_334 0 rfl (v := 5) (by decide +kernel) (lv := [(1, .int 5), (0, .ref (eb E + (91 + 0)))]) rfl (Nat.le_of_ble_eq_true rfl) ?_
  refine j_goto S D_M_init_337 ?_
  refine j_iload_n S D_M_init_315 0 rfl rfl ?_
  refine j_bipush S D_M_init_316 cb_6 ?_
  refine j_icmp_ge S D_M_init_318 (fun c_ => absurd c_ (by decide +kernel)) (fun _ => ?_)
  refine j_aload_n S D_M_init_321 1 rfl rfl ?_
  refine j_getR S D_M_init_322 fl_R6_9 (pfx hn rfl) rfl ?_
  refine j_bipush S D_M_init_325 cb_10 ?_
  refine j_iconst S D_M_init_327 ci_4 ?_
  refine j_iload_n S D_M_init_328 0 rfl rfl ?_
  refine j_imul S D_M_init_329 ?_
  refine j_nm (v := 20) (by decide +kernel) ?_
  refine j_iadd S D_M_init_330 ?_
  refine j_nm (v := 30) (by decide +kernel) ?_
  refine j_bipush S D_M_init_331 cb_100 ?_
  refine j_iast S D_M_init_333 (pfx hn rfl) inbc_30_1436 ?_
  exact kk
set_option maxHeartbeats 2000000 in
theorem K_M_init_8 {X : Cx} {E : En} {mem : Mm} (S0 : Std (cxK X 0 0) E prog_9_method_1_code R6 2 1) (hRm : cxR X = rmN 1 21 5109) (hin : (cxT X).name = "<init>") (hz : (cxS X).heap.size = eb E + (91 + 1)) (hKx : Kx (cxS X)) (hR : RetN X E prog_9_method_1_code 2 21 5109 ((SH.take 91) ++ [.inl (6, [some (some (91 + 1)), some (some (91 + 2)), some (some (91 + 3)), none, none, some (some (91 + 4)), some (some (91 + 5)), none, none, none, none, none, none, none, some (some (91 + 6)), some (some (91 + 7)), some (some (91 + 8)), none, none, some (some (91 + 9)), none, some (some (91 + 10)), some (some (91 + 11)), some (some (91 + 12)), some (some (91 + 13)), some (some (91 + 14)), some (some (91 + 15)), some (some (91 + 16)), some (some (91 + 17)), some (some (91 + 18)), some (some (91 + 19)), some (some (91 + 20)), some (some (91 + 21)), none]), .inr (.inl (0, 1436)), .inr (.inl (0, 1436)), .inr (.inl (0, 1436)), .inr (.inl (0, 64)), .inr (.inl (0, 96)), .inr (.inl (2, 12)), .inr (.inl (0, 4)), .inr (.inl (0, 96)), .inr (.inl (0, 96)), .inr (.inl (1, 10)), .inr (.inl (0, 96)), .inr (.inl (0, 4)), .inr (.inl (0, 4)), .inr (.inl (0, 4)), .inr (.inl (0, 96)), .inr (.inl (0, 5)), .inr (.inl (0, 5)), .inr (.inl (0, 5)), .inr (.inl (0, 120)), .inr (.inl (0, 24)), .inr (.inl (0, 60))]) (g_M_init_8 mem)) : J (cxK X 21 5109) E 2 334 [(1, .int 5), (0, .ref (eb E + (91 + 0)))] [] ((SH.take 91) ++ [.inl (6, [some (some (91 + 1)), some (some (91 + 2)), some (some (91 + 3)), none, none, some (some (91 + 4)), some (some (91 + 5)), none, none, none, none, none, none, none, some (some (91 + 6)), some (some (91 + 7)), some (some (91 + 8)), none, none, some (some (91 + 9)), none, some (some (91 + 10)), some (some (91 + 11)), some (some (91 + 12)), some (some (91 + 13)), some (some (91 + 14)), some (some (91 + 15)), some (some (91 + 16)), some (some (91 + 17)), some (some (91 + 18)), some (some (91 + 19)), some (some (91 + 20)), some (some (91 + 21)), none]), .inr (.inl (0, 1436)), .inr (.inl (0, 1436)), .inr (.inl (0, 1436)), .inr (.inl (0, 64)), .inr (.inl (0, 96)), .inr (.inl (2, 12)), .inr (.inl (0, 4)), .inr (.inl (0, 96)), .inr (.inl (0, 96)), .inr (.inl (1, 10)), .inr (.inl (0, 96)), .inr (.inl (0, 4)), .inr (.inl (0, 4)), .inr (.inl (0, 4)), .inr (.inl (0, 96)), .inr (.inl (0, 5)), .inr (.inl (0, 5)), .inr (.inl (0, 5)), .inr (.inl (0, 120)), .inr (.inl (0, 24)), .inr (.inl (0, 60))]) mem := by
  have hn : ((SH.take 91) : List Sh).length = 91 := rfl
  have S : Std (cxK X 21 5109) E prog_9_method_1_code R6 2 1 := stdK0 S0 (rc hRm (Nat.le_of_ble_eq_true rfl)) (ro hRm (Nat.le_of_ble_eq_true rfl))
  refine j_iinc S D_M_init_334 0 rfl (v := 6) (by decide +kernel) (lv := [(1, .int 6), (0, .ref (eb E + (91 + 0)))]) rfl (Nat.le_of_ble_eq_true rfl) ?_
  refine j_goto S D_M_init_337 ?_
  refine j_iload_n S D_M_init_315 0 rfl rfl ?_
  refine j_bipush S D_M_init_316 cb_6 ?_
  refine j_icmp_ge S D_M_init_318 (fun _ => ?_) (fun c_ => absurd c_ (by decide +kernel))
  exact hR _ _ D_M_init_340
set_option maxHeartbeats 2000000 in
theorem c_M_init (l : Launch) (E : En)  {mem : Mm} : CtN l E 1 21 5109 y_M_init prog_9_method_1_code 2 [.ref (eb E + (91 + 0))] ((SH.take 91) ++ [.inl (6, [some none, some none, some none, none, none, some none, some none, none, none, none, none, none, none, none, some none, some none, some none, none, none, some none, none, some none, some none, some none, some none, some none, some none, some none, some none, some none, some none, some none, some none, none])]) mem ((SH.take 91) ++ [.inl (6, [some (some (91 + 1)), some (some (91 + 2)), some (some (91 + 3)), none, none, some (some (91 + 4)), some (some (91 + 5)), none, none, none, none, none, none, none, some (some (91 + 6)), some (some (91 + 7)), some (some (91 + 8)), none, none, some (some (91 + 9)), none, some (some (91 + 10)), some (some (91 + 11)), some (some (91 + 12)), some (some (91 + 13)), some (some (91 + 14)), some (some (91 + 15)), some (some (91 + 16)), some (some (91 + 17)), some (some (91 + 18)), some (some (91 + 19)), some (some (91 + 20)), some (some (91 + 21)), none]), .inr (.inl (0, 1436)), .inr (.inl (0, 1436)), .inr (.inl (0, 1436)), .inr (.inl (0, 64)), .inr (.inl (0, 96)), .inr (.inl (2, 12)), .inr (.inl (0, 4)), .inr (.inl (0, 96)), .inr (.inl (0, 96)), .inr (.inl (1, 10)), .inr (.inl (0, 96)), .inr (.inl (0, 4)), .inr (.inl (0, 4)), .inr (.inl (0, 4)), .inr (.inl (0, 96)), .inr (.inl (0, 5)), .inr (.inl (0, 5)), .inr (.inl (0, 5)), .inr (.inl (0, 120)), .inr (.inl (0, 24)), .inr (.inl (0, 60))]) (g_M_init_8 (g_M_init_7 (g_M_init_6 (g_M_init_5 (g_M_init_4 (g_M_init_3 (g_M_init_2 (g_M_init_1 (g_M_init_0 (mem)))))))))) := by
  have hn : ((SH.take 91) : List Sh).length = 91 := rfl
  refine mk_CtN ⟨by decide, (Nat.le_of_ble_eq_true rfl), rfl⟩ (fun X S0 hRm hin hz hKx hR => ?_)
  have hz : (cxS X).heap.size = eb E + (91 + 1) := by rw [hz, plen hn rfl]; rfl
  have S0 : Std (cxK X 0 0) E prog_9_method_1_code R6 2 1 := S0
  have S := S0
  exact K_M_init_0 (mem := mem) S0 hRm hin hz hKx (K_M_init_1 (mem := g_M_init_0 (mem)) S0 hRm hin hz hKx (K_M_init_2 (mem := g_M_init_1 (g_M_init_0 (mem))) S0 hRm hin hz hKx (K_M_init_3 (mem := g_M_init_2 (g_M_init_1 (g_M_init_0 (mem)))) S0 hRm hin hz hKx (K_M_init_4 (mem := g_M_init_3 (g_M_init_2 (g_M_init_1 (g_M_init_0 (mem))))) S0 hRm hin hz hKx (K_M_init_5 (mem := g_M_init_4 (g_M_init_3 (g_M_init_2 (g_M_init_1 (g_M_init_0 (mem)))))) S0 hRm hin hz hKx (K_M_init_6 (mem := g_M_init_5 (g_M_init_4 (g_M_init_3 (g_M_init_2 (g_M_init_1 (g_M_init_0 (mem))))))) S0 hRm hin hz hKx (K_M_init_7 (mem := g_M_init_6 (g_M_init_5 (g_M_init_4 (g_M_init_3 (g_M_init_2 (g_M_init_1 (g_M_init_0 (mem)))))))) S0 hRm hin hz hKx (K_M_init_8 (mem := g_M_init_7 (g_M_init_6 (g_M_init_5 (g_M_init_4 (g_M_init_3 (g_M_init_2 (g_M_init_1 (g_M_init_0 (mem))))))))) S0 hRm hin hz hKx hR))))))))
