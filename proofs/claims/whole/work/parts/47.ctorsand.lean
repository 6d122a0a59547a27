def y_S_init : MethodName := ⟨"SandPicture", "<init>", "()V"⟩
theorem D_S_init_0 : decode prog_1_method_1_code 0 = .ok (.aload_n 0, 1) ∧ 0 + 1 = 1 := by decide +kernel
theorem D_S_init_1 : decode prog_1_method_1_code 1 = .ok (.invokespecial 1, 3) ∧ 1 + 3 = 4 := by decide +kernel
theorem D_S_init_4 : decode prog_1_method_1_code 4 = .ok (.aload_n 0, 1) ∧ 4 + 1 = 5 := by decide +kernel
theorem D_S_init_5 : decode prog_1_method_1_code 5 = .ok (.bipush 15, 2) ∧ 5 + 2 = 7 := by decide +kernel
theorem D_S_init_7 : decode prog_1_method_1_code 7 = .ok (.anewarray 9, 3) ∧ 7 + 3 = 10 := by decide +kernel
theorem D_S_init_10 : decode prog_1_method_1_code 10 = .ok (.putfield 11, 3) ∧ 10 + 3 = 13 := by decide +kernel
theorem D_S_init_13 : decode prog_1_method_1_code 13 = .ok (.aload_n 0, 1) ∧ 13 + 1 = 14 := by decide +kernel
theorem D_S_init_14 : decode prog_1_method_1_code 14 = .ok (.new 15, 3) ∧ 14 + 3 = 17 := by decide +kernel
theorem D_S_init_17 : decode prog_1_method_1_code 17 = .ok (.dup, 1) ∧ 17 + 1 = 18 := by decide +kernel
theorem D_S_init_18 : decode prog_1_method_1_code 18 = .ok (.invokespecial 17, 3) ∧ 18 + 3 = 21 := by decide +kernel
theorem D_S_init_21 : decode prog_1_method_1_code 21 = .ok (.putfield 18, 3) ∧ 21 + 3 = 24 := by decide +kernel
theorem D_S_init_24 : decode prog_1_method_1_code 24 = .ok (.aload_n 0, 1) ∧ 24 + 1 = 25 := by decide +kernel
theorem D_S_init_25 : decode prog_1_method_1_code 25 = .ok (.iconst 0, 1) ∧ 25 + 1 = 26 := by decide +kernel
theorem D_S_init_26 : decode prog_1_method_1_code 26 = .ok (.putfield 22, 3) ∧ 26 + 3 = 29 := by decide +kernel
theorem D_S_init_29 : decode prog_1_method_1_code 29 = .ok (.aload_n 0, 1) ∧ 29 + 1 = 30 := by decide +kernel
theorem D_S_init_30 : decode prog_1_method_1_code 30 = .ok (.iconst 4, 1) ∧ 30 + 1 = 31 := by decide +kernel
theorem D_S_init_31 : decode prog_1_method_1_code 31 = .ok (.anewarray 26, 3) ∧ 31 + 3 = 34 := by decide +kernel
theorem D_S_init_34 : decode prog_1_method_1_code 34 = .ok (.putfield 28, 3) ∧ 34 + 3 = 37 := by decide +kernel
theorem D_S_init_37 : decode prog_1_method_1_code 37 = .ok (.aload_n 0, 1) ∧ 37 + 1 = 38 := by decide +kernel
theorem D_S_init_38 : decode prog_1_method_1_code 38 = .ok (.iconst 5, 1) ∧ 38 + 1 = 39 := by decide +kernel
theorem D_S_init_39 : decode prog_1_method_1_code 39 = .ok (.anewarray 32, 3) ∧ 39 + 3 = 42 := by decide +kernel
theorem D_S_init_42 : decode prog_1_method_1_code 42 = .ok (.putfield 34, 3) ∧ 42 + 3 = 45 := by decide +kernel
theorem D_S_init_45 : decode prog_1_method_1_code 45 = .ok (.aload_n 0, 1) ∧ 45 + 1 = 46 := by decide +kernel
theorem D_S_init_46 : decode prog_1_method_1_code 46 = .ok (.bipush 60, 2) ∧ 46 + 2 = 48 := by decide +kernel
theorem D_S_init_48 : decode prog_1_method_1_code 48 = .ok (.newarray .int, 2) ∧ 48 + 2 = 50 := by decide +kernel
theorem D_S_init_50 : decode prog_1_method_1_code 50 = .ok (.putfield 38, 3) ∧ 50 + 3 = 53 := by decide +kernel
theorem D_S_init_53 : decode prog_1_method_1_code 53 = .ok (.aload_n 0, 1) ∧ 53 + 1 = 54 := by decide +kernel
theorem D_S_init_54 : decode prog_1_method_1_code 54 = .ok (.iconst 0, 1) ∧ 54 + 1 = 55 := by decide +kernel
theorem D_S_init_55 : decode prog_1_method_1_code 55 = .ok (.putfield 42, 3) ∧ 55 + 3 = 58 := by decide +kernel
theorem D_S_init_58 : decode prog_1_method_1_code 58 = .ok (.iconst 0, 1) ∧ 58 + 1 = 59 := by decide +kernel
theorem D_S_init_59 : decode prog_1_method_1_code 59 = .ok (.istore_n 1, 1) ∧ 59 + 1 = 60 := by decide +kernel
theorem D_S_init_60 : decode prog_1_method_1_code 60 = .ok (.iload_n 1, 1) ∧ 60 + 1 = 61 := by decide +kernel
theorem D_S_init_61 : decode prog_1_method_1_code 61 = .ok (.aload_n 0, 1) ∧ 61 + 1 = 62 := by decide +kernel
theorem D_S_init_62 : decode prog_1_method_1_code 62 = .ok (.getfield 11, 3) ∧ 62 + 3 = 65 := by decide +kernel
theorem D_S_init_65 : decode prog_1_method_1_code 65 = .ok (.arraylength, 1) ∧ 65 + 1 = 66 := by decide +kernel
theorem D_S_init_66 : decode prog_1_method_1_code 66 = .ok (.if_icmp .ge 22, 3) ∧ ((66 : Nat) : Int) + 22 = ((88 : Nat) : Int) ∧ 66 + 3 = 69 := by decide +kernel
theorem D_S_init_69 : decode prog_1_method_1_code 69 = .ok (.aload_n 0, 1) ∧ 69 + 1 = 70 := by decide +kernel
theorem D_S_init_70 : decode prog_1_method_1_code 70 = .ok (.getfield 11, 3) ∧ 70 + 3 = 73 := by decide +kernel
theorem D_S_init_73 : decode prog_1_method_1_code 73 = .ok (.iload_n 1, 1) ∧ 73 + 1 = 74 := by decide +kernel
theorem D_S_init_74 : decode prog_1_method_1_code 74 = .ok (.new 9, 3) ∧ 74 + 3 = 77 := by decide +kernel
theorem D_S_init_77 : decode prog_1_method_1_code 77 = .ok (.dup, 1) ∧ 77 + 1 = 78 := by decide +kernel
theorem D_S_init_78 : decode prog_1_method_1_code 78 = .ok (.invokespecial 46, 3) ∧ 78 + 3 = 81 := by decide +kernel
theorem D_S_init_81 : decode prog_1_method_1_code 81 = .ok (.aastore, 1) ∧ 81 + 1 = 82 := by decide +kernel
theorem D_S_init_82 : decode prog_1_method_1_code 82 = .ok (.iinc 1 1, 3) ∧ 82 + 3 = 85 := by decide +kernel
theorem D_S_init_85 : decode prog_1_method_1_code 85 = .ok (.goto (-25), 3) ∧ ((85 : Nat) : Int) + (-25) = ((60 : Nat) : Int) := by decide +kernel
theorem D_S_init_88 : decode prog_1_method_1_code 88 = .ok (.bipush 96, 2) ∧ 88 + 2 = 90 := by decide +kernel
theorem D_S_init_90 : decode prog_1_method_1_code 90 = .ok (.newarray .int, 2) ∧ 90 + 2 = 92 := by decide +kernel
theorem D_S_init_92 : decode prog_1_method_1_code 92 = .ok (.astore_n 1, 1) ∧ 92 + 1 = 93 := by decide +kernel
theorem D_S_init_93 : decode prog_1_method_1_code 93 = .ok (.aload_n 0, 1) ∧ 93 + 1 = 94 := by decide +kernel
theorem D_S_init_94 : decode prog_1_method_1_code 94 = .ok (.new 47, 3) ∧ 94 + 3 = 97 := by decide +kernel
theorem D_S_init_97 : decode prog_1_method_1_code 97 = .ok (.dup, 1) ∧ 97 + 1 = 98 := by decide +kernel
theorem D_S_init_98 : decode prog_1_method_1_code 98 = .ok (.aload_n 0, 1) ∧ 98 + 1 = 99 := by decide +kernel
theorem D_S_init_99 : decode prog_1_method_1_code 99 = .ok (.getfield 11, 3) ∧ 99 + 3 = 102 := by decide +kernel
theorem D_S_init_102 : decode prog_1_method_1_code 102 = .ok (.aload_n 1, 1) ∧ 102 + 1 = 103 := by decide +kernel
theorem D_S_init_103 : decode prog_1_method_1_code 103 = .ok (.invokespecial 49, 3) ∧ 103 + 3 = 106 := by decide +kernel
theorem D_S_init_106 : decode prog_1_method_1_code 106 = .ok (.putfield 52, 3) ∧ 106 + 3 = 109 := by decide +kernel
theorem D_S_init_109 : decode prog_1_method_1_code 109 = .ok (.aload_n 0, 1) ∧ 109 + 1 = 110 := by decide +kernel
theorem D_S_init_110 : decode prog_1_method_1_code 110 = .ok (.new 47, 3) ∧ 110 + 3 = 113 := by decide +kernel
theorem D_S_init_113 : decode prog_1_method_1_code 113 = .ok (.dup, 1) ∧ 113 + 1 = 114 := by decide +kernel
theorem D_S_init_114 : decode prog_1_method_1_code 114 = .ok (.aload_n 0, 1) ∧ 114 + 1 = 115 := by decide +kernel
theorem D_S_init_115 : decode prog_1_method_1_code 115 = .ok (.getfield 11, 3) ∧ 115 + 3 = 118 := by decide +kernel
theorem D_S_init_118 : decode prog_1_method_1_code 118 = .ok (.aload_n 1, 1) ∧ 118 + 1 = 119 := by decide +kernel
theorem D_S_init_119 : decode prog_1_method_1_code 119 = .ok (.invokespecial 49, 3) ∧ 119 + 3 = 122 := by decide +kernel
theorem D_S_init_122 : decode prog_1_method_1_code 122 = .ok (.putfield 56, 3) ∧ 122 + 3 = 125 := by decide +kernel
theorem D_S_init_125 : decode prog_1_method_1_code 125 = .ok (.aload_n 0, 1) ∧ 125 + 1 = 126 := by decide +kernel
theorem D_S_init_126 : decode prog_1_method_1_code 126 = .ok (.new 47, 3) ∧ 126 + 3 = 129 := by decide +kernel
theorem D_S_init_129 : decode prog_1_method_1_code 129 = .ok (.dup, 1) ∧ 129 + 1 = 130 := by decide +kernel
theorem D_S_init_130 : decode prog_1_method_1_code 130 = .ok (.aload_n 0, 1) ∧ 130 + 1 = 131 := by decide +kernel
theorem D_S_init_131 : decode prog_1_method_1_code 131 = .ok (.getfield 11, 3) ∧ 131 + 3 = 134 := by decide +kernel
theorem D_S_init_134 : decode prog_1_method_1_code 134 = .ok (.aload_n 1, 1) ∧ 134 + 1 = 135 := by decide +kernel
theorem D_S_init_135 : decode prog_1_method_1_code 135 = .ok (.invokespecial 49, 3) ∧ 135 + 3 = 138 := by decide +kernel
theorem D_S_init_138 : decode prog_1_method_1_code 138 = .ok (.putfield 59, 3) ∧ 138 + 3 = 141 := by decide +kernel
theorem D_S_init_141 : decode prog_1_method_1_code 141 = .ok (.iconst 0, 1) ∧ 141 + 1 = 142 := by decide +kernel
theorem D_S_init_142 : decode prog_1_method_1_code 142 = .ok (.istore_n 2, 1) ∧ 142 + 1 = 143 := by decide +kernel
theorem D_S_init_143 : decode prog_1_method_1_code 143 = .ok (.iload_n 2, 1) ∧ 143 + 1 = 144 := by decide +kernel
theorem D_S_init_144 : decode prog_1_method_1_code 144 = .ok (.aload_n 0, 1) ∧ 144 + 1 = 145 := by decide +kernel
theorem D_S_init_145 : decode prog_1_method_1_code 145 = .ok (.getfield 28, 3) ∧ 145 + 3 = 148 := by decide +kernel
theorem D_S_init_148 : decode prog_1_method_1_code 148 = .ok (.arraylength, 1) ∧ 148 + 1 = 149 := by decide +kernel
theorem D_S_init_149 : decode prog_1_method_1_code 149 = .ok (.if_icmp .ge 22, 3) ∧ ((149 : Nat) : Int) + 22 = ((171 : Nat) : Int) ∧ 149 + 3 = 152 := by decide +kernel
theorem D_S_init_152 : decode prog_1_method_1_code 152 = .ok (.aload_n 0, 1) ∧ 152 + 1 = 153 := by decide +kernel
theorem D_S_init_153 : decode prog_1_method_1_code 153 = .ok (.getfield 28, 3) ∧ 153 + 3 = 156 := by decide +kernel
theorem D_S_init_156 : decode prog_1_method_1_code 156 = .ok (.iload_n 2, 1) ∧ 156 + 1 = 157 := by decide +kernel
theorem D_S_init_157 : decode prog_1_method_1_code 157 = .ok (.new 26, 3) ∧ 157 + 3 = 160 := by decide +kernel
theorem D_S_init_160 : decode prog_1_method_1_code 160 = .ok (.dup, 1) ∧ 160 + 1 = 161 := by decide +kernel
theorem D_S_init_161 : decode prog_1_method_1_code 161 = .ok (.invokespecial 62, 3) ∧ 161 + 3 = 164 := by decide +kernel
theorem D_S_init_164 : decode prog_1_method_1_code 164 = .ok (.aastore, 1) ∧ 164 + 1 = 165 := by decide +kernel
theorem D_S_init_165 : decode prog_1_method_1_code 165 = .ok (.iinc 2 1, 3) ∧ 165 + 3 = 168 := by decide +kernel
theorem D_S_init_168 : decode prog_1_method_1_code 168 = .ok (.goto (-25), 3) ∧ ((168 : Nat) : Int) + (-25) = ((143 : Nat) : Int) := by decide +kernel
theorem D_S_init_171 : decode prog_1_method_1_code 171 = .ok (.iconst 0, 1) ∧ 171 + 1 = 172 := by decide +kernel
theorem D_S_init_172 : decode prog_1_method_1_code 172 = .ok (.istore_n 2, 1) ∧ 172 + 1 = 173 := by decide +kernel
theorem D_S_init_173 : decode prog_1_method_1_code 173 = .ok (.iload_n 2, 1) ∧ 173 + 1 = 174 := by decide +kernel
theorem D_S_init_174 : decode prog_1_method_1_code 174 = .ok (.aload_n 0, 1) ∧ 174 + 1 = 175 := by decide +kernel
theorem D_S_init_175 : decode prog_1_method_1_code 175 = .ok (.getfield 34, 3) ∧ 175 + 3 = 178 := by decide +kernel
theorem D_S_init_178 : decode prog_1_method_1_code 178 = .ok (.arraylength, 1) ∧ 178 + 1 = 179 := by decide +kernel
theorem D_S_init_179 : decode prog_1_method_1_code 179 = .ok (.if_icmp .ge 22, 3) ∧ ((179 : Nat) : Int) + 22 = ((201 : Nat) : Int) ∧ 179 + 3 = 182 := by decide +kernel
theorem D_S_init_182 : decode prog_1_method_1_code 182 = .ok (.aload_n 0, 1) ∧ 182 + 1 = 183 := by decide +kernel
theorem D_S_init_183 : decode prog_1_method_1_code 183 = .ok (.getfield 34, 3) ∧ 183 + 3 = 186 := by decide +kernel
theorem D_S_init_186 : decode prog_1_method_1_code 186 = .ok (.iload_n 2, 1) ∧ 186 + 1 = 187 := by decide +kernel
theorem D_S_init_187 : decode prog_1_method_1_code 187 = .ok (.new 32, 3) ∧ 187 + 3 = 190 := by decide +kernel
theorem D_S_init_190 : decode prog_1_method_1_code 190 = .ok (.dup, 1) ∧ 190 + 1 = 191 := by decide +kernel
theorem D_S_init_191 : decode prog_1_method_1_code 191 = .ok (.invokespecial 63, 3) ∧ 191 + 3 = 194 := by decide +kernel
theorem D_S_init_194 : decode prog_1_method_1_code 194 = .ok (.aastore, 1) ∧ 194 + 1 = 195 := by decide +kernel
theorem D_S_init_195 : decode prog_1_method_1_code 195 = .ok (.iinc 2 1, 3) ∧ 195 + 3 = 198 := by decide +kernel
theorem D_S_init_198 : decode prog_1_method_1_code 198 = .ok (.goto (-25), 3) ∧ ((198 : Nat) : Int) + (-25) = ((173 : Nat) : Int) := by decide +kernel
theorem D_S_init_201 : decode prog_1_method_1_code 201 = .ok (.return_, 1) := by decide +kernel
def g_S_init_0 (mem : Mm) : Mm := (mst (va_up (va_up (va_up (mst (f_T_init (0 + 2) (va_up (va_up mem (0 + 1) (fun _ => 0)) (0 + 2) (fun _ => 0))) (0 + 0) 5 0) (0 + 4) (fun _ => 0)) (0 + 5) (fun _ => 0)) (0 + 6) (fun _ => 0)) (0 + 0) 9 0)
set_option maxHeartbeats 1000000 in
theorem K_S_init_0 {X : Cx} {E : En} {mem : Mm} (S0 : Std (cxK X 0 0) E prog_1_method_1_code R5 3 3) (hRm : cxR X = rmN 3 90 2287) (hin : (cxT X).name = "<init>") (hz : (cxS X).heap.size = eb E + (0 + 1)) (hKx : Kx (cxS X)) (kk : J (cxK X 6 186) E 3 59 [(0, .ref (eb E + (0 + 0)))] [.int 0] (([] : List Sh) ++ [.inl (5, [some (some (0 + 1)), some (some (0 + 2)), some none, some none, some none, none, some (some (0 + 4)), some (some (0 + 5)), some (some (0 + 6)), none]), .inr (.inr (3, [none, none, none, none, none, none, none, none, none, none, none, none, none, none, none])), .inl (3, [none, some (some (0 + 2 + 1)), none, none, none, none]), .inr (.inl (0, 96)), .inr (.inr (4, [none, none, none, none])), .inr (.inr (5, [none, none, none, none, none])), .inr (.inl (0, 60))]) (g_S_init_0 mem)) : J (cxK X 0 0) E 3 0 [(0, .ref (eb E + (0 + 0)))] [] (([] : List Sh) ++ [.inl (5, [some none, some none, some none, some none, some none, none, some none, some none, some none, none])]) mem := by
  have hn : (([] : List Sh) : List Sh).length = 0 := rfl
  have S : Std (cxK X 0 0) E prog_1_method_1_code R5 3 3 := stdK0 S0 (rc hRm (Nat.le_of_ble_eq_true rfl)) (ro hRm (Nat.le_of_ble_eq_true rfl))
  refine j_aload_n S D_S_init_0 0 rfl rfl ?_
  refine k_obj S (by decide) D_S_init_1 ob_R5_1 (Nat.le_of_ble_eq_true rfl) ?_
  refine j_aload_n S D_S_init_4 0 rfl rfl ?_
  refine j_bipush S D_S_init_5 cb_15 ?_
  refine k_newQ (j := 1) (M := 15) (C := R4) (ti := 3) S hKx.1.1 ⟨by omega, by omega⟩ hn rfl D_S_init_7 ck_R5_9 rfl (by decide +kernel) ⟨rfl, rfl, rc hRm (Nat.le_of_ble_eq_true rfl), ro hRm (Nat.le_of_ble_eq_true rfl)⟩ (L2 := [.inl (5, [some none, some none, some none, some none, some none, none, some none, some none, some none, none]), .inr (.inr (3, [none, none, none, none, none, none, none, none, none, none, none, none, none, none, none]))]) rfl ?_
  have S : Std (cxK X 1 15) E prog_1_method_1_code R5 3 3 := stdK0 S0 (rc hRm (Nat.le_of_ble_eq_true rfl)) (ro hRm (Nat.le_of_ble_eq_true rfl))
  refine k_putR S hin D_S_init_10 pr_R5_11 (fun _ => ⟨rfl, rfl⟩) (pfx hn rfl) rfl ?_
  refine j_shp (pset hn (L2 := [.inl (5, [some (some (0 + 1)), some none, some none, some none, some none, none, some none, some none, some none, none]), .inr (.inr (3, [none, none, none, none, none, none, none, none, none, none, none, none, none, none, none]))]) rfl) ?_
  refine j_aload_n S D_S_init_13 0 rfl rfl ?_
  refine k_newO (j := 2) (C := R3) (T := T3) (M := 6) (ci := 3) S ⟨by omega, by omega⟩ hn rfl D_S_init_14 cko_R5_15 rfl ty3 tok3 dfl3 ⟨rfl, rfl, rc hRm (Nat.le_of_ble_eq_true rfl), ro hRm (Nat.le_of_ble_eq_true rfl)⟩ (L2 := [.inl (5, [some (some (0 + 1)), some none, some none, some none, some none, none, some none, some none, some none, none]), .inr (.inr (3, [none, none, none, none, none, none, none, none, none, none, none, none, none, none, none])), .inl (3, [none, some none, none, none, none, none])]) rfl ?_
  have S : Std (cxK X 2 21) E prog_1_method_1_code R5 3 3 := stdK0 S0 (rc hRm (Nat.le_of_ble_eq_true rfl)) (ro hRm (Nat.le_of_ble_eq_true rfl))
  refine j_dup S D_S_init_17 rfl ?_
  refine j_shp (pcut (sh0 := ([] : List Sh)) (L := [.inl (5, [some (some (0 + 1)), some none, some none, some none, some none, none, some none, some none, some none, none]), .inr (.inr (3, [none, none, none, none, none, none, none, none, none, none, none, none, none, none, none])), .inl (3, [none, some none, none, none, none, none])]) [.inl (5, [some (some (0 + 1)), some none, some none, some none, some none, none, some none, some none, some none, none]), .inr (.inr (3, [none, none, none, none, none, none, none, none, none, none, none, none, none, none, none]))] [.inl (3, [none, some none, none, none, none, none])] rfl) ?_
  have hM1 := c_T_init (cxL X) E (([] : List Sh) ++ [.inl (5, [some (some (0 + 1)), some none, some none, some none, some none, none, some none, some none, some none, none]), .inr (.inr (3, [none, none, none, none, none, none, none, none, none, none, none, none, none, none, none]))]) (0 + 2) (plen hn rfl) (mem := (va_up (va_up mem (0 + 1) (fun _ => 0)) (0 + 2) (fun _ => 0)))
  refine k_callN2 (P := [.inl (5, [some (some (0 + 1)), some none, some none, some none, some none, none, some none, some none, some none, none]), .inr (.inr (3, [none, none, none, none, none, none, none, none, none, none, none, none, none, none, none]))]) (j := 2) (As := []) S hKx hn rfl (by omega) D_S_init_18 ⟨Or.inr ⟨_, hKx.2.1⟩, im_T_init⟩ cd_T_init (by decide +kernel) hM1 (by decide) rfl rfl (Nat.le_of_ble_eq_true rfl) ⟨rfl, rfl, rc hRm (Nat.le_of_ble_eq_true rfl), ro hRm (Nat.le_of_ble_eq_true rfl)⟩ ?_
  refine j_shp (List.append_assoc ([] : List Sh) [.inl (5, [some (some (0 + 1)), some none, some none, some none, some none, none, some none, some none, some none, none]), .inr (.inr (3, [none, none, none, none, none, none, none, none, none, none, none, none, none, none, none]))] _) ?_
  refine j_shp (sh2 := (([] : List Sh) ++ [.inl (5, [some (some (0 + 1)), some none, some none, some none, some none, none, some none, some none, some none, none]), .inr (.inr (3, [none, none, none, none, none, none, none, none, none, none, none, none, none, none, none])), .inl (3, [none, some (some (0 + 2 + 1)), none, none, none, none]), .inr (.inl (0, 96))])) rfl ?_
  have S : Std (cxK X 3 117) E prog_1_method_1_code R5 3 3 := stdK0 S0 (rc hRm (Nat.le_of_ble_eq_true rfl)) (ro hRm (Nat.le_of_ble_eq_true rfl))
  refine k_putR S hin D_S_init_21 pr_R5_18 (fun _ => ⟨rfl, rfl⟩) (pfx hn rfl) rfl ?_
  refine j_shp (pset hn (L2 := [.inl (5, [some (some (0 + 1)), some (some (0 + 2)), some none, some none, some none, none, some none, some none, some none, none]), .inr (.inr (3, [none, none, none, none, none, none, none, none, none, none, none, none, none, none, none])), .inl (3, [none, some (some (0 + 2 + 1)), none, none, none, none]), .inr (.inl (0, 96))]) rfl) ?_
  refine j_aload_n S D_S_init_24 0 rfl rfl ?_
  refine j_iconst S D_S_init_25 ci_0 ?_
  refine j_put S D_S_init_26 fp_R5_22 (pfx hn rfl) rfl (isb_nf isb0) ?_
  refine j_aload_n S D_S_init_29 0 rfl rfl ?_
  refine j_iconst S D_S_init_30 ci_4 ?_
  refine k_newQ (j := 4) (M := 4) (C := R1) (ti := 4) S hKx.1.2.1 ⟨by omega, by omega⟩ hn rfl D_S_init_31 ck_R5_26 rfl (by decide +kernel) ⟨rfl, rfl, rc hRm (Nat.le_of_ble_eq_true rfl), ro hRm (Nat.le_of_ble_eq_true rfl)⟩ (L2 := [.inl (5, [some (some (0 + 1)), some (some (0 + 2)), some none, some none, some none, none, some none, some none, some none, none]), .inr (.inr (3, [none, none, none, none, none, none, none, none, none, none, none, none, none, none, none])), .inl (3, [none, some (some (0 + 2 + 1)), none, none, none, none]), .inr (.inl (0, 96)), .inr (.inr (4, [none, none, none, none]))]) rfl ?_
  have S : Std (cxK X 4 121) E prog_1_method_1_code R5 3 3 := stdK0 S0 (rc hRm (Nat.le_of_ble_eq_true rfl)) (ro hRm (Nat.le_of_ble_eq_true rfl))
  refine k_putR S hin D_S_init_34 pr_R5_28 (fun _ => ⟨rfl, rfl⟩) (pfx hn rfl) rfl ?_
  refine j_shp (pset hn (L2 := [.inl (5, [some (some (0 + 1)), some (some (0 + 2)), some none, some none, some none, none, some (some (0 + 4)), some none, some none, none]), .inr (.inr (3, [none, none, none, none, none, none, none, none, none, none, none, none, none, none, none])), .inl (3, [none, some (some (0 + 2 + 1)), none, none, none, none]), .inr (.inl (0, 96)), .inr (.inr (4, [none, none, none, none]))]) rfl) ?_
  refine j_aload_n S D_S_init_37 0 rfl rfl ?_
  refine j_iconst S D_S_init_38 ci_5 ?_
  refine k_newQ (j := 5) (M := 5) (C := R2) (ti := 5) S hKx.1.2.2 ⟨by omega, by omega⟩ hn rfl D_S_init_39 ck_R5_32 rfl (by decide +kernel) ⟨rfl, rfl, rc hRm (Nat.le_of_ble_eq_true rfl), ro hRm (Nat.le_of_ble_eq_true rfl)⟩ (L2 := [.inl (5, [some (some (0 + 1)), some (some (0 + 2)), some none, some none, some none, none, some (some (0 + 4)), some none, some none, none]), .inr (.inr (3, [none, none, none, none, none, none, none, none, none, none, none, none, none, none, none])), .inl (3, [none, some (some (0 + 2 + 1)), none, none, none, none]), .inr (.inl (0, 96)), .inr (.inr (4, [none, none, none, none])), .inr (.inr (5, [none, none, none, none, none]))]) rfl ?_
  have S : Std (cxK X 5 126) E prog_1_method_1_code R5 3 3 := stdK0 S0 (rc hRm (Nat.le_of_ble_eq_true rfl)) (ro hRm (Nat.le_of_ble_eq_true rfl))
  refine k_putR S hin D_S_init_42 pr_R5_34 (fun _ => ⟨rfl, rfl⟩) (pfx hn rfl) rfl ?_
  refine j_shp (pset hn (L2 := [.inl (5, [some (some (0 + 1)), some (some (0 + 2)), some none, some none, some none, none, some (some (0 + 4)), some (some (0 + 5)), some none, none]), .inr (.inr (3, [none, none, none, none, none, none, none, none, none, none, none, none, none, none, none])), .inl (3, [none, some (some (0 + 2 + 1)), none, none, none, none]), .inr (.inl (0, 96)), .inr (.inr (4, [none, none, none, none])), .inr (.inr (5, [none, none, none, none, none]))]) rfl) ?_
  refine j_aload_n S D_S_init_45 0 rfl rfl ?_
  refine j_bipush S D_S_init_46 cb_60 ?_
  refine k_newA (j := 6) (at0 := .int) (ty := .int) S ⟨by omega, by omega⟩ hn rfl D_S_init_48 arc_0 rfl rfl rfl (by decide +kernel) ⟨rfl, rfl, rc hRm (Nat.le_of_ble_eq_true rfl), ro hRm (Nat.le_of_ble_eq_true rfl)⟩ (L2 := [.inl (5, [some (some (0 + 1)), some (some (0 + 2)), some none, some none, some none, none, some (some (0 + 4)), some (some (0 + 5)), some none, none]), .inr (.inr (3, [none, none, none, none, none, none, none, none, none, none, none, none, none, none, none])), .inl (3, [none, some (some (0 + 2 + 1)), none, none, none, none]), .inr (.inl (0, 96)), .inr (.inr (4, [none, none, none, none])), .inr (.inr (5, [none, none, none, none, none])), .inr (.inl (0, 60))]) rfl ?_
  have S : Std (cxK X 6 186) E prog_1_method_1_code R5 3 3 := stdK0 S0 (rc hRm (Nat.le_of_ble_eq_true rfl)) (ro hRm (Nat.le_of_ble_eq_true rfl))
  refine k_putR S hin D_S_init_50 pr_R5_38 (fun _ => ⟨rfl, rfl⟩) (pfx hn rfl) rfl ?_
  refine j_shp (pset hn (L2 := [.inl (5, [some (some (0 + 1)), some (some (0 + 2)), some none, some none, some none, none, some (some (0 + 4)), some (some (0 + 5)), some (some (0 + 6)), none]), .inr (.inr (3, [none, none, none, none, none, none, none, none, none, none, none, none, none, none, none])), .inl (3, [none, some (some (0 + 2 + 1)), none, none, none, none]), .inr (.inl (0, 96)), .inr (.inr (4, [none, none, none, none])), .inr (.inr (5, [none, none, none, none, none])), .inr (.inl (0, 60))]) rfl) ?_
  refine j_aload_n S D_S_init_53 0 rfl rfl ?_
  refine j_iconst S D_S_init_54 ci_0 ?_
  refine j_putI S D_S_init_55 fp_R5_42 (pfx hn rfl) rfl ?_
  refine j_iconst S D_S_init_58 ci_0 ?_
  exact kk
set_option maxHeartbeats 1000000 in
theorem sT_turn {X : Cx} {E : En} {mem m2 : Mm} {sh sh2 : List Sh} {sl : List Sl} {l : List (Option Nat)} {n i N O N1 O1 : Nat} {x x2 : Int32} (S0 : Std (cxK X 0 0) E prog_1_method_1_code R5 3 3) (hRm : cxR X = rmN 3 90 2287) (hKx : Kx (cxS X)) (hz : (cxS X).heap.size = eb E + (0 + 1)) (hlen : sh.length = n) (hn : N + 1 = n) (h0 : sh[0]? = some (.inl (5, sl))) (hs : sl[0]? = some (some (some 1))) (h1 : sh[1]? = some (.inr (.inr (3, l)))) (hl : l.length = 15) (hx : ix x = i) (hge : ¬ ((15 : Int32) ≤ x)) (hib : inb x 15 = true) (hx2 : x + Int32.ofInt 1 = x2) (hb : N + 1 + 1 = N1 ∧ N1 ≤ 90) (hb2 : O + 4 + 96 = O1 ∧ O1 ≤ 2287) (hsh : ((sh ++ ([.inl (4, [none, none, none, some (some (n + 1))]), .inr (.inl (0, 96))] : List Sh)).set 1 (.inr (.inr (3, l.set i (some (n + 0)))))) = sh2) (hm : f_X_init n (va_up mem (n + 0) (fun _ => 0)) = m2) (kk : J (cxK X N1 O1) E 3 60 [(1, .int x2), (0, .ref (eb E + (0 + 0)))] [] sh2 m2) : J (cxK X N O) E 3 60 [(1, .int x), (0, .ref (eb E + (0 + 0)))] [] sh mem := by
  have hrc : (cxR X).cells = 90 := by rw [hRm]; rfl
  have hro : (cxR X).slots = 2287 := by rw [hRm]; rfl
  have S : Std (cxK X N O) E prog_1_method_1_code R5 3 3 := stdK0 S0 (by omega) (by omega)
  refine j_iload_n S D_S_init_60 0 rfl rfl ?_
  refine j_aload_n S D_S_init_61 1 rfl rfl ?_
  refine j_getR S D_S_init_62 fl_R5_11 h0 hs ?_
  refine j_alenQ S D_S_init_65 h1 rfl (v := 15) (by rw [hl]; decide +kernel) ?_
  refine j_icmp_ge S D_S_init_66 (fun c_ => absurd c_ hge) (fun _ => ?_)
  refine j_aload_n S D_S_init_69 1 rfl rfl ?_
  refine j_getR S D_S_init_70 fl_R5_11 h0 hs ?_
  refine j_iload_n S D_S_init_73 0 rfl rfl ?_
  refine j_shp (List.append_nil sh).symm ?_
  refine k_newO (j := 0) (C := R4) (T := T4) (M := 4) (ci := 4) (n0 := n) S ⟨by omega, by omega⟩ hlen rfl D_S_init_74 cko_R5_9 rfl ty4 tok4 dfl4 ⟨rfl, rfl, by omega, by omega⟩ (L2 := [.inl (4, [none, none, none, some none])]) rfl ?_
  have S : Std (cxK X (N + 1) (O + 4)) E prog_1_method_1_code R5 3 3 := stdK0 S0 (by omega) (by omega)
  refine j_dup S D_S_init_77 rfl ?_
  have hM1 := c_X_init (cxL X) E sh n hlen (mem := va_up mem (n + 0) (fun _ => 0))
  have hl1 : (sh ++ ([.inl (4, [none, none, none, some none])] : List Sh)).length = n + 1 := by rw [List.length_append, hlen]; rfl
  refine k_callN (n := 0) (As := []) S hKx ⟨by rw [hl1]; omega, by rw [hl1]; omega⟩ D_S_init_78 ⟨Or.inr ⟨_, hKx.2.2.1⟩, im_X_init⟩ cd_X_init (by decide +kernel) hM1 (by decide) rfl rfl (Nat.le_of_ble_eq_true rfl) ⟨hb.1, hb2.1, by omega, by omega⟩ ?_
  have S : Std (cxK X N1 O1) E prog_1_method_1_code R5 3 3 := stdK0 S0 (by omega) (by omega)
  have hk1 : (sh ++ ([.inl (4, [none, none, none, some (some (n + 1))]), .inr (.inl (0, 96))] : List Sh))[1]? = some (.inr (.inr (3, l))) := by
    rw [List.getElem?_append_left (List.getElem?_eq_some_iff.mp h1).1]; exact h1
  refine k_aastN (q := (R4, T4, 4)) hx S D_S_init_81 hk1 rfl (pfx hlen rfl) (ci := 4) rfl (by rw [hl]; exact hib) ?_
  refine j_iinc S D_S_init_82 0 rfl (v := x2) hx2 (lv := [(1, .int x2), (0, .ref (eb E + (0 + 0)))]) rfl (Nat.le_of_ble_eq_true rfl) ?_
  refine j_goto S D_S_init_85 ?_
  exact j_shp hsh (j_mem hm.symm kk)
set_option maxHeartbeats 1000000 in
theorem sH_turn {X : Cx} {E : En} {mem m2 : Mm} {sh sh2 : List Sh} {sl : List Sl} {l : List (Option Nat)} {n i N O N1 O1 : Nat} {x x2 : Int32} (S0 : Std (cxK X 0 0) E prog_1_method_1_code R5 3 3) (hRm : cxR X = rmN 3 90 2287) (hKx : Kx (cxS X)) (hz : (cxS X).heap.size = eb E + (0 + 1)) (hlen : sh.length = n) (hn : N + 1 = n) (h0 : sh[0]? = some (.inl (5, sl))) (hs : sl[6]? = some (some (some 4))) (h1 : sh[4]? = some (.inr (.inr (4, l)))) (hl : l.length = 4) (hx : ix x = i) (hge : ¬ ((4 : Int32) ≤ x)) (hib : inb x 4 = true) (hx2 : x + Int32.ofInt 1 = x2) (hb : N + 1 + 1 = N1 ∧ N1 ≤ 90) (hb2 : O + 3 + 24 = O1 ∧ O1 ≤ 2287) (hsh : ((sh ++ ([.inl (1, [none, none, some (some (n + 1))]), .inr (.inl (0, 24))] : List Sh)).set 4 (.inr (.inr (4, l.set i (some (n + 0)))))) = sh2) (hm : f_H_init n (va_up mem (n + 0) (fun _ => 0)) = m2) (kk : J (cxK X N1 O1) E 3 143 [(2, .int x2), (1, .ref (eb E + 37)), (0, .ref (eb E + (0 + 0)))] [] sh2 m2) : J (cxK X N O) E 3 143 [(2, .int x), (1, .ref (eb E + 37)), (0, .ref (eb E + (0 + 0)))] [] sh mem := by
  have hrc : (cxR X).cells = 90 := by rw [hRm]; rfl
  have hro : (cxR X).slots = 2287 := by rw [hRm]; rfl
  have S : Std (cxK X N O) E prog_1_method_1_code R5 3 3 := stdK0 S0 (by omega) (by omega)
  refine j_iload_n S D_S_init_143 0 rfl rfl ?_
  refine j_aload_n S D_S_init_144 2 rfl rfl ?_
  refine j_getR S D_S_init_145 fl_R5_28 h0 hs ?_
  refine j_alenQ S D_S_init_148 h1 rfl (v := 4) (by rw [hl]; decide +kernel) ?_
  refine j_icmp_ge S D_S_init_149 (fun c_ => absurd c_ hge) (fun _ => ?_)
  refine j_aload_n S D_S_init_152 2 rfl rfl ?_
  refine j_getR S D_S_init_153 fl_R5_28 h0 hs ?_
  refine j_iload_n S D_S_init_156 0 rfl rfl ?_
  refine j_shp (List.append_nil sh).symm ?_
  refine k_newO (j := 0) (C := R1) (T := T1) (M := 3) (ci := 1) (n0 := n) S ⟨by omega, by omega⟩ hlen rfl D_S_init_157 cko_R5_26 rfl ty1 tok1 dfl1 ⟨rfl, rfl, by omega, by omega⟩ (L2 := [.inl (1, [none, none, some none])]) rfl ?_
  have S : Std (cxK X (N + 1) (O + 3)) E prog_1_method_1_code R5 3 3 := stdK0 S0 (by omega) (by omega)
  refine j_dup S D_S_init_160 rfl ?_
  have hM1 := c_H_init (cxL X) E sh n hlen (mem := va_up mem (n + 0) (fun _ => 0))
  have hl1 : (sh ++ ([.inl (1, [none, none, some none])] : List Sh)).length = n + 1 := by rw [List.length_append, hlen]; rfl
  refine k_callN (n := 0) (As := []) S hKx ⟨by rw [hl1]; omega, by rw [hl1]; omega⟩ D_S_init_161 ⟨Or.inr ⟨_, hKx.2.2.2.1⟩, im_H_init⟩ cd_H_init (by decide +kernel) hM1 (by decide) rfl rfl (Nat.le_of_ble_eq_true rfl) ⟨hb.1, hb2.1, by omega, by omega⟩ ?_
  have S : Std (cxK X N1 O1) E prog_1_method_1_code R5 3 3 := stdK0 S0 (by omega) (by omega)
  have hk1 : (sh ++ ([.inl (1, [none, none, some (some (n + 1))]), .inr (.inl (0, 24))] : List Sh))[4]? = some (.inr (.inr (4, l))) := by
    rw [List.getElem?_append_left (List.getElem?_eq_some_iff.mp h1).1]; exact h1
  refine k_aastN (q := (R1, T1, 3)) hx S D_S_init_164 hk1 rfl (pfx hlen rfl) (ci := 1) rfl (by rw [hl]; exact hib) ?_
  refine j_iinc S D_S_init_165 0 rfl (v := x2) hx2 (lv := [(2, .int x2), (1, .ref (eb E + 37)), (0, .ref (eb E + (0 + 0)))]) rfl (Nat.le_of_ble_eq_true rfl) ?_
  refine j_goto S D_S_init_168 ?_
  exact j_shp hsh (j_mem hm.symm kk)
set_option maxHeartbeats 1000000 in
theorem sL_turn {X : Cx} {E : En} {mem m2 : Mm} {sh sh2 : List Sh} {sl : List Sl} {l : List (Option Nat)} {n i N O N1 O1 : Nat} {x x2 : Int32} (S0 : Std (cxK X 0 0) E prog_1_method_1_code R5 3 3) (hRm : cxR X = rmN 3 90 2287) (hKx : Kx (cxS X)) (hz : (cxS X).heap.size = eb E + (0 + 1)) (hlen : sh.length = n) (hn : N + 1 = n) (h0 : sh[0]? = some (.inl (5, sl))) (hs : sl[7]? = some (some (some 5))) (h1 : sh[5]? = some (.inr (.inr (5, l)))) (hl : l.length = 5) (hx : ix x = i) (hge : ¬ ((5 : Int32) ≤ x)) (hib : inb x 5 = true) (hx2 : x + Int32.ofInt 1 = x2) (hb : N + 1 + 2 = N1 ∧ N1 ≤ 90) (hb2 : O + 5 + 27 = O1 ∧ O1 ≤ 2287) (hsh : ((sh ++ ([.inl (2, [none, none, none, none, some (some (n + 1))]), .inl (1, [none, none, some (some (n + 1 + 1))]), .inr (.inl (0, 24))] : List Sh)).set 5 (.inr (.inr (5, l.set i (some (n + 0)))))) = sh2) (hm : f_L_init n (va_up mem (n + 0) (fun _ => 0)) = m2) (kk : J (cxK X N1 O1) E 3 173 [(2, .int x2), (1, .ref (eb E + 37)), (0, .ref (eb E + (0 + 0)))] [] sh2 m2) : J (cxK X N O) E 3 173 [(2, .int x), (1, .ref (eb E + 37)), (0, .ref (eb E + (0 + 0)))] [] sh mem := by
  have hrc : (cxR X).cells = 90 := by rw [hRm]; rfl
  have hro : (cxR X).slots = 2287 := by rw [hRm]; rfl
  have S : Std (cxK X N O) E prog_1_method_1_code R5 3 3 := stdK0 S0 (by omega) (by omega)
  refine j_iload_n S D_S_init_173 0 rfl rfl ?_
  refine j_aload_n S D_S_init_174 2 rfl rfl ?_
  refine j_getR S D_S_init_175 fl_R5_34 h0 hs ?_
  refine j_alenQ S D_S_init_178 h1 rfl (v := 5) (by rw [hl]; decide +kernel) ?_
  refine j_icmp_ge S D_S_init_179 (fun c_ => absurd c_ hge) (fun _ => ?_)
  refine j_aload_n S D_S_init_182 2 rfl rfl ?_
  refine j_getR S D_S_init_183 fl_R5_34 h0 hs ?_
  refine j_iload_n S D_S_init_186 0 rfl rfl ?_
  refine j_shp (List.append_nil sh).symm ?_
  refine k_newO (j := 0) (C := R2) (T := T2) (M := 5) (ci := 2) (n0 := n) S ⟨by omega, by omega⟩ hlen rfl D_S_init_187 cko_R5_32 rfl ty2 tok2 dfl2 ⟨rfl, rfl, by omega, by omega⟩ (L2 := [.inl (2, [none, none, none, none, some none])]) rfl ?_
  have S : Std (cxK X (N + 1) (O + 5)) E prog_1_method_1_code R5 3 3 := stdK0 S0 (by omega) (by omega)
  refine j_dup S D_S_init_190 rfl ?_
  have hM1 := c_L_init (cxL X) E sh n hlen (mem := va_up mem (n + 0) (fun _ => 0))
  have hl1 : (sh ++ ([.inl (2, [none, none, none, none, some none])] : List Sh)).length = n + 1 := by rw [List.length_append, hlen]; rfl
  refine k_callN (n := 0) (As := []) S hKx ⟨by rw [hl1]; omega, by rw [hl1]; omega⟩ D_S_init_191 ⟨Or.inr ⟨_, hKx.2.2.2.2.1⟩, im_L_init⟩ cd_L_init (by decide +kernel) hM1 (by decide) rfl rfl (Nat.le_of_ble_eq_true rfl) ⟨hb.1, hb2.1, by omega, by omega⟩ ?_
  have S : Std (cxK X N1 O1) E prog_1_method_1_code R5 3 3 := stdK0 S0 (by omega) (by omega)
  have hk1 : (sh ++ ([.inl (2, [none, none, none, none, some (some (n + 1))]), .inl (1, [none, none, some (some (n + 1 + 1))]), .inr (.inl (0, 24))] : List Sh))[5]? = some (.inr (.inr (5, l))) := by
    rw [List.getElem?_append_left (List.getElem?_eq_some_iff.mp h1).1]; exact h1
  refine k_aastN (q := (R2, T2, 5)) hx S D_S_init_194 hk1 rfl (pfx hlen rfl) (ci := 2) rfl (by rw [hl]; exact hib) ?_
  refine j_iinc S D_S_init_195 0 rfl (v := x2) hx2 (lv := [(2, .int x2), (1, .ref (eb E + 37)), (0, .ref (eb E + (0 + 0)))]) rfl (Nat.le_of_ble_eq_true rfl) ?_
  refine j_goto S D_S_init_198 ?_
  exact j_shp hsh (j_mem hm.symm kk)
set_option maxHeartbeats 1000000 in
theorem sP_now {X : Cx} {E : En} {mem m2 : Mm} {sh sh2 : List Sh} {sl : List Sl}{s0 : Sl} {n N O N1 O1 : Nat} (S0 : Std (cxK X 0 0) E prog_1_method_1_code R5 3 3) (hRm : cxR X = rmN 3 90 2287) (hKx : Kx (cxS X)) (hz : (cxS X).heap.size = eb E + (0 + 1)) (hlen : sh.length = n) (hn : N + 1 = n) (h0 : sh[0]? = some (.inl (5, sl))) (hin : (cxT X).name = "<init>") (hs : sl[0]? = some (some (some 1))) (hf : sl[2]? = some s0) (hb : N + 1 + 9 = N1 ∧ N1 ≤ 90) (hb2 : O + 19 + 60 = O1 ∧ O1 ≤ 2287) (hsh : ((sh ++ ([.inl (0, [some (some (1)), some (some (37)), none, some (some (n + 1)), none, some (some (n + 2)), some (some (n + 3)), some (some (n + 4)), some (some (n + 5)), some (some (n + 6)), some (some (n + 7)), some (some (n + 8)), some (some (n + 9)), none, none, none, none, none, none]), .inr (.inl (0, 3)), .inr (.inl (0, 10)), .inr (.inl (0, 10)), .inr (.inl (0, 10)), .inr (.inl (0, 6)), .inr (.inl (0, 6)), .inr (.inl (0, 6)), .inr (.inl (0, 6)), .inr (.inl (0, 3))] : List Sh)).set (0 + 0) (.inl (5, sl.set 2 (some (some (n + 0)))))) = sh2) (hm : f_P_init n 1 37 (va_up mem (n + 0) (fun _ => 0)) = m2) (kk : J (cxK X N1 O1) E 3 109 [(1, .ref (eb E + 37)), (0, .ref (eb E + (0 + 0)))] [] sh2 m2) : J (cxK X N O) E 3 93 [(1, .ref (eb E + 37)), (0, .ref (eb E + (0 + 0)))] [] sh mem := by
  have hrc : (cxR X).cells = 90 := by rw [hRm]; rfl
  have hro : (cxR X).slots = 2287 := by rw [hRm]; rfl
  have S : Std (cxK X N O) E prog_1_method_1_code R5 3 3 := stdK0 S0 (by omega) (by omega)
  refine j_aload_n S D_S_init_93 1 rfl rfl ?_
  refine j_shp (List.append_nil sh).symm ?_
  refine k_newO (j := 0) (C := R0) (T := T0) (M := 19) (ci := 0) (n0 := n) S ⟨by omega, by omega⟩ hlen rfl D_S_init_94 cko_R5_47 rfl ty0 tok0 dfl0 ⟨rfl, rfl, by omega, by omega⟩ (L2 := [.inl (0, [some none, some none, none, some none, none, some none, some none, some none, some none, some none, some none, some none, some none, none, none, none, none, none, none])]) rfl ?_
  have S : Std (cxK X (N + 1) (O + 19)) E prog_1_method_1_code R5 3 3 := stdK0 S0 (by omega) (by omega)
  refine j_dup S D_S_init_97 rfl ?_
  refine j_aload_n S D_S_init_98 1 rfl rfl ?_
  have hk0 : (sh ++ ([.inl (0, [some none, some none, none, some none, none, some none, some none, some none, some none, some none, some none, some none, some none, none, none, none, none, none, none])] : List Sh))[0]? = some (.inl (5, sl)) := by
    rw [List.getElem?_append_left (List.getElem?_eq_some_iff.mp h0).1]; exact h0
  refine j_getR S D_S_init_99 fl_R5_11 hk0 hs ?_
  refine j_aload_n S D_S_init_102 0 rfl rfl ?_
  have hM1 := c_P_init (cxL X) E sh n hlen 1 37 (mem := va_up mem (n + 0) (fun _ => 0))
  have hl1 : (sh ++ ([.inl (0, [some none, some none, none, some none, none, some none, some none, some none, some none, some none, some none, some none, some none, none, none, none, none, none, none])] : List Sh)).length = n + 1 := by rw [List.length_append, hlen]; rfl
  refine k_callN (n := 2) (As := [.ref (eb E + 1), .ref (eb E + 37)]) S hKx ⟨by rw [hl1]; omega, by rw [hl1]; omega⟩ D_S_init_103 ⟨Or.inl ml_R5_49, im_P_init⟩ cd_P_init (by decide +kernel) hM1 (by decide) rfl rfl (Nat.le_of_ble_eq_true rfl) ⟨hb.1, hb2.1, by omega, by omega⟩ ?_
  have S : Std (cxK X N1 O1) E prog_1_method_1_code R5 3 3 := stdK0 S0 (by omega) (by omega)
  have hk1 : (sh ++ ([.inl (0, [some (some (1)), some (some (37)), none, some (some (n + 1)), none, some (some (n + 2)), some (some (n + 3)), some (some (n + 4)), some (some (n + 5)), some (some (n + 6)), some (some (n + 7)), some (some (n + 8)), some (some (n + 9)), none, none, none, none, none, none]), .inr (.inl (0, 3)), .inr (.inl (0, 10)), .inr (.inl (0, 10)), .inr (.inl (0, 10)), .inr (.inl (0, 6)), .inr (.inl (0, 6)), .inr (.inl (0, 6)), .inr (.inl (0, 6)), .inr (.inl (0, 3))] : List Sh))[0 + 0]? = some (.inl (5, sl)) := by
    rw [List.getElem?_append_left (List.getElem?_eq_some_iff.mp h0).1]; exact h0
  refine k_putR S hin D_S_init_106 pr_R5_52 (fun _ => ⟨rfl, rfl⟩) hk1 hf ?_
  exact j_shp hsh (j_mem hm.symm kk)
set_option maxHeartbeats 1000000 in
theorem sP_img {X : Cx} {E : En} {mem m2 : Mm} {sh sh2 : List Sh} {sl : List Sl}{s0 : Sl} {n N O N1 O1 : Nat} (S0 : Std (cxK X 0 0) E prog_1_method_1_code R5 3 3) (hRm : cxR X = rmN 3 90 2287) (hKx : Kx (cxS X)) (hz : (cxS X).heap.size = eb E + (0 + 1)) (hlen : sh.length = n) (hn : N + 1 = n) (h0 : sh[0]? = some (.inl (5, sl))) (hin : (cxT X).name = "<init>") (hs : sl[0]? = some (some (some 1))) (hf : sl[3]? = some s0) (hb : N + 1 + 9 = N1 ∧ N1 ≤ 90) (hb2 : O + 19 + 60 = O1 ∧ O1 ≤ 2287) (hsh : ((sh ++ ([.inl (0, [some (some (1)), some (some (37)), none, some (some (n + 1)), none, some (some (n + 2)), some (some (n + 3)), some (some (n + 4)), some (some (n + 5)), some (some (n + 6)), some (some (n + 7)), some (some (n + 8)), some (some (n + 9)), none, none, none, none, none, none]), .inr (.inl (0, 3)), .inr (.inl (0, 10)), .inr (.inl (0, 10)), .inr (.inl (0, 10)), .inr (.inl (0, 6)), .inr (.inl (0, 6)), .inr (.inl (0, 6)), .inr (.inl (0, 6)), .inr (.inl (0, 3))] : List Sh)).set (0 + 0) (.inl (5, sl.set 3 (some (some (n + 0)))))) = sh2) (hm : f_P_init n 1 37 (va_up mem (n + 0) (fun _ => 0)) = m2) (kk : J (cxK X N1 O1) E 3 125 [(1, .ref (eb E + 37)), (0, .ref (eb E + (0 + 0)))] [] sh2 m2) : J (cxK X N O) E 3 109 [(1, .ref (eb E + 37)), (0, .ref (eb E + (0 + 0)))] [] sh mem := by
  have hrc : (cxR X).cells = 90 := by rw [hRm]; rfl
  have hro : (cxR X).slots = 2287 := by rw [hRm]; rfl
  have S : Std (cxK X N O) E prog_1_method_1_code R5 3 3 := stdK0 S0 (by omega) (by omega)
  refine j_aload_n S D_S_init_109 1 rfl rfl ?_
  refine j_shp (List.append_nil sh).symm ?_
  refine k_newO (j := 0) (C := R0) (T := T0) (M := 19) (ci := 0) (n0 := n) S ⟨by omega, by omega⟩ hlen rfl D_S_init_110 cko_R5_47 rfl ty0 tok0 dfl0 ⟨rfl, rfl, by omega, by omega⟩ (L2 := [.inl (0, [some none, some none, none, some none, none, some none, some none, some none, some none, some none, some none, some none, some none, none, none, none, none, none, none])]) rfl ?_
  have S : Std (cxK X (N + 1) (O + 19)) E prog_1_method_1_code R5 3 3 := stdK0 S0 (by omega) (by omega)
  refine j_dup S D_S_init_113 rfl ?_
  refine j_aload_n S D_S_init_114 1 rfl rfl ?_
  have hk0 : (sh ++ ([.inl (0, [some none, some none, none, some none, none, some none, some none, some none, some none, some none, some none, some none, some none, none, none, none, none, none, none])] : List Sh))[0]? = some (.inl (5, sl)) := by
    rw [List.getElem?_append_left (List.getElem?_eq_some_iff.mp h0).1]; exact h0
  refine j_getR S D_S_init_115 fl_R5_11 hk0 hs ?_
  refine j_aload_n S D_S_init_118 0 rfl rfl ?_
  have hM1 := c_P_init (cxL X) E sh n hlen 1 37 (mem := va_up mem (n + 0) (fun _ => 0))
  have hl1 : (sh ++ ([.inl (0, [some none, some none, none, some none, none, some none, some none, some none, some none, some none, some none, some none, some none, none, none, none, none, none, none])] : List Sh)).length = n + 1 := by rw [List.length_append, hlen]; rfl
  refine k_callN (n := 2) (As := [.ref (eb E + 1), .ref (eb E + 37)]) S hKx ⟨by rw [hl1]; omega, by rw [hl1]; omega⟩ D_S_init_119 ⟨Or.inl ml_R5_49, im_P_init⟩ cd_P_init (by decide +kernel) hM1 (by decide) rfl rfl (Nat.le_of_ble_eq_true rfl) ⟨hb.1, hb2.1, by omega, by omega⟩ ?_
  have S : Std (cxK X N1 O1) E prog_1_method_1_code R5 3 3 := stdK0 S0 (by omega) (by omega)
  have hk1 : (sh ++ ([.inl (0, [some (some (1)), some (some (37)), none, some (some (n + 1)), none, some (some (n + 2)), some (some (n + 3)), some (some (n + 4)), some (some (n + 5)), some (some (n + 6)), some (some (n + 7)), some (some (n + 8)), some (some (n + 9)), none, none, none, none, none, none]), .inr (.inl (0, 3)), .inr (.inl (0, 10)), .inr (.inl (0, 10)), .inr (.inl (0, 10)), .inr (.inl (0, 6)), .inr (.inl (0, 6)), .inr (.inl (0, 6)), .inr (.inl (0, 6)), .inr (.inl (0, 3))] : List Sh))[0 + 0]? = some (.inl (5, sl)) := by
    rw [List.getElem?_append_left (List.getElem?_eq_some_iff.mp h0).1]; exact h0
  refine k_putR S hin D_S_init_122 pr_R5_56 (fun _ => ⟨rfl, rfl⟩) hk1 hf ?_
  exact j_shp hsh (j_mem hm.symm kk)
set_option maxHeartbeats 1000000 in
theorem sP_tho {X : Cx} {E : En} {mem m2 : Mm} {sh sh2 : List Sh} {sl : List Sl}{s0 : Sl} {n N O N1 O1 : Nat} (S0 : Std (cxK X 0 0) E prog_1_method_1_code R5 3 3) (hRm : cxR X = rmN 3 90 2287) (hKx : Kx (cxS X)) (hz : (cxS X).heap.size = eb E + (0 + 1)) (hlen : sh.length = n) (hn : N + 1 = n) (h0 : sh[0]? = some (.inl (5, sl))) (hin : (cxT X).name = "<init>") (hs : sl[0]? = some (some (some 1))) (hf : sl[4]? = some s0) (hb : N + 1 + 9 = N1 ∧ N1 ≤ 90) (hb2 : O + 19 + 60 = O1 ∧ O1 ≤ 2287) (hsh : ((sh ++ ([.inl (0, [some (some (1)), some (some (37)), none, some (some (n + 1)), none, some (some (n + 2)), some (some (n + 3)), some (some (n + 4)), some (some (n + 5)), some (some (n + 6)), some (some (n + 7)), some (some (n + 8)), some (some (n + 9)), none, none, none, none, none, none]), .inr (.inl (0, 3)), .inr (.inl (0, 10)), .inr (.inl (0, 10)), .inr (.inl (0, 10)), .inr (.inl (0, 6)), .inr (.inl (0, 6)), .inr (.inl (0, 6)), .inr (.inl (0, 6)), .inr (.inl (0, 3))] : List Sh)).set (0 + 0) (.inl (5, sl.set 4 (some (some (n + 0)))))) = sh2) (hm : f_P_init n 1 37 (va_up mem (n + 0) (fun _ => 0)) = m2) (kk : J (cxK X N1 O1) E 3 141 [(1, .ref (eb E + 37)), (0, .ref (eb E + (0 + 0)))] [] sh2 m2) : J (cxK X N O) E 3 125 [(1, .ref (eb E + 37)), (0, .ref (eb E + (0 + 0)))] [] sh mem := by
  have hrc : (cxR X).cells = 90 := by rw [hRm]; rfl
  have hro : (cxR X).slots = 2287 := by rw [hRm]; rfl
  have S : Std (cxK X N O) E prog_1_method_1_code R5 3 3 := stdK0 S0 (by omega) (by omega)
  refine j_aload_n S D_S_init_125 1 rfl rfl ?_
  refine j_shp (List.append_nil sh).symm ?_
  refine k_newO (j := 0) (C := R0) (T := T0) (M := 19) (ci := 0) (n0 := n) S ⟨by omega, by omega⟩ hlen rfl D_S_init_126 cko_R5_47 rfl ty0 tok0 dfl0 ⟨rfl, rfl, by omega, by omega⟩ (L2 := [.inl (0, [some none, some none, none, some none, none, some none, some none, some none, some none, some none, some none, some none, some none, none, none, none, none, none, none])]) rfl ?_
  have S : Std (cxK X (N + 1) (O + 19)) E prog_1_method_1_code R5 3 3 := stdK0 S0 (by omega) (by omega)
  refine j_dup S D_S_init_129 rfl ?_
  refine j_aload_n S D_S_init_130 1 rfl rfl ?_
  have hk0 : (sh ++ ([.inl (0, [some none, some none, none, some none, none, some none, some none, some none, some none, some none, some none, some none, some none, none, none, none, none, none, none])] : List Sh))[0]? = some (.inl (5, sl)) := by
    rw [List.getElem?_append_left (List.getElem?_eq_some_iff.mp h0).1]; exact h0
  refine j_getR S D_S_init_131 fl_R5_11 hk0 hs ?_
  refine j_aload_n S D_S_init_134 0 rfl rfl ?_
  have hM1 := c_P_init (cxL X) E sh n hlen 1 37 (mem := va_up mem (n + 0) (fun _ => 0))
  have hl1 : (sh ++ ([.inl (0, [some none, some none, none, some none, none, some none, some none, some none, some none, some none, some none, some none, some none, none, none, none, none, none, none])] : List Sh)).length = n + 1 := by rw [List.length_append, hlen]; rfl
  refine k_callN (n := 2) (As := [.ref (eb E + 1), .ref (eb E + 37)]) S hKx ⟨by rw [hl1]; omega, by rw [hl1]; omega⟩ D_S_init_135 ⟨Or.inl ml_R5_49, im_P_init⟩ cd_P_init (by decide +kernel) hM1 (by decide) rfl rfl (Nat.le_of_ble_eq_true rfl) ⟨hb.1, hb2.1, by omega, by omega⟩ ?_
  have S : Std (cxK X N1 O1) E prog_1_method_1_code R5 3 3 := stdK0 S0 (by omega) (by omega)
  have hk1 : (sh ++ ([.inl (0, [some (some (1)), some (some (37)), none, some (some (n + 1)), none, some (some (n + 2)), some (some (n + 3)), some (some (n + 4)), some (some (n + 5)), some (some (n + 6)), some (some (n + 7)), some (some (n + 8)), some (some (n + 9)), none, none, none, none, none, none]), .inr (.inl (0, 3)), .inr (.inl (0, 10)), .inr (.inl (0, 10)), .inr (.inl (0, 10)), .inr (.inl (0, 6)), .inr (.inl (0, 6)), .inr (.inl (0, 6)), .inr (.inl (0, 6)), .inr (.inl (0, 3))] : List Sh))[0 + 0]? = some (.inl (5, sl)) := by
    rw [List.getElem?_append_left (List.getElem?_eq_some_iff.mp h0).1]; exact h0
  refine k_putR S hin D_S_init_138 pr_R5_59 (fun _ => ⟨rfl, rfl⟩) hk1 hf ?_
  exact j_shp hsh (j_mem hm.symm kk)
def wT0 : List Sh := [.inl (5, [some (some (0 + 1)), some (some (0 + 2)), some none, some none, some none, none, some (some (0 + 4)), some (some (0 + 5)), some (some (0 + 6)), none]), .inr (.inr (3, [none, none, none, none, none, none, none, none, none, none, none, none, none, none, none])), .inl (3, [none, some (some (0 + 2 + 1)), none, none, none, none]), .inr (.inl (0, 96)), .inr (.inr (4, [none, none, none, none])), .inr (.inr (5, [none, none, none, none, none])), .inr (.inl (0, 60))]
def lT : Nat → List (Option Nat)
  | 0 => [none, none, none, none, none, none, none, none, none, none, none, none, none, none, none]
  | k + 1 => (lT k).set k (some (7 + 2 * k + 0))
def wT : Nat → List Sh
  | 0 => wT0
  | k + 1 => (wT k ++ ([.inl (4, [none, none, none, some (some (7 + 2 * k + 1))]), .inr (.inl (0, 96))] : List Sh)).set 1 (.inr (.inr (3, lT (k + 1))))
def mT (mem : Mm) : Nat → Mm
  | 0 => g_S_init_0 mem
  | k + 1 => f_X_init (7 + 2 * k) (va_up (mT mem k) (7 + 2 * k + 0) (fun _ => 0))
def slT : List Sl := [some (some (0 + 1)), some (some (0 + 2)), some none, some none, some none, none, some (some (0 + 4)), some (some (0 + 5)), some (some (0 + 6)), none]
def wB : List Sh := wT 15 ++ [.inr (.inl (0, 96))]
def pO (n : Nat) : List Sh := [.inl (0, [some (some (1)), some (some (37)), none, some (some (n + 1)), none, some (some (n + 2)), some (some (n + 3)), some (some (n + 4)), some (some (n + 5)), some (some (n + 6)), some (some (n + 7)), some (some (n + 8)), some (some (n + 9)), none, none, none, none, none, none]), .inr (.inl (0, 3)), .inr (.inl (0, 10)), .inr (.inl (0, 10)), .inr (.inl (0, 10)), .inr (.inl (0, 6)), .inr (.inl (0, 6)), .inr (.inl (0, 6)), .inr (.inl (0, 6)), .inr (.inl (0, 3))]
def slB1 : List Sl := slT.set 2 (some (some (38 + 0)))
def slB2 : List Sl := slB1.set 3 (some (some (48 + 0)))
def slB3 : List Sl := slB2.set 4 (some (some (58 + 0)))
def wP1 : List Sh := (wB ++ pO 38).set (0 + 0) (.inl (5, slB1))
def wP2 : List Sh := (wP1 ++ pO 48).set (0 + 0) (.inl (5, slB2))
def wP3 : List Sh := (wP2 ++ pO 58).set (0 + 0) (.inl (5, slB3))
def mB (mem : Mm) : Mm := va_up (mT mem 15) 37 (fun _ => 0)
def mP1 (mem : Mm) : Mm := f_P_init 38 1 37 (va_up (mB mem) (38 + 0) (fun _ => 0))
def mP2 (mem : Mm) : Mm := f_P_init 48 1 37 (va_up (mP1 mem) (48 + 0) (fun _ => 0))
def mP3 (mem : Mm) : Mm := f_P_init 58 1 37 (va_up (mP2 mem) (58 + 0) (fun _ => 0))
def lH : Nat → List (Option Nat)
  | 0 => [none, none, none, none]
  | k + 1 => (lH k).set k (some (68 + 2 * k + 0))
def wH : Nat → List Sh
  | 0 => wP3
  | k + 1 => (wH k ++ ([.inl (1, [none, none, some (some (68 + 2 * k + 1))]), .inr (.inl (0, 24))] : List Sh)).set 4 (.inr (.inr (4, lH (k + 1))))
def mH (mem : Mm) : Nat → Mm
  | 0 => mP3 mem
  | k + 1 => f_H_init (68 + 2 * k) (va_up (mH mem k) (68 + 2 * k + 0) (fun _ => 0))
def lL : Nat → List (Option Nat)
  | 0 => [none, none, none, none, none]
  | k + 1 => (lL k).set k (some (76 + 3 * k + 0))
def wL : Nat → List Sh
  | 0 => wH 4
  | k + 1 => (wL k ++ ([.inl (2, [none, none, none, none, some (some (76 + 3 * k + 1))]), .inl (1, [none, none, some (some (76 + 3 * k + 1 + 1))]), .inr (.inl (0, 24))] : List Sh)).set 5 (.inr (.inr (5, lL (k + 1))))
def mL (mem : Mm) : Nat → Mm
  | 0 => mH mem 4
  | k + 1 => f_L_init (76 + 3 * k) (va_up (mL mem k) (76 + 3 * k + 0) (fun _ => 0))
def f_S_init (mem : Mm) : Mm := mL mem 5
theorem wL_SH : wL 5 = SH.take 91 := by rfl
set_option maxHeartbeats 1000000 in
theorem sT_loop {X : Cx} {E : En} {mem : Mm} (S0 : Std (cxK X 0 0) E prog_1_method_1_code R5 3 3) (hRm : cxR X = rmN 3 90 2287) (hin : (cxT X).name = "<init>") (hz : (cxS X).heap.size = eb E + (0 + 1)) (hKx : Kx (cxS X)) (kk : J (cxK X 36 1686) E 3 60 [(1, .int 15), (0, .ref (eb E + (0 + 0)))] [] (wT 15) (mT mem 15)) : J (cxK X 6 186) E 3 60 [(1, .int 0), (0, .ref (eb E + (0 + 0)))] [] (wT 0) (mT mem 0) := by
  refine sT_turn (sh := wT 0) (sl := slT) (l := lT 0) (n := 7) (i := 0) (x := 0) (x2 := 1) (sh2 := wT 1) (m2 := mT mem 1) (N1 := 8) (O1 := 286) S0 hRm hKx hz rfl rfl rfl rfl rfl rfl ixc_0 (by decide +kernel) (by decide +kernel) (by decide +kernel) ⟨rfl, (Nat.le_of_ble_eq_true rfl)⟩ ⟨rfl, (Nat.le_of_ble_eq_true rfl)⟩ rfl rfl ?_
  refine sT_turn (sh := wT 1) (sl := slT) (l := lT 1) (n := 9) (i := 1) (x := 1) (x2 := 2) (sh2 := wT 2) (m2 := mT mem 2) (N1 := 10) (O1 := 386) S0 hRm hKx hz rfl rfl rfl rfl rfl rfl ixc_1 (by decide +kernel) (by decide +kernel) (by decide +kernel) ⟨rfl, (Nat.le_of_ble_eq_true rfl)⟩ ⟨rfl, (Nat.le_of_ble_eq_true rfl)⟩ rfl rfl ?_
  refine sT_turn (sh := wT 2) (sl := slT) (l := lT 2) (n := 11) (i := 2) (x := 2) (x2 := 3) (sh2 := wT 3) (m2 := mT mem 3) (N1 := 12) (O1 := 486) S0 hRm hKx hz rfl rfl rfl rfl rfl rfl ixc_2 (by decide +kernel) (by decide +kernel) (by decide +kernel) ⟨rfl, (Nat.le_of_ble_eq_true rfl)⟩ ⟨rfl, (Nat.le_of_ble_eq_true rfl)⟩ rfl rfl ?_
  refine sT_turn (sh := wT 3) (sl := slT) (l := lT 3) (n := 13) (i := 3) (x := 3) (x2 := 4) (sh2 := wT 4) (m2 := mT mem 4) (N1 := 14) (O1 := 586) S0 hRm hKx hz rfl rfl rfl rfl rfl rfl ixc_3 (by decide +kernel) (by decide +kernel) (by decide +kernel) ⟨rfl, (Nat.le_of_ble_eq_true rfl)⟩ ⟨rfl, (Nat.le_of_ble_eq_true rfl)⟩ rfl rfl ?_
  refine sT_turn (sh := wT 4) (sl := slT) (l := lT 4) (n := 15) (i := 4) (x := 4) (x2 := 5) (sh2 := wT 5) (m2 := mT mem 5) (N1 := 16) (O1 := 686) S0 hRm hKx hz rfl rfl rfl rfl rfl rfl ixc_4 (by decide +kernel) (by decide +kernel) (by decide +kernel) ⟨rfl, (Nat.le_of_ble_eq_true rfl)⟩ ⟨rfl, (Nat.le_of_ble_eq_true rfl)⟩ rfl rfl ?_
  refine sT_turn (sh := wT 5) (sl := slT) (l := lT 5) (n := 17) (i := 5) (x := 5) (x2 := 6) (sh2 := wT 6) (m2 := mT mem 6) (N1 := 18) (O1 := 786) S0 hRm hKx hz rfl rfl rfl rfl rfl rfl ixc_5 (by decide +kernel) (by decide +kernel) (by decide +kernel) ⟨rfl, (Nat.le_of_ble_eq_true rfl)⟩ ⟨rfl, (Nat.le_of_ble_eq_true rfl)⟩ rfl rfl ?_
  refine sT_turn (sh := wT 6) (sl := slT) (l := lT 6) (n := 19) (i := 6) (x := 6) (x2 := 7) (sh2 := wT 7) (m2 := mT mem 7) (N1 := 20) (O1 := 886) S0 hRm hKx hz rfl rfl rfl rfl rfl rfl ixc_6 (by decide +kernel) (by decide +kernel) (by decide +kernel) ⟨rfl, (Nat.le_of_ble_eq_true rfl)⟩ ⟨rfl, (Nat.le_of_ble_eq_true rfl)⟩ rfl rfl ?_
  refine sT_turn (sh := wT 7) (sl := slT) (l := lT 7) (n := 21) (i := 7) (x := 7) (x2 := 8) (sh2 := wT 8) (m2 := mT mem 8) (N1 := 22) (O1 := 986) S0 hRm hKx hz rfl rfl rfl rfl rfl rfl ixc_7 (by decide +kernel) (by decide +kernel) (by decide +kernel) ⟨rfl, (Nat.le_of_ble_eq_true rfl)⟩ ⟨rfl, (Nat.le_of_ble_eq_true rfl)⟩ rfl rfl ?_
  refine sT_turn (sh := wT 8) (sl := slT) (l := lT 8) (n := 23) (i := 8) (x := 8) (x2 := 9) (sh2 := wT 9) (m2 := mT mem 9) (N1 := 24) (O1 := 1086) S0 hRm hKx hz rfl rfl rfl rfl rfl rfl ixc_8 (by decide +kernel) (by decide +kernel) (by decide +kernel) ⟨rfl, (Nat.le_of_ble_eq_true rfl)⟩ ⟨rfl, (Nat.le_of_ble_eq_true rfl)⟩ rfl rfl ?_
  refine sT_turn (sh := wT 9) (sl := slT) (l := lT 9) (n := 25) (i := 9) (x := 9) (x2 := 10) (sh2 := wT 10) (m2 := mT mem 10) (N1 := 26) (O1 := 1186) S0 hRm hKx hz rfl rfl rfl rfl rfl rfl ixc_9 (by decide +kernel) (by decide +kernel) (by decide +kernel) ⟨rfl, (Nat.le_of_ble_eq_true rfl)⟩ ⟨rfl, (Nat.le_of_ble_eq_true rfl)⟩ rfl rfl ?_
  refine sT_turn (sh := wT 10) (sl := slT) (l := lT 10) (n := 27) (i := 10) (x := 10) (x2 := 11) (sh2 := wT 11) (m2 := mT mem 11) (N1 := 28) (O1 := 1286) S0 hRm hKx hz rfl rfl rfl rfl rfl rfl ixc_10 (by decide +kernel) (by decide +kernel) (by decide +kernel) ⟨rfl, (Nat.le_of_ble_eq_true rfl)⟩ ⟨rfl, (Nat.le_of_ble_eq_true rfl)⟩ rfl rfl ?_
  refine sT_turn (sh := wT 11) (sl := slT) (l := lT 11) (n := 29) (i := 11) (x := 11) (x2 := 12) (sh2 := wT 12) (m2 := mT mem 12) (N1 := 30) (O1 := 1386) S0 hRm hKx hz rfl rfl rfl rfl rfl rfl ixc_11 (by decide +kernel) (by decide +kernel) (by decide +kernel) ⟨rfl, (Nat.le_of_ble_eq_true rfl)⟩ ⟨rfl, (Nat.le_of_ble_eq_true rfl)⟩ rfl rfl ?_
  refine sT_turn (sh := wT 12) (sl := slT) (l := lT 12) (n := 31) (i := 12) (x := 12) (x2 := 13) (sh2 := wT 13) (m2 := mT mem 13) (N1 := 32) (O1 := 1486) S0 hRm hKx hz rfl rfl rfl rfl rfl rfl ixc_12 (by decide +kernel) (by decide +kernel) (by decide +kernel) ⟨rfl, (Nat.le_of_ble_eq_true rfl)⟩ ⟨rfl, (Nat.le_of_ble_eq_true rfl)⟩ rfl rfl ?_
  refine sT_turn (sh := wT 13) (sl := slT) (l := lT 13) (n := 33) (i := 13) (x := 13) (x2 := 14) (sh2 := wT 14) (m2 := mT mem 14) (N1 := 34) (O1 := 1586) S0 hRm hKx hz rfl rfl rfl rfl rfl rfl ixc_13 (by decide +kernel) (by decide +kernel) (by decide +kernel) ⟨rfl, (Nat.le_of_ble_eq_true rfl)⟩ ⟨rfl, (Nat.le_of_ble_eq_true rfl)⟩ rfl rfl ?_
  refine sT_turn (sh := wT 14) (sl := slT) (l := lT 14) (n := 35) (i := 14) (x := 14) (x2 := 15) (sh2 := wT 15) (m2 := mT mem 15) (N1 := 36) (O1 := 1686) S0 hRm hKx hz rfl rfl rfl rfl rfl rfl ixc_14 (by decide +kernel) (by decide +kernel) (by decide +kernel) ⟨rfl, (Nat.le_of_ble_eq_true rfl)⟩ ⟨rfl, (Nat.le_of_ble_eq_true rfl)⟩ rfl rfl ?_
  exact kk
set_option maxHeartbeats 1000000 in
theorem sH_loop {X : Cx} {E : En} {mem : Mm} (S0 : Std (cxK X 0 0) E prog_1_method_1_code R5 3 3) (hRm : cxR X = rmN 3 90 2287) (hin : (cxT X).name = "<init>") (hz : (cxS X).heap.size = eb E + (0 + 1)) (hKx : Kx (cxS X)) (kk : J (cxK X 75 2127) E 3 143 [(2, .int 4), (1, .ref (eb E + 37)), (0, .ref (eb E + (0 + 0)))] [] (wH 4) (mH mem 4)) : J (cxK X 67 2019) E 3 143 [(2, .int 0), (1, .ref (eb E + 37)), (0, .ref (eb E + (0 + 0)))] [] (wH 0) (mH mem 0) := by
  refine sH_turn (sh := wH 0) (sl := slB3) (l := lH 0) (n := 68) (i := 0) (x := 0) (x2 := 1) (sh2 := wH 1) (m2 := mH mem 1) (N1 := 69) (O1 := 2046) S0 hRm hKx hz rfl rfl rfl rfl rfl rfl ixc_0 (by decide +kernel) (by decide +kernel) (by decide +kernel) ⟨rfl, (Nat.le_of_ble_eq_true rfl)⟩ ⟨rfl, (Nat.le_of_ble_eq_true rfl)⟩ rfl rfl ?_
  refine sH_turn (sh := wH 1) (sl := slB3) (l := lH 1) (n := 70) (i := 1) (x := 1) (x2 := 2) (sh2 := wH 2) (m2 := mH mem 2) (N1 := 71) (O1 := 2073) S0 hRm hKx hz rfl rfl rfl rfl rfl rfl ixc_1 (by decide +kernel) (by decide +kernel) (by decide +kernel) ⟨rfl, (Nat.le_of_ble_eq_true rfl)⟩ ⟨rfl, (Nat.le_of_ble_eq_true rfl)⟩ rfl rfl ?_
  refine sH_turn (sh := wH 2) (sl := slB3) (l := lH 2) (n := 72) (i := 2) (x := 2) (x2 := 3) (sh2 := wH 3) (m2 := mH mem 3) (N1 := 73) (O1 := 2100) S0 hRm hKx hz rfl rfl rfl rfl rfl rfl ixc_2 (by decide +kernel) (by decide +kernel) (by decide +kernel) ⟨rfl, (Nat.le_of_ble_eq_true rfl)⟩ ⟨rfl, (Nat.le_of_ble_eq_true rfl)⟩ rfl rfl ?_
  refine sH_turn (sh := wH 3) (sl := slB3) (l := lH 3) (n := 74) (i := 3) (x := 3) (x2 := 4) (sh2 := wH 4) (m2 := mH mem 4) (N1 := 75) (O1 := 2127) S0 hRm hKx hz rfl rfl rfl rfl rfl rfl ixc_3 (by decide +kernel) (by decide +kernel) (by decide +kernel) ⟨rfl, (Nat.le_of_ble_eq_true rfl)⟩ ⟨rfl, (Nat.le_of_ble_eq_true rfl)⟩ rfl rfl ?_
  exact kk
set_option maxHeartbeats 1000000 in
theorem sL_loop {X : Cx} {E : En} {mem : Mm} (S0 : Std (cxK X 0 0) E prog_1_method_1_code R5 3 3) (hRm : cxR X = rmN 3 90 2287) (hin : (cxT X).name = "<init>") (hz : (cxS X).heap.size = eb E + (0 + 1)) (hKx : Kx (cxS X)) (kk : J (cxK X 90 2287) E 3 173 [(2, .int 5), (1, .ref (eb E + 37)), (0, .ref (eb E + (0 + 0)))] [] (wL 5) (mL mem 5)) : J (cxK X 75 2127) E 3 173 [(2, .int 0), (1, .ref (eb E + 37)), (0, .ref (eb E + (0 + 0)))] [] (wL 0) (mL mem 0) := by
  refine sL_turn (sh := wL 0) (sl := slB3) (l := lL 0) (n := 76) (i := 0) (x := 0) (x2 := 1) (sh2 := wL 1) (m2 := mL mem 1) (N1 := 78) (O1 := 2159) S0 hRm hKx hz rfl rfl rfl rfl rfl rfl ixc_0 (by decide +kernel) (by decide +kernel) (by decide +kernel) ⟨rfl, (Nat.le_of_ble_eq_true rfl)⟩ ⟨rfl, (Nat.le_of_ble_eq_true rfl)⟩ rfl rfl ?_
  refine sL_turn (sh := wL 1) (sl := slB3) (l := lL 1) (n := 79) (i := 1) (x := 1) (x2 := 2) (sh2 := wL 2) (m2 := mL mem 2) (N1 := 81) (O1 := 2191) S0 hRm hKx hz rfl rfl rfl rfl rfl rfl ixc_1 (by decide +kernel) (by decide +kernel) (by decide +kernel) ⟨rfl, (Nat.le_of_ble_eq_true rfl)⟩ ⟨rfl, (Nat.le_of_ble_eq_true rfl)⟩ rfl rfl ?_
  refine sL_turn (sh := wL 2) (sl := slB3) (l := lL 2) (n := 82) (i := 2) (x := 2) (x2 := 3) (sh2 := wL 3) (m2 := mL mem 3) (N1 := 84) (O1 := 2223) S0 hRm hKx hz rfl rfl rfl rfl rfl rfl ixc_2 (by decide +kernel) (by decide +kernel) (by decide +kernel) ⟨rfl, (Nat.le_of_ble_eq_true rfl)⟩ ⟨rfl, (Nat.le_of_ble_eq_true rfl)⟩ rfl rfl ?_
  refine sL_turn (sh := wL 3) (sl := slB3) (l := lL 3) (n := 85) (i := 3) (x := 3) (x2 := 4) (sh2 := wL 4) (m2 := mL mem 4) (N1 := 87) (O1 := 2255) S0 hRm hKx hz rfl rfl rfl rfl rfl rfl ixc_3 (by decide +kernel) (by decide +kernel) (by decide +kernel) ⟨rfl, (Nat.le_of_ble_eq_true rfl)⟩ ⟨rfl, (Nat.le_of_ble_eq_true rfl)⟩ rfl rfl ?_
  refine sL_turn (sh := wL 4) (sl := slB3) (l := lL 4) (n := 88) (i := 4) (x := 4) (x2 := 5) (sh2 := wL 5) (m2 := mL mem 5) (N1 := 90) (O1 := 2287) S0 hRm hKx hz rfl rfl rfl rfl rfl rfl ixc_4 (by decide +kernel) (by decide +kernel) (by decide +kernel) ⟨rfl, (Nat.le_of_ble_eq_true rfl)⟩ ⟨rfl, (Nat.le_of_ble_eq_true rfl)⟩ rfl rfl ?_
  exact kk
set_option maxHeartbeats 1000000 in
theorem sB_seg {X : Cx} {E : En} {mem : Mm} (S0 : Std (cxK X 0 0) E prog_1_method_1_code R5 3 3) (hRm : cxR X = rmN 3 90 2287) (hin : (cxT X).name = "<init>") (hz : (cxS X).heap.size = eb E + (0 + 1)) (hKx : Kx (cxS X)) (kk : J (cxK X 67 2019) E 3 141 [(1, .ref (eb E + 37)), (0, .ref (eb E + (0 + 0)))] [] wP3 (mP3 mem)) : J (cxK X 36 1686) E 3 88 [(1, .int 15), (0, .ref (eb E + (0 + 0)))] [] (wT 15) (mT mem 15) := by
  have S : Std (cxK X 36 1686) E prog_1_method_1_code R5 3 3 := stdK0 S0 (rc hRm (Nat.le_of_ble_eq_true rfl)) (ro hRm (Nat.le_of_ble_eq_true rfl))
  refine j_bipush S D_S_init_88 cb_96 ?_
  refine j_shp (List.append_nil (wT 15)).symm ?_
  refine k_newA (j := 0) (n0 := 37) (at0 := .int) (ty := .int) (ti := 0) (M := 96) S ⟨by omega, by omega⟩ rfl rfl D_S_init_90 arc_0 rfl rfl rfl (by decide +kernel) ⟨rfl, rfl, rc hRm (Nat.le_of_ble_eq_true rfl), ro hRm (Nat.le_of_ble_eq_true rfl)⟩ (L2 := [.inr (.inl (0, 96))]) rfl ?_
  have S : Std (cxK X 37 1782) E prog_1_method_1_code R5 3 3 := stdK0 S0 (rc hRm (Nat.le_of_ble_eq_true rfl)) (ro hRm (Nat.le_of_ble_eq_true rfl))
  refine j_astore_n S D_S_init_92 (lv := [(1, .ref (eb E + 37)), (0, .ref (eb E + (0 + 0)))]) rfl ⟨rfl, (Nat.le_of_ble_eq_true rfl)⟩ ?_
  refine sP_now (sh := wB) (sl := slT) (n := 38) (sh2 := wP1) (m2 := mP1 mem) (N1 := 47) (O1 := 1861) S0 hRm hKx hz rfl rfl rfl hin rfl rfl ⟨rfl, (Nat.le_of_ble_eq_true rfl)⟩ ⟨rfl, (Nat.le_of_ble_eq_true rfl)⟩ rfl rfl ?_
  refine sP_img (sh := wP1) (sl := slB1) (n := 48) (sh2 := wP2) (m2 := mP2 mem) (N1 := 57) (O1 := 1940) S0 hRm hKx hz rfl rfl rfl hin rfl rfl ⟨rfl, (Nat.le_of_ble_eq_true rfl)⟩ ⟨rfl, (Nat.le_of_ble_eq_true rfl)⟩ rfl rfl ?_
  refine sP_tho (sh := wP2) (sl := slB2) (n := 58) (sh2 := wP3) (m2 := mP3 mem) (N1 := 67) (O1 := 2019) S0 hRm hKx hz rfl rfl rfl hin rfl rfl ⟨rfl, (Nat.le_of_ble_eq_true rfl)⟩ ⟨rfl, (Nat.le_of_ble_eq_true rfl)⟩ rfl rfl ?_
  exact kk
set_option maxHeartbeats 1000000 in
theorem c_S_init (l : Launch) (E : En) {mem : Mm} : CtN l E 3 90 2287 y_S_init prog_1_method_1_code 3 [.ref (eb E + (0 + 0))] [.inl (5, [some none, some none, some none, some none, some none, none, some none, some none, some none, none])] mem (SH.take 91) (f_S_init mem) := by
  refine mk_CtN ⟨by decide, (Nat.le_of_ble_eq_true rfl), rfl⟩ (fun X S0 hRm hin hz hKx hR => ?_)
  have hz : (cxS X).heap.size = eb E + (0 + 1) := hz
  have S0 : Std (cxK X 0 0) E prog_1_method_1_code R5 3 3 := S0
  refine K_S_init_0 (mem := mem) S0 hRm hin hz hKx ?_
  have S : Std (cxK X 6 186) E prog_1_method_1_code R5 3 3 := stdK0 S0 (rc hRm (Nat.le_of_ble_eq_true rfl)) (ro hRm (Nat.le_of_ble_eq_true rfl))
  refine j_istore_n S D_S_init_59 (lv := [(1, .int 0), (0, .ref (eb E + (0 + 0)))]) rfl ⟨rfl, (Nat.le_of_ble_eq_true rfl)⟩ ?_
  refine sT_loop S0 hRm hin hz hKx ?_
  have S : Std (cxK X 36 1686) E prog_1_method_1_code R5 3 3 := stdK0 S0 (rc hRm (Nat.le_of_ble_eq_true rfl)) (ro hRm (Nat.le_of_ble_eq_true rfl))
  refine j_iload_n S D_S_init_60 0 rfl rfl ?_
  refine j_aload_n S D_S_init_61 1 rfl rfl ?_
  refine j_getR S D_S_init_62 fl_R5_11 (sl := slT) (k := 0) rfl rfl ?_
  refine j_alenQ S D_S_init_65 (l := lT 15) (ti := 3) (k := 1) rfl rfl cn_15 ?_
  refine j_icmp_ge S D_S_init_66 (fun _ => ?_) (fun c_ => absurd c_ (by decide +kernel))
  refine sB_seg S0 hRm hin hz hKx ?_
  have S : Std (cxK X 67 2019) E prog_1_method_1_code R5 3 3 := stdK0 S0 (rc hRm (Nat.le_of_ble_eq_true rfl)) (ro hRm (Nat.le_of_ble_eq_true rfl))
  refine j_iconst S D_S_init_141 ci_0 ?_
  refine j_istore_n S D_S_init_142 (lv := [(2, .int 0), (1, .ref (eb E + 37)), (0, .ref (eb E + (0 + 0)))]) rfl ⟨rfl, (Nat.le_of_ble_eq_true rfl)⟩ ?_
  refine sH_loop S0 hRm hin hz hKx ?_
  have S : Std (cxK X 75 2127) E prog_1_method_1_code R5 3 3 := stdK0 S0 (rc hRm (Nat.le_of_ble_eq_true rfl)) (ro hRm (Nat.le_of_ble_eq_true rfl))
  refine j_iload_n S D_S_init_143 0 rfl rfl ?_
  refine j_aload_n S D_S_init_144 2 rfl rfl ?_
  refine j_getR S D_S_init_145 fl_R5_28 (sl := slB3) (k := 0) rfl rfl ?_
  refine j_alenQ S D_S_init_148 (l := lH 4) (ti := 4) (k := 4) rfl rfl (v := 4) (by decide +kernel) ?_
  refine j_icmp_ge S D_S_init_149 (fun _ => ?_) (fun c_ => absurd c_ (by decide +kernel))
  refine j_iconst S D_S_init_171 ci_0 ?_
  refine j_istore_n S D_S_init_172 (lv := [(2, .int 0), (1, .ref (eb E + 37)), (0, .ref (eb E + (0 + 0)))]) rfl ⟨rfl, (Nat.le_of_ble_eq_true rfl)⟩ ?_
  refine sL_loop S0 hRm hin hz hKx ?_
  have S : Std (cxK X 90 2287) E prog_1_method_1_code R5 3 3 := stdK0 S0 (rc hRm (Nat.le_of_ble_eq_true rfl)) (ro hRm (Nat.le_of_ble_eq_true rfl))
  refine j_iload_n S D_S_init_173 0 rfl rfl ?_
  refine j_aload_n S D_S_init_174 2 rfl rfl ?_
  refine j_getR S D_S_init_175 fl_R5_34 (sl := slB3) (k := 0) rfl rfl ?_
  refine j_alenQ S D_S_init_178 (l := lL 5) (ti := 5) (k := 5) rfl rfl (v := 5) (by decide +kernel) ?_
  refine j_icmp_ge S D_S_init_179 (fun _ => ?_) (fun c_ => absurd c_ (by decide +kernel))
  exact j_shp wL_SH (hR _ _ D_S_init_201)
