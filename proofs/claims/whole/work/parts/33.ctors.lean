theorem cb_101 : (Int8.ofInt 101).toInt32 = 101 := by decide +kernel
theorem cb_105 : (Int8.ofInt 105).toInt32 = 105 := by decide +kernel
theorem cb_107 : (Int8.ofInt 107).toInt32 = 107 := by decide +kernel
theorem cb_11 : (Int8.ofInt 11).toInt32 = 11 := by decide +kernel
theorem cb_110 : (Int8.ofInt 110).toInt32 = 110 := by decide +kernel
theorem cb_111 : (Int8.ofInt 111).toInt32 = 111 := by decide +kernel
theorem cb_114 : (Int8.ofInt 114).toInt32 = 114 := by decide +kernel
theorem cb_117 : (Int8.ofInt 117).toInt32 = 117 := by decide +kernel
theorem cb_15 : (Int8.ofInt 15).toInt32 = 15 := by decide +kernel
theorem cb_98 : (Int8.ofInt 98).toInt32 = 98 := by decide +kernel
theorem inbc_0_12 : inb 0 12 = true := by decide +kernel
theorem inbc_0_15 : inb 0 15 = true := by decide +kernel
theorem inbc_0_5 : inb 0 5 = true := by decide +kernel
theorem inbc_0_6 : inb 0 6 = true := by decide +kernel
theorem inbc_1_12 : inb 1 12 = true := by decide +kernel
theorem inbc_1_15 : inb 1 15 = true := by decide +kernel
theorem inbc_1_5 : inb 1 5 = true := by decide +kernel
theorem inbc_1_6 : inb 1 6 = true := by decide +kernel
theorem inbc_10_12 : inb 10 12 = true := by decide +kernel
theorem inbc_10_1436 : inb 10 1436 = true := by decide +kernel
theorem inbc_10_15 : inb 10 15 = true := by decide +kernel
theorem inbc_11_12 : inb 11 12 = true := by decide +kernel
theorem inbc_11_15 : inb 11 15 = true := by decide +kernel
theorem inbc_12_15 : inb 12 15 = true := by decide +kernel
theorem inbc_13_15 : inb 13 15 = true := by decide +kernel
theorem inbc_14_1436 : inb 14 1436 = true := by decide +kernel
theorem inbc_14_15 : inb 14 15 = true := by decide +kernel
theorem inbc_18_1436 : inb 18 1436 = true := by decide +kernel
theorem inbc_2_12 : inb 2 12 = true := by decide +kernel
theorem inbc_2_15 : inb 2 15 = true := by decide +kernel
theorem inbc_2_5 : inb 2 5 = true := by decide +kernel
theorem inbc_2_6 : inb 2 6 = true := by decide +kernel
theorem inbc_22_1436 : inb 22 1436 = true := by decide +kernel
theorem inbc_26_1436 : inb 26 1436 = true := by decide +kernel
theorem inbc_3_12 : inb 3 12 = true := by decide +kernel
theorem inbc_3_15 : inb 3 15 = true := by decide +kernel
theorem inbc_3_4 : inb 3 4 = true := by decide +kernel
theorem inbc_3_5 : inb 3 5 = true := by decide +kernel
theorem inbc_3_6 : inb 3 6 = true := by decide +kernel
theorem inbc_30_1436 : inb 30 1436 = true := by decide +kernel
theorem inbc_4_12 : inb 4 12 = true := by decide +kernel
theorem inbc_4_15 : inb 4 15 = true := by decide +kernel
theorem inbc_4_5 : inb 4 5 = true := by decide +kernel
theorem inbc_4_6 : inb 4 6 = true := by decide +kernel
theorem inbc_5_12 : inb 5 12 = true := by decide +kernel
theorem inbc_5_15 : inb 5 15 = true := by decide +kernel
theorem inbc_5_6 : inb 5 6 = true := by decide +kernel
theorem inbc_6_12 : inb 6 12 = true := by decide +kernel
theorem inbc_6_15 : inb 6 15 = true := by decide +kernel
theorem inbc_7_12 : inb 7 12 = true := by decide +kernel
theorem inbc_7_15 : inb 7 15 = true := by decide +kernel
theorem inbc_8_12 : inb 8 12 = true := by decide +kernel
theorem inbc_8_15 : inb 8 15 = true := by decide +kernel
theorem inbc_9_12 : inb 9 12 = true := by decide +kernel
theorem inbc_9_15 : inb 9 15 = true := by decide +kernel
theorem cn_4 : Int32.ofNat 4 = 4 := by decide +kernel
theorem cn_5 : Int32.ofNat 5 = 5 := by decide +kernel
def y_X_init : MethodName := ⟨"SandPicture$Text", "<init>", "()V"⟩
theorem D_X_init_0 : decode prog_7_method_1_code 0 = .ok (.aload_n 0, 1) ∧ 0 + 1 = 1 := by decide +kernel
theorem D_X_init_1 : decode prog_7_method_1_code 1 = .ok (.invokespecial 3, 3) ∧ 1 + 3 = 4 := by decide +kernel
theorem D_X_init_4 : decode prog_7_method_1_code 4 = .ok (.aload_n 0, 1) ∧ 4 + 1 = 5 := by decide +kernel
theorem D_X_init_5 : decode prog_7_method_1_code 5 = .ok (.iconst 0, 1) ∧ 5 + 1 = 6 := by decide +kernel
theorem D_X_init_6 : decode prog_7_method_1_code 6 = .ok (.putfield 9, 3) ∧ 6 + 3 = 9 := by decide +kernel
theorem D_X_init_9 : decode prog_7_method_1_code 9 = .ok (.aload_n 0, 1) ∧ 9 + 1 = 10 := by decide +kernel
theorem D_X_init_10 : decode prog_7_method_1_code 10 = .ok (.iconst 0, 1) ∧ 10 + 1 = 11 := by decide +kernel
theorem D_X_init_11 : decode prog_7_method_1_code 11 = .ok (.putfield 15, 3) ∧ 11 + 3 = 14 := by decide +kernel
theorem D_X_init_14 : decode prog_7_method_1_code 14 = .ok (.aload_n 0, 1) ∧ 14 + 1 = 15 := by decide +kernel
theorem D_X_init_15 : decode prog_7_method_1_code 15 = .ok (.iconst 0, 1) ∧ 15 + 1 = 16 := by decide +kernel
theorem D_X_init_16 : decode prog_7_method_1_code 16 = .ok (.putfield 18, 3) ∧ 16 + 3 = 19 := by decide +kernel
theorem D_X_init_19 : decode prog_7_method_1_code 19 = .ok (.aload_n 0, 1) ∧ 19 + 1 = 20 := by decide +kernel
theorem D_X_init_20 : decode prog_7_method_1_code 20 = .ok (.bipush 96, 2) ∧ 20 + 2 = 22 := by decide +kernel
theorem D_X_init_22 : decode prog_7_method_1_code 22 = .ok (.newarray .int, 2) ∧ 22 + 2 = 24 := by decide +kernel
theorem D_X_init_24 : decode prog_7_method_1_code 24 = .ok (.putfield 21, 3) ∧ 24 + 3 = 27 := by decide +kernel
theorem D_X_init_27 : decode prog_7_method_1_code 27 = .ok (.return_, 1) := by decide +kernel
def f_X_init (n0 : Nat) (mem : Mm) : Mm := (va_up (mst (mst (mst mem (n0 + 0) 0 0) (n0 + 0) 1 0) (n0 + 0) 2 0) (n0 + 1) (fun _ => 0))
set_option maxHeartbeats 40000000 in
theorem c_X_init (l : Launch) (E : En) (sh0 : List Sh) (n0 : Nat) (hn : sh0.length = n0) {mem : Mm} : CtN l E 1 1 96 y_X_init prog_7_method_1_code 1 [.ref (eb E + (n0 + 0))] (sh0 ++ [.inl (4, [none, none, none, some none])]) mem (sh0 ++ [.inl (4, [none, none, none, some (some (n0 + 1))]), .inr (.inl (0, 96))]) (f_X_init n0  mem) := by
  refine mk_CtN ⟨by decide, (Nat.le_of_ble_eq_true rfl), rfl⟩ (fun X S0 hRm hin hz hKx hR => ?_)
  have hz : (cxS X).heap.size = eb E + (n0 + 1) := by rw [hz, plen hn rfl]; rfl
  have S0 : Std (cxK X 0 0) E prog_7_method_1_code R4 1 1 := S0
  have S := S0
  show J (cxK X 0 0) E 1 0 [(0, .ref (eb E + (n0 + 0)))] [] (sh0 ++ [.inl (4, [none, none, none, some none])]) mem
  refine j_aload_n S D_X_init_0 0 rfl rfl ?_
  refine k_obj S (by decide) D_X_init_1 ob_R4_3 (Nat.le_of_ble_eq_true rfl) ?_
  refine j_aload_n S D_X_init_4 0 rfl rfl ?_
  refine j_iconst S D_X_init_5 ci_0 ?_
  refine j_putI S D_X_init_6 fp_R4_9 (pfx hn rfl) rfl ?_
  refine j_aload_n S D_X_init_9 0 rfl rfl ?_
  refine j_iconst S D_X_init_10 ci_0 ?_
  refine j_putI S D_X_init_11 fp_R4_15 (pfx hn rfl) rfl ?_
  refine j_aload_n S D_X_init_14 0 rfl rfl ?_
  refine j_iconst S D_X_init_15 ci_0 ?_
  refine j_putI S D_X_init_16 fp_R4_18 (pfx hn rfl) rfl ?_
  refine j_aload_n S D_X_init_19 0 rfl rfl ?_
  refine j_bipush S D_X_init_20 cb_96 ?_
  refine k_newA (j := 1) (at0 := .int) (ty := .int) S ⟨by omega, by omega⟩ hn rfl D_X_init_22 arc_0 rfl rfl rfl (by decide +kernel) ⟨rfl, rfl, rc hRm (by decide), ro hRm (by decide)⟩ (L2 := [.inl (4, [none, none, none, some none]), .inr (.inl (0, 96))]) rfl ?_
  have S : Std (cxK X 1 96) E prog_7_method_1_code R4 1 1 := stdK0 S0 (rc hRm (by decide)) (ro hRm (by decide))
  refine k_putR S hin D_X_init_24 pr_R4_21 (fun _ => ⟨rfl, rfl⟩) (pfx hn rfl) rfl ?_
  refine j_shp (pset hn (L2 := [.inl (4, [none, none, none, some (some (n0 + 1))]), .inr (.inl (0, 96))]) rfl) ?_
  exact hR _ _ D_X_init_27

def y_H_init : MethodName := ⟨"SandPicture$Sheet", "<init>", "()V"⟩
theorem D_H_init_0 : decode prog_4_method_1_code 0 = .ok (.aload_n 0, 1) ∧ 0 + 1 = 1 := by decide +kernel
theorem D_H_init_1 : decode prog_4_method_1_code 1 = .ok (.invokespecial 3, 3) ∧ 1 + 3 = 4 := by decide +kernel
theorem D_H_init_4 : decode prog_4_method_1_code 4 = .ok (.aload_n 0, 1) ∧ 4 + 1 = 5 := by decide +kernel
theorem D_H_init_5 : decode prog_4_method_1_code 5 = .ok (.iconst (-1), 1) ∧ 5 + 1 = 6 := by decide +kernel
theorem D_H_init_6 : decode prog_4_method_1_code 6 = .ok (.putfield 9, 3) ∧ 6 + 3 = 9 := by decide +kernel
theorem D_H_init_9 : decode prog_4_method_1_code 9 = .ok (.aload_n 0, 1) ∧ 9 + 1 = 10 := by decide +kernel
theorem D_H_init_10 : decode prog_4_method_1_code 10 = .ok (.iconst 0, 1) ∧ 10 + 1 = 11 := by decide +kernel
theorem D_H_init_11 : decode prog_4_method_1_code 11 = .ok (.putfield 15, 3) ∧ 11 + 3 = 14 := by decide +kernel
theorem D_H_init_14 : decode prog_4_method_1_code 14 = .ok (.aload_n 0, 1) ∧ 14 + 1 = 15 := by decide +kernel
theorem D_H_init_15 : decode prog_4_method_1_code 15 = .ok (.bipush 24, 2) ∧ 15 + 2 = 17 := by decide +kernel
theorem D_H_init_17 : decode prog_4_method_1_code 17 = .ok (.newarray .int, 2) ∧ 17 + 2 = 19 := by decide +kernel
theorem D_H_init_19 : decode prog_4_method_1_code 19 = .ok (.putfield 18, 3) ∧ 19 + 3 = 22 := by decide +kernel
theorem D_H_init_22 : decode prog_4_method_1_code 22 = .ok (.return_, 1) := by decide +kernel
def f_H_init (n0 : Nat) (mem : Mm) : Mm := (va_up (mst (mst mem (n0 + 0) 0 (-1)) (n0 + 0) 1 0) (n0 + 1) (fun _ => 0))
set_option maxHeartbeats 40000000 in
theorem c_H_init (l : Launch) (E : En) (sh0 : List Sh) (n0 : Nat) (hn : sh0.length = n0) {mem : Mm} : CtN l E 1 1 24 y_H_init prog_4_method_1_code 1 [.ref (eb E + (n0 + 0))] (sh0 ++ [.inl (1, [none, none, some none])]) mem (sh0 ++ [.inl (1, [none, none, some (some (n0 + 1))]), .inr (.inl (0, 24))]) (f_H_init n0  mem) := by
  refine mk_CtN ⟨by decide, (Nat.le_of_ble_eq_true rfl), rfl⟩ (fun X S0 hRm hin hz hKx hR => ?_)
  have hz : (cxS X).heap.size = eb E + (n0 + 1) := by rw [hz, plen hn rfl]; rfl
  have S0 : Std (cxK X 0 0) E prog_4_method_1_code R1 1 1 := S0
  have S := S0
  show J (cxK X 0 0) E 1 0 [(0, .ref (eb E + (n0 + 0)))] [] (sh0 ++ [.inl (1, [none, none, some none])]) mem
  refine j_aload_n S D_H_init_0 0 rfl rfl ?_
  refine k_obj S (by decide) D_H_init_1 ob_R1_3 (Nat.le_of_ble_eq_true rfl) ?_
  refine j_aload_n S D_H_init_4 0 rfl rfl ?_
  refine j_iconst S D_H_init_5 ci_m1 ?_
  refine j_putI S D_H_init_6 fp_R1_9 (pfx hn rfl) rfl ?_
  refine j_aload_n S D_H_init_9 0 rfl rfl ?_
  refine j_iconst S D_H_init_10 ci_0 ?_
  refine j_putI S D_H_init_11 fp_R1_15 (pfx hn rfl) rfl ?_
  refine j_aload_n S D_H_init_14 0 rfl rfl ?_
  refine j_bipush S D_H_init_15 cb_24 ?_
  refine k_newA (j := 1) (at0 := .int) (ty := .int) S ⟨by omega, by omega⟩ hn rfl D_H_init_17 arc_0 rfl rfl rfl (by decide +kernel) ⟨rfl, rfl, rc hRm (by decide), ro hRm (by decide)⟩ (L2 := [.inl (1, [none, none, some none]), .inr (.inl (0, 24))]) rfl ?_
  have S : Std (cxK X 1 24) E prog_4_method_1_code R1 1 1 := stdK0 S0 (rc hRm (by decide)) (ro hRm (by decide))
  refine k_putR S hin D_H_init_19 pr_R1_18 (fun _ => ⟨rfl, rfl⟩) (pfx hn rfl) rfl ?_
  refine j_shp (pset hn (L2 := [.inl (1, [none, none, some (some (n0 + 1))]), .inr (.inl (0, 24))]) rfl) ?_
  exact hR _ _ D_H_init_22

def y_L_init : MethodName := ⟨"SandPicture$Slot", "<init>", "()V"⟩
theorem D_L_init_0 : decode prog_5_method_1_code 0 = .ok (.aload_n 0, 1) ∧ 0 + 1 = 1 := by decide +kernel
theorem D_L_init_1 : decode prog_5_method_1_code 1 = .ok (.invokespecial 3, 3) ∧ 1 + 3 = 4 := by decide +kernel
theorem D_L_init_4 : decode prog_5_method_1_code 4 = .ok (.aload_n 0, 1) ∧ 4 + 1 = 5 := by decide +kernel
theorem D_L_init_5 : decode prog_5_method_1_code 5 = .ok (.iconst 0, 1) ∧ 5 + 1 = 6 := by decide +kernel
theorem D_L_init_6 : decode prog_5_method_1_code 6 = .ok (.putfield 9, 3) ∧ 6 + 3 = 9 := by decide +kernel
theorem D_L_init_9 : decode prog_5_method_1_code 9 = .ok (.aload_n 0, 1) ∧ 9 + 1 = 10 := by decide +kernel
theorem D_L_init_10 : decode prog_5_method_1_code 10 = .ok (.iconst 0, 1) ∧ 10 + 1 = 11 := by decide +kernel
theorem D_L_init_11 : decode prog_5_method_1_code 11 = .ok (.putfield 15, 3) ∧ 11 + 3 = 14 := by decide +kernel
theorem D_L_init_14 : decode prog_5_method_1_code 14 = .ok (.aload_n 0, 1) ∧ 14 + 1 = 15 := by decide +kernel
theorem D_L_init_15 : decode prog_5_method_1_code 15 = .ok (.iconst 0, 1) ∧ 15 + 1 = 16 := by decide +kernel
theorem D_L_init_16 : decode prog_5_method_1_code 16 = .ok (.putfield 18, 3) ∧ 16 + 3 = 19 := by decide +kernel
theorem D_L_init_19 : decode prog_5_method_1_code 19 = .ok (.aload_n 0, 1) ∧ 19 + 1 = 20 := by decide +kernel
theorem D_L_init_20 : decode prog_5_method_1_code 20 = .ok (.iconst 0, 1) ∧ 20 + 1 = 21 := by decide +kernel
theorem D_L_init_21 : decode prog_5_method_1_code 21 = .ok (.putfield 21, 3) ∧ 21 + 3 = 24 := by decide +kernel
theorem D_L_init_24 : decode prog_5_method_1_code 24 = .ok (.aload_n 0, 1) ∧ 24 + 1 = 25 := by decide +kernel
theorem D_L_init_25 : decode prog_5_method_1_code 25 = .ok (.new 24, 3) ∧ 25 + 3 = 28 := by decide +kernel
theorem D_L_init_28 : decode prog_5_method_1_code 28 = .ok (.dup, 1) ∧ 28 + 1 = 29 := by decide +kernel
theorem D_L_init_29 : decode prog_5_method_1_code 29 = .ok (.invokespecial 26, 3) ∧ 29 + 3 = 32 := by decide +kernel
theorem D_L_init_32 : decode prog_5_method_1_code 32 = .ok (.putfield 27, 3) ∧ 32 + 3 = 35 := by decide +kernel
theorem D_L_init_35 : decode prog_5_method_1_code 35 = .ok (.return_, 1) := by decide +kernel
def f_L_init (n0 : Nat) (mem : Mm) : Mm := (f_H_init (n0 + 1) (va_up (mst (mst (mst (mst mem (n0 + 0) 0 0) (n0 + 0) 1 0) (n0 + 0) 2 0) (n0 + 0) 3 0) (n0 + 1) (fun _ => 0)))
set_option maxHeartbeats 40000000 in
theorem c_L_init (l : Launch) (E : En) (sh0 : List Sh) (n0 : Nat) (hn : sh0.length = n0) {mem : Mm} : CtN l E 2 2 27 y_L_init prog_5_method_1_code 1 [.ref (eb E + (n0 + 0))] (sh0 ++ [.inl (2, [none, none, none, none, some none])]) mem (sh0 ++ [.inl (2, [none, none, none, none, some (some (n0 + 1))]), .inl (1, [none, none, some (some (n0 + 1 + 1))]), .inr (.inl (0, 24))]) (f_L_init n0  mem) := by
  refine mk_CtN ⟨by decide, (Nat.le_of_ble_eq_true rfl), rfl⟩ (fun X S0 hRm hin hz hKx hR => ?_)
  have hz : (cxS X).heap.size = eb E + (n0 + 1) := by rw [hz, plen hn rfl]; rfl
  have S0 : Std (cxK X 0 0) E prog_5_method_1_code R2 1 2 := S0
  have S := S0
  show J (cxK X 0 0) E 1 0 [(0, .ref (eb E + (n0 + 0)))] [] (sh0 ++ [.inl (2, [none, none, none, none, some none])]) mem
  refine j_aload_n S D_L_init_0 0 rfl rfl ?_
  refine k_obj S (by decide) D_L_init_1 ob_R2_3 (Nat.le_of_ble_eq_true rfl) ?_
  refine j_aload_n S D_L_init_4 0 rfl rfl ?_
  refine j_iconst S D_L_init_5 ci_0 ?_
  refine j_putI S D_L_init_6 fp_R2_9 (pfx hn rfl) rfl ?_
  refine j_aload_n S D_L_init_9 0 rfl rfl ?_
  refine j_iconst S D_L_init_10 ci_0 ?_
  refine j_putI S D_L_init_11 fp_R2_15 (pfx hn rfl) rfl ?_
  refine j_aload_n S D_L_init_14 0 rfl rfl ?_
  refine j_iconst S D_L_init_15 ci_0 ?_
  refine j_putI S D_L_init_16 fp_R2_18 (pfx hn rfl) rfl ?_
  refine j_aload_n S D_L_init_19 0 rfl rfl ?_
  refine j_iconst S D_L_init_20 ci_0 ?_
  refine j_putI S D_L_init_21 fp_R2_21 (pfx hn rfl) rfl ?_
  refine j_aload_n S D_L_init_24 0 rfl rfl ?_
  refine k_newO (j := 1) (C := R1) (T := T1) (M := 3) (ci := 1) S ⟨by omega, by omega⟩ hn rfl D_L_init_25 cko_R2_24 rfl ty1 tok1 dfl1 ⟨rfl, rfl, rc hRm (by decide), ro hRm (by decide)⟩ (L2 := [.inl (2, [none, none, none, none, some none]), .inl (1, [none, none, some none])]) rfl ?_
  have S : Std (cxK X 1 3) E prog_5_method_1_code R2 1 2 := stdK0 S0 (rc hRm (by decide)) (ro hRm (by decide))
  refine j_dup S D_L_init_28 rfl ?_
  refine j_shp (pcut (sh0 := sh0) (L := [.inl (2, [none, none, none, none, some none]), .inl (1, [none, none, some none])]) [.inl (2, [none, none, none, none, some none])] [.inl (1, [none, none, some none])] rfl) ?_
  refine k_callN (As := []) S hKx ⟨by rw [plen (j := 1) (plen (j := 1) hn rfl) rfl]; omega, by rw [plen (j := 1) (plen (j := 1) hn rfl) rfl]; omega⟩ D_L_init_29 ⟨Or.inr ⟨_, hKx.2.2.2.2.2⟩, im_H_init⟩ cd_H_init (by decide +kernel) (c_H_init (cxL X) E (sh0 ++ [.inl (2, [none, none, none, none, some none])]) (n0 + 1) (plen hn rfl)) (by decide) rfl rfl (Nat.le_of_ble_eq_true rfl) ⟨rfl, rfl, rc hRm (by decide), ro hRm (by decide)⟩ ?_
  refine j_shp (List.append_assoc sh0 [.inl (2, [none, none, none, none, some none])] _) ?_
  refine j_shp (sh2 := (sh0 ++ [.inl (2, [none, none, none, none, some none]), .inl (1, [none, none, some (some (n0 + 1 + 1))]), .inr (.inl (0, 24))])) rfl ?_
  have S : Std (cxK X 2 27) E prog_5_method_1_code R2 1 2 := stdK0 S0 (rc hRm (by decide)) (ro hRm (by decide))
  refine k_putR S hin D_L_init_32 pr_R2_27 (fun _ => ⟨rfl, rfl⟩) (pfx hn rfl) rfl ?_
  refine j_shp (pset hn (L2 := [.inl (2, [none, none, none, none, some (some (n0 + 1))]), .inl (1, [none, none, some (some (n0 + 1 + 1))]), .inr (.inl (0, 24))]) rfl) ?_
  exact hR _ _ D_L_init_35

def y_T_init : MethodName := ⟨"SandPicture$Tape", "<init>", "()V"⟩
theorem D_T_init_0 : decode prog_6_method_1_code 0 = .ok (.aload_n 0, 1) ∧ 0 + 1 = 1 := by decide +kernel
theorem D_T_init_1 : decode prog_6_method_1_code 1 = .ok (.invokespecial 3, 3) ∧ 1 + 3 = 4 := by decide +kernel
theorem D_T_init_4 : decode prog_6_method_1_code 4 = .ok (.aload_n 0, 1) ∧ 4 + 1 = 5 := by decide +kernel
theorem D_T_init_5 : decode prog_6_method_1_code 5 = .ok (.iconst 0, 1) ∧ 5 + 1 = 6 := by decide +kernel
theorem D_T_init_6 : decode prog_6_method_1_code 6 = .ok (.putfield 9, 3) ∧ 6 + 3 = 9 := by decide +kernel
theorem D_T_init_9 : decode prog_6_method_1_code 9 = .ok (.aload_n 0, 1) ∧ 9 + 1 = 10 := by decide +kernel
theorem D_T_init_10 : decode prog_6_method_1_code 10 = .ok (.bipush 96, 2) ∧ 10 + 2 = 12 := by decide +kernel
theorem D_T_init_12 : decode prog_6_method_1_code 12 = .ok (.newarray .int, 2) ∧ 12 + 2 = 14 := by decide +kernel
theorem D_T_init_14 : decode prog_6_method_1_code 14 = .ok (.putfield 15, 3) ∧ 14 + 3 = 17 := by decide +kernel
theorem D_T_init_17 : decode prog_6_method_1_code 17 = .ok (.aload_n 0, 1) ∧ 17 + 1 = 18 := by decide +kernel
theorem D_T_init_18 : decode prog_6_method_1_code 18 = .ok (.iconst 0, 1) ∧ 18 + 1 = 19 := by decide +kernel
theorem D_T_init_19 : decode prog_6_method_1_code 19 = .ok (.putfield 19, 3) ∧ 19 + 3 = 22 := by decide +kernel
theorem D_T_init_22 : decode prog_6_method_1_code 22 = .ok (.aload_n 0, 1) ∧ 22 + 1 = 23 := by decide +kernel
theorem D_T_init_23 : decode prog_6_method_1_code 23 = .ok (.iconst 0, 1) ∧ 23 + 1 = 24 := by decide +kernel
theorem D_T_init_24 : decode prog_6_method_1_code 24 = .ok (.putfield 22, 3) ∧ 24 + 3 = 27 := by decide +kernel
theorem D_T_init_27 : decode prog_6_method_1_code 27 = .ok (.aload_n 0, 1) ∧ 27 + 1 = 28 := by decide +kernel
theorem D_T_init_28 : decode prog_6_method_1_code 28 = .ok (.iconst 0, 1) ∧ 28 + 1 = 29 := by decide +kernel
theorem D_T_init_29 : decode prog_6_method_1_code 29 = .ok (.putfield 25, 3) ∧ 29 + 3 = 32 := by decide +kernel
theorem D_T_init_32 : decode prog_6_method_1_code 32 = .ok (.aload_n 0, 1) ∧ 32 + 1 = 33 := by decide +kernel
theorem D_T_init_33 : decode prog_6_method_1_code 33 = .ok (.iconst (-1), 1) ∧ 33 + 1 = 34 := by decide +kernel
theorem D_T_init_34 : decode prog_6_method_1_code 34 = .ok (.putfield 29, 3) ∧ 34 + 3 = 37 := by decide +kernel
theorem D_T_init_37 : decode prog_6_method_1_code 37 = .ok (.return_, 1) := by decide +kernel
def f_T_init (n0 : Nat) (mem : Mm) : Mm := (mst (mst (mst (mst (va_up (mst mem (n0 + 0) 0 0) (n0 + 1) (fun _ => 0)) (n0 + 0) 2 0) (n0 + 0) 3 0) (n0 + 0) 4 0) (n0 + 0) 5 (-1))
set_option maxHeartbeats 40000000 in
theorem c_T_init (l : Launch) (E : En) (sh0 : List Sh) (n0 : Nat) (hn : sh0.length = n0) {mem : Mm} : CtN l E 1 1 96 y_T_init prog_6_method_1_code 1 [.ref (eb E + (n0 + 0))] (sh0 ++ [.inl (3, [none, some none, none, none, none, none])]) mem (sh0 ++ [.inl (3, [none, some (some (n0 + 1)), none, none, none, none]), .inr (.inl (0, 96))]) (f_T_init n0  mem) := by
  refine mk_CtN ⟨by decide, (Nat.le_of_ble_eq_true rfl), rfl⟩ (fun X S0 hRm hin hz hKx hR => ?_)
  have hz : (cxS X).heap.size = eb E + (n0 + 1) := by rw [hz, plen hn rfl]; rfl
  have S0 : Std (cxK X 0 0) E prog_6_method_1_code R3 1 1 := S0
  have S := S0
  show J (cxK X 0 0) E 1 0 [(0, .ref (eb E + (n0 + 0)))] [] (sh0 ++ [.inl (3, [none, some none, none, none, none, none])]) mem
  refine j_aload_n S D_T_init_0 0 rfl rfl ?_
  refine k_obj S (by decide) D_T_init_1 ob_R3_3 (Nat.le_of_ble_eq_true rfl) ?_
  refine j_aload_n S D_T_init_4 0 rfl rfl ?_
  refine j_iconst S D_T_init_5 ci_0 ?_
  refine j_putI S D_T_init_6 fp_R3_9 (pfx hn rfl) rfl ?_
  refine j_aload_n S D_T_init_9 0 rfl rfl ?_
  refine j_bipush S D_T_init_10 cb_96 ?_
  refine k_newA (j := 1) (at0 := .int) (ty := .int) S ⟨by omega, by omega⟩ hn rfl D_T_init_12 arc_0 rfl rfl rfl (by decide +kernel) ⟨rfl, rfl, rc hRm (by decide), ro hRm (by decide)⟩ (L2 := [.inl (3, [none, some none, none, none, none, none]), .inr (.inl (0, 96))]) rfl ?_
  have S : Std (cxK X 1 96) E prog_6_method_1_code R3 1 1 := stdK0 S0 (rc hRm (by decide)) (ro hRm (by decide))
  refine k_putR S hin D_T_init_14 pr_R3_15 (fun _ => ⟨rfl, rfl⟩) (pfx hn rfl) rfl ?_
  refine j_shp (pset hn (L2 := [.inl (3, [none, some (some (n0 + 1)), none, none, none, none]), .inr (.inl (0, 96))]) rfl) ?_
  refine j_aload_n S D_T_init_17 0 rfl rfl ?_
  refine j_iconst S D_T_init_18 ci_0 ?_
  refine j_putI S D_T_init_19 fp_R3_19 (pfx hn rfl) rfl ?_
  refine j_aload_n S D_T_init_22 0 rfl rfl ?_
  refine j_iconst S D_T_init_23 ci_0 ?_
  refine j_putI S D_T_init_24 fp_R3_22 (pfx hn rfl) rfl ?_
  refine j_aload_n S D_T_init_27 0 rfl rfl ?_
  refine j_iconst S D_T_init_28 ci_0 ?_
  refine j_put S D_T_init_29 fp_R3_25 (pfx hn rfl) rfl (isb_nf isb0) ?_
  refine j_aload_n S D_T_init_32 0 rfl rfl ?_
  refine j_iconst S D_T_init_33 ci_m1 ?_
  refine j_putI S D_T_init_34 fp_R3_29 (pfx hn rfl) rfl ?_
  exact hR _ _ D_T_init_37

def y_P_init : MethodName := ⟨"SandPicture$Picture", "<init>", "([LSandPicture$Text;[I)V"⟩
theorem D_P_init_0 : decode prog_3_method_1_code 0 = .ok (.aload_n 0, 1) ∧ 0 + 1 = 1 := by decide +kernel
theorem D_P_init_1 : decode prog_3_method_1_code 1 = .ok (.invokespecial 3, 3) ∧ 1 + 3 = 4 := by decide +kernel
theorem D_P_init_4 : decode prog_3_method_1_code 4 = .ok (.aload_n 0, 1) ∧ 4 + 1 = 5 := by decide +kernel
theorem D_P_init_5 : decode prog_3_method_1_code 5 = .ok (.iconst 0, 1) ∧ 5 + 1 = 6 := by decide +kernel
theorem D_P_init_6 : decode prog_3_method_1_code 6 = .ok (.putfield 9, 3) ∧ 6 + 3 = 9 := by decide +kernel
theorem D_P_init_9 : decode prog_3_method_1_code 9 = .ok (.aload_n 0, 1) ∧ 9 + 1 = 10 := by decide +kernel
theorem D_P_init_10 : decode prog_3_method_1_code 10 = .ok (.iconst 3, 1) ∧ 10 + 1 = 11 := by decide +kernel
theorem D_P_init_11 : decode prog_3_method_1_code 11 = .ok (.newarray .int, 2) ∧ 11 + 2 = 13 := by decide +kernel
theorem D_P_init_13 : decode prog_3_method_1_code 13 = .ok (.dup, 1) ∧ 13 + 1 = 14 := by decide +kernel
theorem D_P_init_14 : decode prog_3_method_1_code 14 = .ok (.iconst 0, 1) ∧ 14 + 1 = 15 := by decide +kernel
theorem D_P_init_15 : decode prog_3_method_1_code 15 = .ok (.ldc 15, 2) ∧ 15 + 2 = 17 := by decide +kernel
theorem D_P_init_17 : decode prog_3_method_1_code 17 = .ok (.iastore, 1) ∧ 17 + 1 = 18 := by decide +kernel
theorem D_P_init_18 : decode prog_3_method_1_code 18 = .ok (.dup, 1) ∧ 18 + 1 = 19 := by decide +kernel
theorem D_P_init_19 : decode prog_3_method_1_code 19 = .ok (.iconst 1, 1) ∧ 19 + 1 = 20 := by decide +kernel
theorem D_P_init_20 : decode prog_3_method_1_code 20 = .ok (.ldc 15, 2) ∧ 20 + 2 = 22 := by decide +kernel
theorem D_P_init_22 : decode prog_3_method_1_code 22 = .ok (.iastore, 1) ∧ 22 + 1 = 23 := by decide +kernel
theorem D_P_init_23 : decode prog_3_method_1_code 23 = .ok (.dup, 1) ∧ 23 + 1 = 24 := by decide +kernel
theorem D_P_init_24 : decode prog_3_method_1_code 24 = .ok (.iconst 2, 1) ∧ 24 + 1 = 25 := by decide +kernel
theorem D_P_init_25 : decode prog_3_method_1_code 25 = .ok (.ldc 15, 2) ∧ 25 + 2 = 27 := by decide +kernel
theorem D_P_init_27 : decode prog_3_method_1_code 27 = .ok (.iastore, 1) ∧ 27 + 1 = 28 := by decide +kernel
theorem D_P_init_28 : decode prog_3_method_1_code 28 = .ok (.putfield 16, 3) ∧ 28 + 3 = 31 := by decide +kernel
theorem D_P_init_31 : decode prog_3_method_1_code 31 = .ok (.aload_n 0, 1) ∧ 31 + 1 = 32 := by decide +kernel
theorem D_P_init_32 : decode prog_3_method_1_code 32 = .ok (.iconst 0, 1) ∧ 32 + 1 = 33 := by decide +kernel
theorem D_P_init_33 : decode prog_3_method_1_code 33 = .ok (.putfield 20, 3) ∧ 33 + 3 = 36 := by decide +kernel
theorem D_P_init_36 : decode prog_3_method_1_code 36 = .ok (.aload_n 0, 1) ∧ 36 + 1 = 37 := by decide +kernel
theorem D_P_init_37 : decode prog_3_method_1_code 37 = .ok (.bipush 10, 2) ∧ 37 + 2 = 39 := by decide +kernel
theorem D_P_init_39 : decode prog_3_method_1_code 39 = .ok (.newarray .int, 2) ∧ 39 + 2 = 41 := by decide +kernel
theorem D_P_init_41 : decode prog_3_method_1_code 41 = .ok (.putfield 23, 3) ∧ 41 + 3 = 44 := by decide +kernel
theorem D_P_init_44 : decode prog_3_method_1_code 44 = .ok (.aload_n 0, 1) ∧ 44 + 1 = 45 := by decide +kernel
theorem D_P_init_45 : decode prog_3_method_1_code 45 = .ok (.bipush 10, 2) ∧ 45 + 2 = 47 := by decide +kernel
theorem D_P_init_47 : decode prog_3_method_1_code 47 = .ok (.newarray .int, 2) ∧ 47 + 2 = 49 := by decide +kernel
theorem D_P_init_49 : decode prog_3_method_1_code 49 = .ok (.putfield 26, 3) ∧ 49 + 3 = 52 := by decide +kernel
theorem D_P_init_52 : decode prog_3_method_1_code 52 = .ok (.aload_n 0, 1) ∧ 52 + 1 = 53 := by decide +kernel
theorem D_P_init_53 : decode prog_3_method_1_code 53 = .ok (.bipush 10, 2) ∧ 53 + 2 = 55 := by decide +kernel
theorem D_P_init_55 : decode prog_3_method_1_code 55 = .ok (.newarray .int, 2) ∧ 55 + 2 = 57 := by decide +kernel
theorem D_P_init_57 : decode prog_3_method_1_code 57 = .ok (.putfield 29, 3) ∧ 57 + 3 = 60 := by decide +kernel
theorem D_P_init_60 : decode prog_3_method_1_code 60 = .ok (.aload_n 0, 1) ∧ 60 + 1 = 61 := by decide +kernel
theorem D_P_init_61 : decode prog_3_method_1_code 61 = .ok (.bipush 6, 2) ∧ 61 + 2 = 63 := by decide +kernel
theorem D_P_init_63 : decode prog_3_method_1_code 63 = .ok (.newarray .int, 2) ∧ 63 + 2 = 65 := by decide +kernel
theorem D_P_init_65 : decode prog_3_method_1_code 65 = .ok (.dup, 1) ∧ 65 + 1 = 66 := by decide +kernel
theorem D_P_init_66 : decode prog_3_method_1_code 66 = .ok (.iconst 0, 1) ∧ 66 + 1 = 67 := by decide +kernel
theorem D_P_init_67 : decode prog_3_method_1_code 67 = .ok (.bipush 100, 2) ∧ 67 + 2 = 69 := by decide +kernel
theorem D_P_init_69 : decode prog_3_method_1_code 69 = .ok (.iastore, 1) ∧ 69 + 1 = 70 := by decide +kernel
theorem D_P_init_70 : decode prog_3_method_1_code 70 = .ok (.dup, 1) ∧ 70 + 1 = 71 := by decide +kernel
theorem D_P_init_71 : decode prog_3_method_1_code 71 = .ok (.iconst 1, 1) ∧ 71 + 1 = 72 := by decide +kernel
theorem D_P_init_72 : decode prog_3_method_1_code 72 = .ok (.bipush 100, 2) ∧ 72 + 2 = 74 := by decide +kernel
theorem D_P_init_74 : decode prog_3_method_1_code 74 = .ok (.iastore, 1) ∧ 74 + 1 = 75 := by decide +kernel
theorem D_P_init_75 : decode prog_3_method_1_code 75 = .ok (.dup, 1) ∧ 75 + 1 = 76 := by decide +kernel
theorem D_P_init_76 : decode prog_3_method_1_code 76 = .ok (.iconst 2, 1) ∧ 76 + 1 = 77 := by decide +kernel
theorem D_P_init_77 : decode prog_3_method_1_code 77 = .ok (.bipush 100, 2) ∧ 77 + 2 = 79 := by decide +kernel
theorem D_P_init_79 : decode prog_3_method_1_code 79 = .ok (.iastore, 1) ∧ 79 + 1 = 80 := by decide +kernel
theorem D_P_init_80 : decode prog_3_method_1_code 80 = .ok (.dup, 1) ∧ 80 + 1 = 81 := by decide +kernel
theorem D_P_init_81 : decode prog_3_method_1_code 81 = .ok (.iconst 3, 1) ∧ 81 + 1 = 82 := by decide +kernel
theorem D_P_init_82 : decode prog_3_method_1_code 82 = .ok (.bipush 100, 2) ∧ 82 + 2 = 84 := by decide +kernel
theorem D_P_init_84 : decode prog_3_method_1_code 84 = .ok (.iastore, 1) ∧ 84 + 1 = 85 := by decide +kernel
theorem D_P_init_85 : decode prog_3_method_1_code 85 = .ok (.dup, 1) ∧ 85 + 1 = 86 := by decide +kernel
theorem D_P_init_86 : decode prog_3_method_1_code 86 = .ok (.iconst 4, 1) ∧ 86 + 1 = 87 := by decide +kernel
theorem D_P_init_87 : decode prog_3_method_1_code 87 = .ok (.bipush 100, 2) ∧ 87 + 2 = 89 := by decide +kernel
theorem D_P_init_89 : decode prog_3_method_1_code 89 = .ok (.iastore, 1) ∧ 89 + 1 = 90 := by decide +kernel
theorem D_P_init_90 : decode prog_3_method_1_code 90 = .ok (.dup, 1) ∧ 90 + 1 = 91 := by decide +kernel
theorem D_P_init_91 : decode prog_3_method_1_code 91 = .ok (.iconst 5, 1) ∧ 91 + 1 = 92 := by decide +kernel
theorem D_P_init_92 : decode prog_3_method_1_code 92 = .ok (.bipush 100, 2) ∧ 92 + 2 = 94 := by decide +kernel
theorem D_P_init_94 : decode prog_3_method_1_code 94 = .ok (.iastore, 1) ∧ 94 + 1 = 95 := by decide +kernel
theorem D_P_init_95 : decode prog_3_method_1_code 95 = .ok (.putfield 32, 3) ∧ 95 + 3 = 98 := by decide +kernel
theorem D_P_init_98 : decode prog_3_method_1_code 98 = .ok (.aload_n 0, 1) ∧ 98 + 1 = 99 := by decide +kernel
theorem D_P_init_99 : decode prog_3_method_1_code 99 = .ok (.bipush 6, 2) ∧ 99 + 2 = 101 := by decide +kernel
theorem D_P_init_101 : decode prog_3_method_1_code 101 = .ok (.newarray .int, 2) ∧ 101 + 2 = 103 := by decide +kernel
theorem D_P_init_103 : decode prog_3_method_1_code 103 = .ok (.putfield 35, 3) ∧ 103 + 3 = 106 := by decide +kernel
theorem D_P_init_106 : decode prog_3_method_1_code 106 = .ok (.aload_n 0, 1) ∧ 106 + 1 = 107 := by decide +kernel
theorem D_P_init_107 : decode prog_3_method_1_code 107 = .ok (.bipush 6, 2) ∧ 107 + 2 = 109 := by decide +kernel
theorem D_P_init_109 : decode prog_3_method_1_code 109 = .ok (.newarray .int, 2) ∧ 109 + 2 = 111 := by decide +kernel
theorem D_P_init_111 : decode prog_3_method_1_code 111 = .ok (.putfield 38, 3) ∧ 111 + 3 = 114 := by decide +kernel
theorem D_P_init_114 : decode prog_3_method_1_code 114 = .ok (.aload_n 0, 1) ∧ 114 + 1 = 115 := by decide +kernel
theorem D_P_init_115 : decode prog_3_method_1_code 115 = .ok (.bipush 6, 2) ∧ 115 + 2 = 117 := by decide +kernel
theorem D_P_init_117 : decode prog_3_method_1_code 117 = .ok (.newarray .int, 2) ∧ 117 + 2 = 119 := by decide +kernel
theorem D_P_init_119 : decode prog_3_method_1_code 119 = .ok (.putfield 41, 3) ∧ 119 + 3 = 122 := by decide +kernel
theorem D_P_init_122 : decode prog_3_method_1_code 122 = .ok (.aload_n 0, 1) ∧ 122 + 1 = 123 := by decide +kernel
theorem D_P_init_123 : decode prog_3_method_1_code 123 = .ok (.iconst 3, 1) ∧ 123 + 1 = 124 := by decide +kernel
theorem D_P_init_124 : decode prog_3_method_1_code 124 = .ok (.newarray .int, 2) ∧ 124 + 2 = 126 := by decide +kernel
theorem D_P_init_126 : decode prog_3_method_1_code 126 = .ok (.dup, 1) ∧ 126 + 1 = 127 := by decide +kernel
theorem D_P_init_127 : decode prog_3_method_1_code 127 = .ok (.iconst 0, 1) ∧ 127 + 1 = 128 := by decide +kernel
theorem D_P_init_128 : decode prog_3_method_1_code 128 = .ok (.sipush 1000, 3) ∧ 128 + 3 = 131 := by decide +kernel
theorem D_P_init_131 : decode prog_3_method_1_code 131 = .ok (.iastore, 1) ∧ 131 + 1 = 132 := by decide +kernel
theorem D_P_init_132 : decode prog_3_method_1_code 132 = .ok (.dup, 1) ∧ 132 + 1 = 133 := by decide +kernel
theorem D_P_init_133 : decode prog_3_method_1_code 133 = .ok (.iconst 1, 1) ∧ 133 + 1 = 134 := by decide +kernel
theorem D_P_init_134 : decode prog_3_method_1_code 134 = .ok (.sipush 1000, 3) ∧ 134 + 3 = 137 := by decide +kernel
theorem D_P_init_137 : decode prog_3_method_1_code 137 = .ok (.iastore, 1) ∧ 137 + 1 = 138 := by decide +kernel
theorem D_P_init_138 : decode prog_3_method_1_code 138 = .ok (.dup, 1) ∧ 138 + 1 = 139 := by decide +kernel
theorem D_P_init_139 : decode prog_3_method_1_code 139 = .ok (.iconst 2, 1) ∧ 139 + 1 = 140 := by decide +kernel
theorem D_P_init_140 : decode prog_3_method_1_code 140 = .ok (.sipush 1000, 3) ∧ 140 + 3 = 143 := by decide +kernel
theorem D_P_init_143 : decode prog_3_method_1_code 143 = .ok (.iastore, 1) ∧ 143 + 1 = 144 := by decide +kernel
theorem D_P_init_144 : decode prog_3_method_1_code 144 = .ok (.putfield 44, 3) ∧ 144 + 3 = 147 := by decide +kernel
theorem D_P_init_147 : decode prog_3_method_1_code 147 = .ok (.aload_n 0, 1) ∧ 147 + 1 = 148 := by decide +kernel
theorem D_P_init_148 : decode prog_3_method_1_code 148 = .ok (.bipush 10, 2) ∧ 148 + 2 = 150 := by decide +kernel
theorem D_P_init_150 : decode prog_3_method_1_code 150 = .ok (.putfield 47, 3) ∧ 150 + 3 = 153 := by decide +kernel
theorem D_P_init_153 : decode prog_3_method_1_code 153 = .ok (.aload_n 0, 1) ∧ 153 + 1 = 154 := by decide +kernel
theorem D_P_init_154 : decode prog_3_method_1_code 154 = .ok (.iconst 0, 1) ∧ 154 + 1 = 155 := by decide +kernel
theorem D_P_init_155 : decode prog_3_method_1_code 155 = .ok (.putfield 50, 3) ∧ 155 + 3 = 158 := by decide +kernel
theorem D_P_init_158 : decode prog_3_method_1_code 158 = .ok (.aload_n 0, 1) ∧ 158 + 1 = 159 := by decide +kernel
theorem D_P_init_159 : decode prog_3_method_1_code 159 = .ok (.iconst 0, 1) ∧ 159 + 1 = 160 := by decide +kernel
theorem D_P_init_160 : decode prog_3_method_1_code 160 = .ok (.putfield 53, 3) ∧ 160 + 3 = 163 := by decide +kernel
theorem D_P_init_163 : decode prog_3_method_1_code 163 = .ok (.aload_n 0, 1) ∧ 163 + 1 = 164 := by decide +kernel
theorem D_P_init_164 : decode prog_3_method_1_code 164 = .ok (.iconst 0, 1) ∧ 164 + 1 = 165 := by decide +kernel
theorem D_P_init_165 : decode prog_3_method_1_code 165 = .ok (.putfield 56, 3) ∧ 165 + 3 = 168 := by decide +kernel
theorem D_P_init_168 : decode prog_3_method_1_code 168 = .ok (.aload_n 0, 1) ∧ 168 + 1 = 169 := by decide +kernel
theorem D_P_init_169 : decode prog_3_method_1_code 169 = .ok (.iconst 1, 1) ∧ 169 + 1 = 170 := by decide +kernel
theorem D_P_init_170 : decode prog_3_method_1_code 170 = .ok (.putfield 59, 3) ∧ 170 + 3 = 173 := by decide +kernel
theorem D_P_init_173 : decode prog_3_method_1_code 173 = .ok (.aload_n 0, 1) ∧ 173 + 1 = 174 := by decide +kernel
theorem D_P_init_174 : decode prog_3_method_1_code 174 = .ok (.iconst (-1), 1) ∧ 174 + 1 = 175 := by decide +kernel
theorem D_P_init_175 : decode prog_3_method_1_code 175 = .ok (.putfield 62, 3) ∧ 175 + 3 = 178 := by decide +kernel
theorem D_P_init_178 : decode prog_3_method_1_code 178 = .ok (.aload_n 0, 1) ∧ 178 + 1 = 179 := by decide +kernel
theorem D_P_init_179 : decode prog_3_method_1_code 179 = .ok (.aload_n 1, 1) ∧ 179 + 1 = 180 := by decide +kernel
theorem D_P_init_180 : decode prog_3_method_1_code 180 = .ok (.putfield 65, 3) ∧ 180 + 3 = 183 := by decide +kernel
theorem D_P_init_183 : decode prog_3_method_1_code 183 = .ok (.aload_n 0, 1) ∧ 183 + 1 = 184 := by decide +kernel
theorem D_P_init_184 : decode prog_3_method_1_code 184 = .ok (.aload_n 2, 1) ∧ 184 + 1 = 185 := by decide +kernel
theorem D_P_init_185 : decode prog_3_method_1_code 185 = .ok (.putfield 69, 3) ∧ 185 + 3 = 188 := by decide +kernel
theorem D_P_init_188 : decode prog_3_method_1_code 188 = .ok (.return_, 1) := by decide +kernel
def f_P_init (n0 : Nat) (t1 t2 : Nat) (mem : Mm) : Mm := (mst (mst (mst (mst (mst (mst (mst (mst (mst (va_up (va_up (va_up (va_up (mst (mst (mst (mst (mst (mst (va_up (va_up (va_up (va_up (mst (mst (mst (mst (va_up (mst mem (n0 + 0) 2 0) (n0 + 1) (fun _ => 0)) (n0 + 1) (ix 0) (-1000000005)) (n0 + 1) (ix 1) (-1000000005)) (n0 + 1) (ix 2) (-1000000005)) (n0 + 0) 4 0) (n0 + 2) (fun _ => 0)) (n0 + 3) (fun _ => 0)) (n0 + 4) (fun _ => 0)) (n0 + 5) (fun _ => 0)) (n0 + 5) (ix 0) 100) (n0 + 5) (ix 1) 100) (n0 + 5) (ix 2) 100) (n0 + 5) (ix 3) 100) (n0 + 5) (ix 4) 100) (n0 + 5) (ix 5) 100) (n0 + 6) (fun _ => 0)) (n0 + 7) (fun _ => 0)) (n0 + 8) (fun _ => 0)) (n0 + 9) (fun _ => 0)) (n0 + 9) (ix 0) 1000) (n0 + 9) (ix 1) 1000) (n0 + 9) (ix 2) 1000) (n0 + 0) 13 10) (n0 + 0) 14 0) (n0 + 0) 15 0) (n0 + 0) 16 0) (n0 + 0) 17 1) (n0 + 0) 18 (-1))
set_option maxHeartbeats 40000000 in
theorem c_P_init (l : Launch) (E : En) (sh0 : List Sh) (n0 : Nat) (hn : sh0.length = n0) (t1 t2 : Nat) {mem : Mm} : CtN l E 1 9 60 y_P_init prog_3_method_1_code 3 [.ref (eb E + (n0 + 0)), .ref (eb E + t1), .ref (eb E + t2)] (sh0 ++ [.inl (0, [some none, some none, none, some none, none, some none, some none, some none, some none, some none, some none, some none, some none, none, none, none, none, none, none])]) mem (sh0 ++ [.inl (0, [some (some (t1)), some (some (t2)), none, some (some (n0 + 1)), none, some (some (n0 + 2)), some (some (n0 + 3)), some (some (n0 + 4)), some (some (n0 + 5)), some (some (n0 + 6)), some (some (n0 + 7)), some (some (n0 + 8)), some (some (n0 + 9)), none, none, none, none, none, none]), .inr (.inl (0, 3)), .inr (.inl (0, 10)), .inr (.inl (0, 10)), .inr (.inl (0, 10)), .inr (.inl (0, 6)), .inr (.inl (0, 6)), .inr (.inl (0, 6)), .inr (.inl (0, 6)), .inr (.inl (0, 3))]) (f_P_init n0 t1 t2  mem) := by
  refine mk_CtN ⟨by decide, (Nat.le_of_ble_eq_true rfl), rfl⟩ (fun X S0 hRm hin hz hKx hR => ?_)
  have hz : (cxS X).heap.size = eb E + (n0 + 1) := by rw [hz, plen hn rfl]; rfl
  have S0 : Std (cxK X 0 0) E prog_3_method_1_code R0 3 1 := S0
  have S := S0
  show J (cxK X 0 0) E 3 0 [(0, .ref (eb E + (n0 + 0))), (1, .ref (eb E + t1)), (2, .ref (eb E + t2))] [] (sh0 ++ [.inl (0, [some none, some none, none, some none, none, some none, some none, some none, some none, some none, some none, some none, some none, none, none, none, none, none, none])]) mem
  refine j_aload_n S D_P_init_0 0 rfl rfl ?_
  refine k_obj S (by decide) D_P_init_1 ob_R0_3 (Nat.le_of_ble_eq_true rfl) ?_
  refine j_aload_n S D_P_init_4 0 rfl rfl ?_
  refine j_iconst S D_P_init_5 ci_0 ?_
  refine j_putI S D_P_init_6 fp_R0_9 (pfx hn rfl) rfl ?_
  refine j_aload_n S D_P_init_9 0 rfl rfl ?_
  refine j_iconst S D_P_init_10 ci_3 ?_
  refine k_newA (j := 1) (at0 := .int) (ty := .int) S ⟨by omega, by omega⟩ hn rfl D_P_init_11 arc_0 rfl rfl rfl (by decide +kernel) ⟨rfl, rfl, rc hRm (by decide), ro hRm (by decide)⟩ (L2 := [.inl (0, [some none, some none, none, some none, none, some none, some none, some none, some none, some none, some none, some none, some none, none, none, none, none, none, none]), .inr (.inl (0, 3))]) rfl ?_
  have S : Std (cxK X 1 3) E prog_3_method_1_code R0 3 1 := stdK0 S0 (rc hRm (by decide)) (ro hRm (by decide))
  refine j_dup S D_P_init_13 rfl ?_
  refine j_iconst S D_P_init_14 ci_0 ?_
  refine j_ldc S D_P_init_15 co_R0_15 ?_
  refine j_iast S D_P_init_17 (pfx hn rfl) inbc_0_3 ?_
  refine j_dup S D_P_init_18 rfl ?_
  refine j_iconst S D_P_init_19 ci_1 ?_
  refine j_ldc S D_P_init_20 co_R0_15 ?_
  refine j_iast S D_P_init_22 (pfx hn rfl) inbc_1_3 ?_
  refine j_dup S D_P_init_23 rfl ?_
  refine j_iconst S D_P_init_24 ci_2 ?_
  refine j_ldc S D_P_init_25 co_R0_15 ?_
  refine j_iast S D_P_init_27 (pfx hn rfl) inbc_2_3 ?_
  refine k_putR S hin D_P_init_28 pr_R0_16 (fun _ => ⟨rfl, rfl⟩) (pfx hn rfl) rfl ?_
  refine j_shp (pset hn (L2 := [.inl (0, [some none, some none, none, some (some (n0 + 1)), none, some none, some none, some none, some none, some none, some none, some none, some none, none, none, none, none, none, none]), .inr (.inl (0, 3))]) rfl) ?_
  refine j_aload_n S D_P_init_31 0 rfl rfl ?_
  refine j_iconst S D_P_init_32 ci_0 ?_
  refine j_putI S D_P_init_33 fp_R0_20 (pfx hn rfl) rfl ?_
  refine j_aload_n S D_P_init_36 0 rfl rfl ?_
  refine j_bipush S D_P_init_37 cb_10 ?_
  refine k_newA (j := 2) (at0 := .int) (ty := .int) S ⟨by omega, by omega⟩ hn rfl D_P_init_39 arc_0 rfl rfl rfl (by decide +kernel) ⟨rfl, rfl, rc hRm (by decide), ro hRm (by decide)⟩ (L2 := [.inl (0, [some none, some none, none, some (some (n0 + 1)), none, some none, some none, some none, some none, some none, some none, some none, some none, none, none, none, none, none, none]), .inr (.inl (0, 3)), .inr (.inl (0, 10))]) rfl ?_
  have S : Std (cxK X 2 13) E prog_3_method_1_code R0 3 1 := stdK0 S0 (rc hRm (by decide)) (ro hRm (by decide))
  refine k_putR S hin D_P_init_41 pr_R0_23 (fun _ => ⟨rfl, rfl⟩) (pfx hn rfl) rfl ?_
  refine j_shp (pset hn (L2 := [.inl (0, [some none, some none, none, some (some (n0 + 1)), none, some (some (n0 + 2)), some none, some none, some none, some none, some none, some none, some none, none, none, none, none, none, none]), .inr (.inl (0, 3)), .inr (.inl (0, 10))]) rfl) ?_
  refine j_aload_n S D_P_init_44 0 rfl rfl ?_
  refine j_bipush S D_P_init_45 cb_10 ?_
  refine k_newA (j := 3) (at0 := .int) (ty := .int) S ⟨by omega, by omega⟩ hn rfl D_P_init_47 arc_0 rfl rfl rfl (by decide +kernel) ⟨rfl, rfl, rc hRm (by decide), ro hRm (by decide)⟩ (L2 := [.inl (0, [some none, some none, none, some (some (n0 + 1)), none, some (some (n0 + 2)), some none, some none, some none, some none, some none, some none, some none, none, none, none, none, none, none]), .inr (.inl (0, 3)), .inr (.inl (0, 10)), .inr (.inl (0, 10))]) rfl ?_
  have S : Std (cxK X 3 23) E prog_3_method_1_code R0 3 1 := stdK0 S0 (rc hRm (by decide)) (ro hRm (by decide))
  refine k_putR S hin D_P_init_49 pr_R0_26 (fun _ => ⟨rfl, rfl⟩) (pfx hn rfl) rfl ?_
  refine j_shp (pset hn (L2 := [.inl (0, [some none, some none, none, some (some (n0 + 1)), none, some (some (n0 + 2)), some (some (n0 + 3)), some none, some none, some none, some none, some none, some none, none, none, none, none, none, none]), .inr (.inl (0, 3)), .inr (.inl (0, 10)), .inr (.inl (0, 10))]) rfl) ?_
  refine j_aload_n S D_P_init_52 0 rfl rfl ?_
  refine j_bipush S D_P_init_53 cb_10 ?_
  refine k_newA (j := 4) (at0 := .int) (ty := .int) S ⟨by omega, by omega⟩ hn rfl D_P_init_55 arc_0 rfl rfl rfl (by decide +kernel) ⟨rfl, rfl, rc hRm (by decide), ro hRm (by decide)⟩ (L2 := [.inl (0, [some none, some none, none, some (some (n0 + 1)), none, some (some (n0 + 2)), some (some (n0 + 3)), some none, some none, some none, some none, some none, some none, none, none, none, none, none, none]), .inr (.inl (0, 3)), .inr (.inl (0, 10)), .inr (.inl (0, 10)), .inr (.inl (0, 10))]) rfl ?_
  have S : Std (cxK X 4 33) E prog_3_method_1_code R0 3 1 := stdK0 S0 (rc hRm (by decide)) (ro hRm (by decide))
  refine k_putR S hin D_P_init_57 pr_R0_29 (fun _ => ⟨rfl, rfl⟩) (pfx hn rfl) rfl ?_
  refine j_shp (pset hn (L2 := [.inl (0, [some none, some none, none, some (some (n0 + 1)), none, some (some (n0 + 2)), some (some (n0 + 3)), some (some (n0 + 4)), some none, some none, some none, some none, some none, none, none, none, none, none, none]), .inr (.inl (0, 3)), .inr (.inl (0, 10)), .inr (.inl (0, 10)), .inr (.inl (0, 10))]) rfl) ?_
  refine j_aload_n S D_P_init_60 0 rfl rfl ?_
  refine j_bipush S D_P_init_61 cb_6 ?_
  refine k_newA (j := 5) (at0 := .int) (ty := .int) S ⟨by omega, by omega⟩ hn rfl D_P_init_63 arc_0 rfl rfl rfl (by decide +kernel) ⟨rfl, rfl, rc hRm (by decide), ro hRm (by decide)⟩ (L2 := [.inl (0, [some none, some none, none, some (some (n0 + 1)), none, some (some (n0 + 2)), some (some (n0 + 3)), some (some (n0 + 4)), some none, some none, some none, some none, some none, none, none, none, none, none, none]), .inr (.inl (0, 3)), .inr (.inl (0, 10)), .inr (.inl (0, 10)), .inr (.inl (0, 10)), .inr (.inl (0, 6))]) rfl ?_
  have S : Std (cxK X 5 39) E prog_3_method_1_code R0 3 1 := stdK0 S0 (rc hRm (by decide)) (ro hRm (by decide))
  refine j_dup S D_P_init_65 rfl ?_
  refine j_iconst S D_P_init_66 ci_0 ?_
  refine j_bipush S D_P_init_67 cb_100 ?_
  refine j_iast S D_P_init_69 (pfx hn rfl) inbc_0_6 ?_
  refine j_dup S D_P_init_70 rfl ?_
  refine j_iconst S D_P_init_71 ci_1 ?_
  refine j_bipush S D_P_init_72 cb_100 ?_
  refine j_iast S D_P_init_74 (pfx hn rfl) inbc_1_6 ?_
  refine j_dup S D_P_init_75 rfl ?_
  refine j_iconst S D_P_init_76 ci_2 ?_
  refine j_bipush S D_P_init_77 cb_100 ?_
  refine j_iast S D_P_init_79 (pfx hn rfl) inbc_2_6 ?_
  refine j_dup S D_P_init_80 rfl ?_
  refine j_iconst S D_P_init_81 ci_3 ?_
  refine j_bipush S D_P_init_82 cb_100 ?_
  refine j_iast S D_P_init_84 (pfx hn rfl) inbc_3_6 ?_
  refine j_dup S D_P_init_85 rfl ?_
  refine j_iconst S D_P_init_86 ci_4 ?_
  refine j_bipush S D_P_init_87 cb_100 ?_
  refine j_iast S D_P_init_89 (pfx hn rfl) inbc_4_6 ?_
  refine j_dup S D_P_init_90 rfl ?_
  refine j_iconst S D_P_init_91 ci_5 ?_
  refine j_bipush S D_P_init_92 cb_100 ?_
  refine j_iast S D_P_init_94 (pfx hn rfl) inbc_5_6 ?_
  refine k_putR S hin D_P_init_95 pr_R0_32 (fun _ => ⟨rfl, rfl⟩) (pfx hn rfl) rfl ?_
  refine j_shp (pset hn (L2 := [.inl (0, [some none, some none, none, some (some (n0 + 1)), none, some (some (n0 + 2)), some (some (n0 + 3)), some (some (n0 + 4)), some (some (n0 + 5)), some none, some none, some none, some none, none, none, none, none, none, none]), .inr (.inl (0, 3)), .inr (.inl (0, 10)), .inr (.inl (0, 10)), .inr (.inl (0, 10)), .inr (.inl (0, 6))]) rfl) ?_
  refine j_aload_n S D_P_init_98 0 rfl rfl ?_
  refine j_bipush S D_P_init_99 cb_6 ?_
  refine k_newA (j := 6) (at0 := .int) (ty := .int) S ⟨by omega, by omega⟩ hn rfl D_P_init_101 arc_0 rfl rfl rfl (by decide +kernel) ⟨rfl, rfl, rc hRm (by decide), ro hRm (by decide)⟩ (L2 := [.inl (0, [some none, some none, none, some (some (n0 + 1)), none, some (some (n0 + 2)), some (some (n0 + 3)), some (some (n0 + 4)), some (some (n0 + 5)), some none, some none, some none, some none, none, none, none, none, none, none]), .inr (.inl (0, 3)), .inr (.inl (0, 10)), .inr (.inl (0, 10)), .inr (.inl (0, 10)), .inr (.inl (0, 6)), .inr (.inl (0, 6))]) rfl ?_
  have S : Std (cxK X 6 45) E prog_3_method_1_code R0 3 1 := stdK0 S0 (rc hRm (by decide)) (ro hRm (by decide))
  refine k_putR S hin D_P_init_103 pr_R0_35 (fun _ => ⟨rfl, rfl⟩) (pfx hn rfl) rfl ?_
  refine j_shp (pset hn (L2 := [.inl (0, [some none, some none, none, some (some (n0 + 1)), none, some (some (n0 + 2)), some (some (n0 + 3)), some (some (n0 + 4)), some (some (n0 + 5)), some (some (n0 + 6)), some none, some none, some none, none, none, none, none, none, none]), .inr (.inl (0, 3)), .inr (.inl (0, 10)), .inr (.inl (0, 10)), .inr (.inl (0, 10)), .inr (.inl (0, 6)), .inr (.inl (0, 6))]) rfl) ?_
  refine j_aload_n S D_P_init_106 0 rfl rfl ?_
  refine j_bipush S D_P_init_107 cb_6 ?_
  refine k_newA (j := 7) (at0 := .int) (ty := .int) S ⟨by omega, by omega⟩ hn rfl D_P_init_109 arc_0 rfl rfl rfl (by decide +kernel) ⟨rfl, rfl, rc hRm (by decide), ro hRm (by decide)⟩ (L2 := [.inl (0, [some none, some none, none, some (some (n0 + 1)), none, some (some (n0 + 2)), some (some (n0 + 3)), some (some (n0 + 4)), some (some (n0 + 5)), some (some (n0 + 6)), some none, some none, some none, none, none, none, none, none, none]), .inr (.inl (0, 3)), .inr (.inl (0, 10)), .inr (.inl (0, 10)), .inr (.inl (0, 10)), .inr (.inl (0, 6)), .inr (.inl (0, 6)), .inr (.inl (0, 6))]) rfl ?_
  have S : Std (cxK X 7 51) E prog_3_method_1_code R0 3 1 := stdK0 S0 (rc hRm (by decide)) (ro hRm (by decide))
  refine k_putR S hin D_P_init_111 pr_R0_38 (fun _ => ⟨rfl, rfl⟩) (pfx hn rfl) rfl ?_
  refine j_shp (pset hn (L2 := [.inl (0, [some none, some none, none, some (some (n0 + 1)), none, some (some (n0 + 2)), some (some (n0 + 3)), some (some (n0 + 4)), some (some (n0 + 5)), some (some (n0 + 6)), some (some (n0 + 7)), some none, some none, none, none, none, none, none, none]), .inr (.inl (0, 3)), .inr (.inl (0, 10)), .inr (.inl (0, 10)), .inr (.inl (0, 10)), .inr (.inl (0, 6)), .inr (.inl (0, 6)), .inr (.inl (0, 6))]) rfl) ?_
  refine j_aload_n S D_P_init_114 0 rfl rfl ?_
  refine j_bipush S D_P_init_115 cb_6 ?_
  refine k_newA (j := 8) (at0 := .int) (ty := .int) S ⟨by omega, by omega⟩ hn rfl D_P_init_117 arc_0 rfl rfl rfl (by decide +kernel) ⟨rfl, rfl, rc hRm (by decide), ro hRm (by decide)⟩ (L2 := [.inl (0, [some none, some none, none, some (some (n0 + 1)), none, some (some (n0 + 2)), some (some (n0 + 3)), some (some (n0 + 4)), some (some (n0 + 5)), some (some (n0 + 6)), some (some (n0 + 7)), some none, some none, none, none, none, none, none, none]), .inr (.inl (0, 3)), .inr (.inl (0, 10)), .inr (.inl (0, 10)), .inr (.inl (0, 10)), .inr (.inl (0, 6)), .inr (.inl (0, 6)), .inr (.inl (0, 6)), .inr (.inl (0, 6))]) rfl ?_
  have S : Std (cxK X 8 57) E prog_3_method_1_code R0 3 1 := stdK0 S0 (rc hRm (by decide)) (ro hRm (by decide))
  refine k_putR S hin D_P_init_119 pr_R0_41 (fun _ => ⟨rfl, rfl⟩) (pfx hn rfl) rfl ?_
  refine j_shp (pset hn (L2 := [.inl (0, [some none, some none, none, some (some (n0 + 1)), none, some (some (n0 + 2)), some (some (n0 + 3)), some (some (n0 + 4)), some (some (n0 + 5)), some (some (n0 + 6)), some (some (n0 + 7)), some (some (n0 + 8)), some none, none, none, none, none, none, none]), .inr (.inl (0, 3)), .inr (.inl (0, 10)), .inr (.inl (0, 10)), .inr (.inl (0, 10)), .inr (.inl (0, 6)), .inr (.inl (0, 6)), .inr (.inl (0, 6)), .inr (.inl (0, 6))]) rfl) ?_
  refine j_aload_n S D_P_init_122 0 rfl rfl ?_
  refine j_iconst S D_P_init_123 ci_3 ?_
  refine k_newA (j := 9) (at0 := .int) (ty := .int) S ⟨by omega, by omega⟩ hn rfl D_P_init_124 arc_0 rfl rfl rfl (by decide +kernel) ⟨rfl, rfl, rc hRm (by decide), ro hRm (by decide)⟩ (L2 := [.inl (0, [some none, some none, none, some (some (n0 + 1)), none, some (some (n0 + 2)), some (some (n0 + 3)), some (some (n0 + 4)), some (some (n0 + 5)), some (some (n0 + 6)), some (some (n0 + 7)), some (some (n0 + 8)), some none, none, none, none, none, none, none]), .inr (.inl (0, 3)), .inr (.inl (0, 10)), .inr (.inl (0, 10)), .inr (.inl (0, 10)), .inr (.inl (0, 6)), .inr (.inl (0, 6)), .inr (.inl (0, 6)), .inr (.inl (0, 6)), .inr (.inl (0, 3))]) rfl ?_
  have S : Std (cxK X 9 60) E prog_3_method_1_code R0 3 1 := stdK0 S0 (rc hRm (by decide)) (ro hRm (by decide))
  refine j_dup S D_P_init_126 rfl ?_
  refine j_iconst S D_P_init_127 ci_0 ?_
  refine j_sipush S D_P_init_128 cs_1000 ?_
  refine j_iast S D_P_init_131 (pfx hn rfl) inbc_0_3 ?_
  refine j_dup S D_P_init_132 rfl ?_
  refine j_iconst S D_P_init_133 ci_1 ?_
  refine j_sipush S D_P_init_134 cs_1000 ?_
  refine j_iast S D_P_init_137 (pfx hn rfl) inbc_1_3 ?_
  refine j_dup S D_P_init_138 rfl ?_
  refine j_iconst S D_P_init_139 ci_2 ?_
  refine j_sipush S D_P_init_140 cs_1000 ?_
  refine j_iast S D_P_init_143 (pfx hn rfl) inbc_2_3 ?_
  refine k_putR S hin D_P_init_144 pr_R0_44 (fun _ => ⟨rfl, rfl⟩) (pfx hn rfl) rfl ?_
  refine j_shp (pset hn (L2 := [.inl (0, [some none, some none, none, some (some (n0 + 1)), none, some (some (n0 + 2)), some (some (n0 + 3)), some (some (n0 + 4)), some (some (n0 + 5)), some (some (n0 + 6)), some (some (n0 + 7)), some (some (n0 + 8)), some (some (n0 + 9)), none, none, none, none, none, none]), .inr (.inl (0, 3)), .inr (.inl (0, 10)), .inr (.inl (0, 10)), .inr (.inl (0, 10)), .inr (.inl (0, 6)), .inr (.inl (0, 6)), .inr (.inl (0, 6)), .inr (.inl (0, 6)), .inr (.inl (0, 3))]) rfl) ?_
  refine j_aload_n S D_P_init_147 0 rfl rfl ?_
  refine j_bipush S D_P_init_148 cb_10 ?_
  refine j_putI S D_P_init_150 fp_R0_47 (pfx hn rfl) rfl ?_
  refine j_aload_n S D_P_init_153 0 rfl rfl ?_
  refine j_iconst S D_P_init_154 ci_0 ?_
  refine j_putI S D_P_init_155 fp_R0_50 (pfx hn rfl) rfl ?_
  refine j_aload_n S D_P_init_158 0 rfl rfl ?_
  refine j_iconst S D_P_init_159 ci_0 ?_
  refine j_putI S D_P_init_160 fp_R0_53 (pfx hn rfl) rfl ?_
  refine j_aload_n S D_P_init_163 0 rfl rfl ?_
  refine j_iconst S D_P_init_164 ci_0 ?_
  refine j_putI S D_P_init_165 fp_R0_56 (pfx hn rfl) rfl ?_
  refine j_aload_n S D_P_init_168 0 rfl rfl ?_
  refine j_iconst S D_P_init_169 ci_1 ?_
  refine j_putI S D_P_init_170 fp_R0_59 (pfx hn rfl) rfl ?_
  refine j_aload_n S D_P_init_173 0 rfl rfl ?_
  refine j_iconst S D_P_init_174 ci_m1 ?_
  refine j_putI S D_P_init_175 fp_R0_62 (pfx hn rfl) rfl ?_
  refine j_aload_n S D_P_init_178 0 rfl rfl ?_
  refine j_aload_n S D_P_init_179 1 rfl rfl ?_
  refine k_putR S hin D_P_init_180 pr_R0_65 (fun _ => ⟨rfl, rfl⟩) (pfx hn rfl) rfl ?_
  refine j_shp (pset hn (L2 := [.inl (0, [some (some (t1)), some none, none, some (some (n0 + 1)), none, some (some (n0 + 2)), some (some (n0 + 3)), some (some (n0 + 4)), some (some (n0 + 5)), some (some (n0 + 6)), some (some (n0 + 7)), some (some (n0 + 8)), some (some (n0 + 9)), none, none, none, none, none, none]), .inr (.inl (0, 3)), .inr (.inl (0, 10)), .inr (.inl (0, 10)), .inr (.inl (0, 10)), .inr (.inl (0, 6)), .inr (.inl (0, 6)), .inr (.inl (0, 6)), .inr (.inl (0, 6)), .inr (.inl (0, 3))]) rfl) ?_
  refine j_aload_n S D_P_init_183 0 rfl rfl ?_
  refine j_aload_n S D_P_init_184 2 rfl rfl ?_
  refine k_putR S hin D_P_init_185 pr_R0_69 (fun _ => ⟨rfl, rfl⟩) (pfx hn rfl) rfl ?_
  refine j_shp (pset hn (L2 := [.inl (0, [some (some (t1)), some (some (t2)), none, some (some (n0 + 1)), none, some (some (n0 + 2)), some (some (n0 + 3)), some (some (n0 + 4)), some (some (n0 + 5)), some (some (n0 + 6)), some (some (n0 + 7)), some (some (n0 + 8)), some (some (n0 + 9)), none, none, none, none, none, none]), .inr (.inl (0, 3)), .inr (.inl (0, 10)), .inr (.inl (0, 10)), .inr (.inl (0, 10)), .inr (.inl (0, 6)), .inr (.inl (0, 6)), .inr (.inl (0, 6)), .inr (.inl (0, 6)), .inr (.inl (0, 3))]) rfl) ?_
  exact hR _ _ D_P_init_188
