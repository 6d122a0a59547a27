def y_S_howManyAboveZero : MethodName := ⟨"SandPicture", "howManyAboveZero", "([I)I"⟩
theorem D_S_howManyAboveZero_0 : decode prog_1_method_52_code 0 = .ok (.iconst 0, 1) ∧ 0 + 1 = 1 := by decide +kernel
theorem D_S_howManyAboveZero_1 : decode prog_1_method_52_code 1 = .ok (.istore_n 1, 1) ∧ 1 + 1 = 2 := by decide +kernel
theorem D_S_howManyAboveZero_2 : decode prog_1_method_52_code 2 = .ok (.aload_n 0, 1) ∧ 2 + 1 = 3 := by decide +kernel
theorem D_S_howManyAboveZero_3 : decode prog_1_method_52_code 3 = .ok (.astore_n 2, 1) ∧ 3 + 1 = 4 := by decide +kernel
theorem D_S_howManyAboveZero_4 : decode prog_1_method_52_code 4 = .ok (.aload_n 2, 1) ∧ 4 + 1 = 5 := by decide +kernel
theorem D_S_howManyAboveZero_5 : decode prog_1_method_52_code 5 = .ok (.arraylength, 1) ∧ 5 + 1 = 6 := by decide +kernel
theorem D_S_howManyAboveZero_6 : decode prog_1_method_52_code 6 = .ok (.istore_n 3, 1) ∧ 6 + 1 = 7 := by decide +kernel
theorem D_S_howManyAboveZero_7 : decode prog_1_method_52_code 7 = .ok (.iconst 0, 1) ∧ 7 + 1 = 8 := by decide +kernel
theorem D_S_howManyAboveZero_8 : decode prog_1_method_52_code 8 = .ok (.istore 4, 2) ∧ 8 + 2 = 10 := by decide +kernel
theorem D_S_howManyAboveZero_10 : decode prog_1_method_52_code 10 = .ok (.iload 4, 2) ∧ 10 + 2 = 12 := by decide +kernel
theorem D_S_howManyAboveZero_12 : decode prog_1_method_52_code 12 = .ok (.iload_n 3, 1) ∧ 12 + 1 = 13 := by decide +kernel
theorem D_S_howManyAboveZero_13 : decode prog_1_method_52_code 13 = .ok (.if_icmp .ge 28, 3) ∧ ((13 : Nat) : Int) + 28 = ((41 : Nat) : Int) ∧ 13 + 3 = 16 := by decide +kernel
theorem D_S_howManyAboveZero_16 : decode prog_1_method_52_code 16 = .ok (.aload_n 2, 1) ∧ 16 + 1 = 17 := by decide +kernel
theorem D_S_howManyAboveZero_17 : decode prog_1_method_52_code 17 = .ok (.iload 4, 2) ∧ 17 + 2 = 19 := by decide +kernel
theorem D_S_howManyAboveZero_19 : decode prog_1_method_52_code 19 = .ok (.iaload, 1) ∧ 19 + 1 = 20 := by decide +kernel
theorem D_S_howManyAboveZero_20 : decode prog_1_method_52_code 20 = .ok (.istore 5, 2) ∧ 20 + 2 = 22 := by decide +kernel
theorem D_S_howManyAboveZero_22 : decode prog_1_method_52_code 22 = .ok (.iload_n 1, 1) ∧ 22 + 1 = 23 := by decide +kernel
theorem D_S_howManyAboveZero_23 : decode prog_1_method_52_code 23 = .ok (.iload 5, 2) ∧ 23 + 2 = 25 := by decide +kernel
theorem D_S_howManyAboveZero_32 : decode prog_1_method_52_code 32 = .ok (.iconst 0, 1) ∧ 32 + 1 = 33 := by decide +kernel
theorem D_S_howManyAboveZero_28 : decode prog_1_method_52_code 28 = .ok (.iconst 1, 1) ∧ 28 + 1 = 29 := by decide +kernel
theorem D_S_howManyAboveZero_29 : decode prog_1_method_52_code 29 = .ok (.goto 4, 3) ∧ ((29 : Nat) : Int) + 4 = ((33 : Nat) : Int) := by decide +kernel
theorem D_S_howManyAboveZero_25 : decode prog_1_method_52_code 25 = .ok (.ifCond .le 7, 3) ∧ ((25 : Nat) : Int) + 7 = ((32 : Nat) : Int) ∧ 25 + 3 = 28 := by decide +kernel
theorem D_S_howManyAboveZero_33 : decode prog_1_method_52_code 33 = .ok (.iadd, 1) ∧ 33 + 1 = 34 := by decide +kernel
theorem D_S_howManyAboveZero_34 : decode prog_1_method_52_code 34 = .ok (.istore_n 1, 1) ∧ 34 + 1 = 35 := by decide +kernel
theorem D_S_howManyAboveZero_35 : decode prog_1_method_52_code 35 = .ok (.iinc 4 1, 3) ∧ 35 + 3 = 38 := by decide +kernel
theorem D_S_howManyAboveZero_38 : decode prog_1_method_52_code 38 = .ok (.goto (-28), 3) ∧ ((38 : Nat) : Int) + (-28) = ((10 : Nat) : Int) := by decide +kernel
theorem D_S_howManyAboveZero_41 : decode prog_1_method_52_code 41 = .ok (.iload_n 1, 1) ∧ 41 + 1 = 42 := by decide +kernel
theorem D_S_howManyAboveZero_42 : decode prog_1_method_52_code 42 = .ok (.ireturn, 1) := by decide +kernel
def f_S_howManyAboveZero_L10 (o1 n1 : Nat) : Nat → Int32 → Int32 → Int32 → Mm → Option (Int32 × Int32)
  | 0, _, _, _, _ => none
  | n + 1, b1, b3, b4, mem => if b3 ≤ b4 then some (b1, b4) else if inb b4 n1 = true then lt (mem o1 (ix b4)) fun x_20 => lt (b1 + (if x_20 ≤ 0 then (0 : Int32) else 1)) fun x_34 => f_S_howManyAboveZero_L10 o1 n1 n x_34 b3 (b4 + 1) mem else none
def f_S_howManyAboveZero (N : Nat) (o1 n1 : Nat) (mem : Mm) : Option (Int32) := lt (Int32.ofNat n1) fun x_6 => bp (f_S_howManyAboveZero_L10 o1 n1 N 0 x_6 0 mem) fun y_10 => some y_10.1
theorem L_S_howManyAboveZero_10 {X : Cx} {E : En} (S : Std X E prog_1_method_52_code R5 6 0) (o1 n1 : Nat) (ho1 : SH[o1]? = some (.inr (.inl (0, n1)))) {mem : Mm} : ∀ (n : Nat) (b1 : Int32) (b3 : Int32) (b4 : Int32) (z : Int32 × Int32), f_S_howManyAboveZero_L10 o1 n1 n b1 b3 b4 mem = some z → J X E 6 41 [(0, .ref (eb E + o1)), (1, .int z.1), (2, .ref (eb E + o1)), (3, .int b3), (4, .int z.2)] [] SH mem → J X E 6 10 [(0, .ref (eb E + o1)), (1, .int b1), (2, .ref (eb E + o1)), (3, .int b3), (4, .int b4)] [] SH mem := by
  intro n
  induction n with
  | zero =>
    intro b1 b3 b4 z h hk; cases h
  | succ n ih =>
    intro b1 b3 b4 z h hk
    rw [f_S_howManyAboveZero_L10] at h
    refine j_iload S D_S_howManyAboveZero_10 4 rfl ?_
    refine j_iload_n S D_S_howManyAboveZero_12 3 rfl rfl ?_
    refine j_icmp_ge S D_S_howManyAboveZero_13 (fun c_13 => ?_) (fun c_13 => ?_)
    · have h := ifT c_13 h
      cases h
      exact j_locals [0, 1, 2, 3, 4] rfl hk
    · have h := ifF c_13 h
      refine j_aload_n S D_S_howManyAboveZero_16 2 rfl rfl ?_
      refine j_iload S D_S_howManyAboveZero_17 4 rfl ?_
      obtain ⟨g_19, h⟩ := gdE h
      refine j_iald S D_S_howManyAboveZero_19 ho1 g_19 ?_
      obtain ⟨x_20, hx_20, h⟩ := ltE h
      refine j_nm hx_20 ?_
      refine j_istore S D_S_howManyAboveZero_20 (lv := [(5, .int x_20), (0, .ref (eb E + o1)), (1, .int b1), (2, .ref (eb E + o1)), (3, .int b3), (4, .int b4)]) rfl (Nat.le_of_ble_eq_true rfl) ?_
      refine j_iload_n S D_S_howManyAboveZero_22 2 rfl rfl ?_
      refine j_iload S D_S_howManyAboveZero_23 0 rfl ?_
      refine j_dia (P := J X E 6 33 [(5, .int x_20), (0, .ref (eb E + o1)), (1, .int b1), (2, .ref (eb E + o1)), (3, .int b3), (4, .int b4)] [.int (if x_20 ≤ 0 then (0 : Int32) else 1), .int b1] SH mem) (fun hj => ?_) ?_
      · refine j_if_le S D_S_howManyAboveZero_25 (fun c_25 => ?_) (fun c_25 => ?_)
        · refine j_iconst S D_S_howManyAboveZero_32 ci_0 ?_
          exact j_jnT hj c_25
        · refine j_iconst S D_S_howManyAboveZero_28 ci_1 ?_
          refine j_goto S D_S_howManyAboveZero_29 ?_
          exact j_jnF hj c_25
      refine j_iadd S D_S_howManyAboveZero_33 ?_
      obtain ⟨x_34, hx_34, h⟩ := ltE h
      refine j_nm hx_34 ?_
      refine j_istore_n S D_S_howManyAboveZero_34 (lv := [(1, .int x_34), (5, .int x_20), (0, .ref (eb E + o1)), (2, .ref (eb E + o1)), (3, .int b3), (4, .int b4)]) rfl ⟨rfl, (Nat.le_of_ble_eq_true rfl)⟩ ?_
      refine j_iinc S D_S_howManyAboveZero_35 5 rfl (congrArg (fun z => b4 + z) ci_1) (lv := [(4, .int (b4 + 1)), (1, .int x_34), (5, .int x_20), (0, .ref (eb E + o1)), (2, .ref (eb E + o1)), (3, .int b3)]) rfl (Nat.le_of_ble_eq_true rfl) ?_
      refine j_goto S D_S_howManyAboveZero_38 ?_
      refine j_locals [3, 1, 4, 5, 0] rfl (ih x_34 b3 (b4 + 1) _ h hk)
theorem c_S_howManyAboveZero (l : Launch) (E : En) (N : Nat) (o1 n1 : Nat) (ho1 : SH[o1]? = some (.inr (.inl (0, n1)))) {mem : Mm} {r : Int32} (h : f_S_howManyAboveZero N o1 n1 mem = some r) : CtI l E 0 y_S_howManyAboveZero prog_1_method_52_code 6 (some .int) [.ref (eb E + o1)] SH mem r mem := by
  refine mk_CtI ⟨by decide, (Nat.le_of_ble_eq_true rfl)⟩ (fun X S hl hR => ?_)
  have S : Std X E prog_1_method_52_code R5 6 0 := S
  show J X E 6 0 [(0, .ref (eb E + o1))] [] SH mem
  unfold f_S_howManyAboveZero at h
  refine j_iconst S D_S_howManyAboveZero_0 ci_0 ?_
  refine j_istore_n S D_S_howManyAboveZero_1 (lv := [(1, .int 0), (0, .ref (eb E + o1))]) rfl ⟨rfl, (Nat.le_of_ble_eq_true rfl)⟩ ?_
  refine j_aload_n S D_S_howManyAboveZero_2 1 rfl rfl ?_
  refine j_astore_n S D_S_howManyAboveZero_3 (lv := [(2, .ref (eb E + o1)), (1, .int 0), (0, .ref (eb E + o1))]) rfl ⟨rfl, (Nat.le_of_ble_eq_true rfl)⟩ ?_
  refine j_aload_n S D_S_howManyAboveZero_4 0 rfl rfl ?_
  refine j_alen S D_S_howManyAboveZero_5 ho1 rfl ?_
  obtain ⟨x_6, hx_6, h⟩ := ltE h
  refine j_nm hx_6 ?_
  refine j_istore_n S D_S_howManyAboveZero_6 (lv := [(3, .int x_6), (2, .ref (eb E + o1)), (1, .int 0), (0, .ref (eb E + o1))]) rfl ⟨rfl, (Nat.le_of_ble_eq_true rfl)⟩ ?_
  refine j_iconst S D_S_howManyAboveZero_7 ci_0 ?_
  refine j_istore S D_S_howManyAboveZero_8 (lv := [(4, .int 0), (3, .int x_6), (2, .ref (eb E + o1)), (1, .int 0), (0, .ref (eb E + o1))]) rfl (Nat.le_of_ble_eq_true rfl) ?_
  refine j_locals [4, 3, 2, 1, 0] rfl ?_
  obtain ⟨y_10, e_10, h⟩ := bpE h
  refine L_S_howManyAboveZero_10 S o1 n1 ho1 N 0 x_6 0 _ e_10 ?_
  refine j_iload_n S D_S_howManyAboveZero_41 1 rfl rfl ?_
  exact rtI hR h _ _ D_S_howManyAboveZero_42

def y_S_count : MethodName := ⟨"SandPicture", "count", "(I)I"⟩
theorem D_S_count_0 : decode prog_1_method_44_code 0 = .ok (.iload_n 1, 1) ∧ 0 + 1 = 1 := by decide +kernel
theorem D_S_count_1 : decode prog_1_method_44_code 1 = .ok (.tableswitch 111 0 7 #[47, 55, 63, 71, 82, 90, 95, 103], 47) := by decide +kernel
theorem D_S_count_48 : decode prog_1_method_44_code 48 = .ok (.aload_n 0, 1) ∧ 48 + 1 = 49 := by decide +kernel
theorem D_S_count_49 : decode prog_1_method_44_code 49 = .ok (.getfield 52, 3) ∧ 49 + 3 = 52 := by decide +kernel
theorem D_S_count_52 : decode prog_1_method_44_code 52 = .ok (.getfield 78, 3) ∧ 52 + 3 = 55 := by decide +kernel
theorem D_S_count_55 : decode prog_1_method_44_code 55 = .ok (.ireturn, 1) := by decide +kernel
theorem D_S_count_56 : decode prog_1_method_44_code 56 = .ok (.aload_n 0, 1) ∧ 56 + 1 = 57 := by decide +kernel
theorem D_S_count_57 : decode prog_1_method_44_code 57 = .ok (.getfield 52, 3) ∧ 57 + 3 = 60 := by decide +kernel
theorem D_S_count_60 : decode prog_1_method_44_code 60 = .ok (.getfield 149, 3) ∧ 60 + 3 = 63 := by decide +kernel
theorem D_S_count_63 : decode prog_1_method_44_code 63 = .ok (.ireturn, 1) := by decide +kernel
theorem D_S_count_64 : decode prog_1_method_44_code 64 = .ok (.aload_n 0, 1) ∧ 64 + 1 = 65 := by decide +kernel
theorem D_S_count_65 : decode prog_1_method_44_code 65 = .ok (.getfield 52, 3) ∧ 65 + 3 = 68 := by decide +kernel
theorem D_S_count_68 : decode prog_1_method_44_code 68 = .ok (.getfield 135, 3) ∧ 68 + 3 = 71 := by decide +kernel
theorem D_S_count_71 : decode prog_1_method_44_code 71 = .ok (.ireturn, 1) := by decide +kernel
theorem D_S_count_72 : decode prog_1_method_44_code 72 = .ok (.aload_n 0, 1) ∧ 72 + 1 = 73 := by decide +kernel
theorem D_S_count_73 : decode prog_1_method_44_code 73 = .ok (.getfield 52, 3) ∧ 73 + 3 = 76 := by decide +kernel
theorem D_S_count_76 : decode prog_1_method_44_code 76 = .ok (.getfield 122, 3) ∧ 76 + 3 = 79 := by decide +kernel
theorem D_S_count_79 : decode prog_1_method_44_code 79 = .ok (.invokestatic 262, 3) ∧ 79 + 3 = 82 := by decide +kernel
theorem D_S_count_82 : decode prog_1_method_44_code 82 = .ok (.ireturn, 1) := by decide +kernel
theorem D_S_count_83 : decode prog_1_method_44_code 83 = .ok (.aload_n 0, 1) ∧ 83 + 1 = 84 := by decide +kernel
theorem D_S_count_84 : decode prog_1_method_44_code 84 = .ok (.getfield 52, 3) ∧ 84 + 3 = 87 := by decide +kernel
theorem D_S_count_87 : decode prog_1_method_44_code 87 = .ok (.getfield 199, 3) ∧ 87 + 3 = 90 := by decide +kernel
theorem D_S_count_90 : decode prog_1_method_44_code 90 = .ok (.ireturn, 1) := by decide +kernel
theorem D_S_count_91 : decode prog_1_method_44_code 91 = .ok (.aload_n 0, 1) ∧ 91 + 1 = 92 := by decide +kernel
theorem D_S_count_92 : decode prog_1_method_44_code 92 = .ok (.getfield 42, 3) ∧ 92 + 3 = 95 := by decide +kernel
theorem D_S_count_95 : decode prog_1_method_44_code 95 = .ok (.ireturn, 1) := by decide +kernel
theorem D_S_count_96 : decode prog_1_method_44_code 96 = .ok (.aload_n 0, 1) ∧ 96 + 1 = 97 := by decide +kernel
theorem D_S_count_97 : decode prog_1_method_44_code 97 = .ok (.getfield 18, 3) ∧ 97 + 3 = 100 := by decide +kernel
theorem D_S_count_100 : decode prog_1_method_44_code 100 = .ok (.getfield 192, 3) ∧ 100 + 3 = 103 := by decide +kernel
theorem D_S_count_103 : decode prog_1_method_44_code 103 = .ok (.ireturn, 1) := by decide +kernel
theorem D_S_count_104 : decode prog_1_method_44_code 104 = .ok (.aload_n 0, 1) ∧ 104 + 1 = 105 := by decide +kernel
theorem D_S_count_105 : decode prog_1_method_44_code 105 = .ok (.getfield 52, 3) ∧ 105 + 3 = 108 := by decide +kernel
theorem D_S_count_108 : decode prog_1_method_44_code 108 = .ok (.getfield 146, 3) ∧ 108 + 3 = 111 := by decide +kernel
theorem D_S_count_111 : decode prog_1_method_44_code 111 = .ok (.ireturn, 1) := by decide +kernel
theorem D_S_count_112 : decode prog_1_method_44_code 112 = .ok (.ldc 77, 2) ∧ 112 + 2 = 114 := by decide +kernel
theorem D_S_count_114 : decode prog_1_method_44_code 114 = .ok (.ireturn, 1) := by decide +kernel
theorem D_S_count_1o : decode prog_1_method_44_code 1 = .ok (.tableswitch 111 0 7 #[47, 55, 63, 71, 82, 90, 95, 103], 47) ∧ ((1 : Nat) : Int) + 111 = ((112 : Nat) : Int) := by decide +kernel
def f_S_count (N : Nat) (a1 : Int32) (mem : Mm) : Option (Int32) := if a1 = 0 then some (mem 38 4) else if a1 = 1 then some (mem 38 15) else if a1 = 2 then some (mem 38 13) else if a1 = 3 then bp (f_S_howManyAboveZero N 45 6 mem) fun r_79 => some r_79 else if a1 = 4 then some (mem 38 2) else if a1 = 5 then some (mem 0 9) else if a1 = 6 then some (mem 2 0) else if a1 = 7 then some (mem 38 17) else some (-1000000001)
theorem c_S_count (l : Launch) (E : En) (N : Nat) (a1 : Int32) {mem : Mm} {r : Int32} (h : f_S_count N a1 mem = some r) : CtI l E 1 y_S_count prog_1_method_44_code 2 (some .int) [.ref (eb E + 0), .int a1] SH mem r mem := by
  refine mk_CtI ⟨by decide, (Nat.le_of_ble_eq_true rfl)⟩ (fun X S hl hR => ?_)
  have S : Std X E prog_1_method_44_code R5 2 1 := S
  show J X E 2 0 [(0, .ref (eb E + 0)), (1, .int a1)] [] SH mem
  unfold f_S_count at h
  refine j_iload_n S D_S_count_0 1 rfl rfl ?_
  by_cases c_1_0 : a1 = 0
  · have h := ifT c_1_0 h
    refine j_tabIn (tg := 48) (off := 47) S D_S_count_1 0 c_1_0 (by decide +kernel) ?_
    refine j_aload_n S D_S_count_48 0 rfl rfl ?_
    refine j_getR S D_S_count_49 fl_R5_52 sh_Sand rfl ?_
    refine j_getI S D_S_count_52 fl_R5_78 sh_P38 rfl ?_
    exact rtI hR h _ _ D_S_count_55
  · have h := ifF c_1_0 h
    by_cases c_1_1 : a1 = 1
    · have h := ifT c_1_1 h
      refine j_tabIn (tg := 56) (off := 55) S D_S_count_1 1 c_1_1 (by decide +kernel) ?_
      refine j_aload_n S D_S_count_56 0 rfl rfl ?_
      refine j_getR S D_S_count_57 fl_R5_52 sh_Sand rfl ?_
      refine j_getI S D_S_count_60 fl_R5_149 sh_P38 rfl ?_
      exact rtI hR h _ _ D_S_count_63
    · have h := ifF c_1_1 h
      by_cases c_1_2 : a1 = 2
      · have h := ifT c_1_2 h
        refine j_tabIn (tg := 64) (off := 63) S D_S_count_1 2 c_1_2 (by decide +kernel) ?_
        refine j_aload_n S D_S_count_64 0 rfl rfl ?_
        refine j_getR S D_S_count_65 fl_R5_52 sh_Sand rfl ?_
        refine j_getI S D_S_count_68 fl_R5_135 sh_P38 rfl ?_
        exact rtI hR h _ _ D_S_count_71
      · have h := ifF c_1_2 h
        by_cases c_1_3 : a1 = 3
        · have h := ifT c_1_3 h
          refine j_tabIn (tg := 72) (off := 71) S D_S_count_1 3 c_1_3 (by decide +kernel) ?_
          refine j_aload_n S D_S_count_72 0 rfl rfl ?_
          refine j_getR S D_S_count_73 fl_R5_52 sh_Sand rfl ?_
          refine j_getR S D_S_count_76 fl_R5_122 sh_P38 rfl ?_
          obtain ⟨r_79, e_79, h⟩ := bpE h
          refine j_callSI (As := [.ref (eb E + 45)]) S D_S_count_79 ms_R5_262 (c_S_howManyAboveZero (cxL X) E N 45 6 sh_45 e_79) (by decide) rfl rfl (Nat.le_of_ble_eq_true rfl) ?_
          exact rtI hR h _ _ D_S_count_82
        · have h := ifF c_1_3 h
          by_cases c_1_4 : a1 = 4
          · have h := ifT c_1_4 h
            refine j_tabIn (tg := 83) (off := 82) S D_S_count_1 4 c_1_4 (by decide +kernel) ?_
            refine j_aload_n S D_S_count_83 0 rfl rfl ?_
            refine j_getR S D_S_count_84 fl_R5_52 sh_Sand rfl ?_
            refine j_getI S D_S_count_87 fl_R5_199 sh_P38 rfl ?_
            exact rtI hR h _ _ D_S_count_90
          · have h := ifF c_1_4 h
            by_cases c_1_5 : a1 = 5
            · have h := ifT c_1_5 h
              refine j_tabIn (tg := 91) (off := 90) S D_S_count_1 5 c_1_5 (by decide +kernel) ?_
              refine j_aload_n S D_S_count_91 0 rfl rfl ?_
              refine j_getI S D_S_count_92 fl_R5_42 sh_Sand rfl ?_
              exact rtI hR h _ _ D_S_count_95
            · have h := ifF c_1_5 h
              by_cases c_1_6 : a1 = 6
              · have h := ifT c_1_6 h
                refine j_tabIn (tg := 96) (off := 95) S D_S_count_1 6 c_1_6 (by decide +kernel) ?_
                refine j_aload_n S D_S_count_96 0 rfl rfl ?_
                refine j_getR S D_S_count_97 fl_R5_18 sh_Sand rfl ?_
                refine j_getI S D_S_count_100 fl_R5_192 sh_Tape rfl ?_
                exact rtI hR h _ _ D_S_count_103
              · have h := ifF c_1_6 h
                by_cases c_1_7 : a1 = 7
                · have h := ifT c_1_7 h
                  refine j_tabIn (tg := 104) (off := 103) S D_S_count_1 7 c_1_7 (by decide +kernel) ?_
                  refine j_aload_n S D_S_count_104 0 rfl rfl ?_
                  refine j_getR S D_S_count_105 fl_R5_52 sh_Sand rfl ?_
                  refine j_getI S D_S_count_108 fl_R5_146 sh_P38 rfl ?_
                  exact rtI hR h _ _ D_S_count_111
                · have h := ifF c_1_7 h
                  refine j_tabOut S D_S_count_1o (tout_0_7 c_1_0 c_1_1 c_1_2 c_1_3 c_1_4 c_1_5 c_1_6 c_1_7) ?_
                  refine j_ldc S D_S_count_112 co_R5_77 ?_
                  exact rtI hR h _ _ D_S_count_114
