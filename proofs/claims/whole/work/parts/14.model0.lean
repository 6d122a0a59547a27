def y_M_in : MethodName := ⟨"SandPictureModel", "in", "(III)Z"⟩
theorem D_M_in_0 : decode prog_9_method_2_code 0 = .ok (.iload_n 0, 1) ∧ 0 + 1 = 1 := by decide +kernel
theorem D_M_in_1 : decode prog_9_method_2_code 1 = .ok (.iload_n 1, 1) ∧ 1 + 1 = 2 := by decide +kernel
theorem D_M_in_14 : decode prog_9_method_2_code 14 = .ok (.iconst 0, 1) ∧ 14 + 1 = 15 := by decide +kernel
theorem D_M_in_5 : decode prog_9_method_2_code 5 = .ok (.iload_n 0, 1) ∧ 5 + 1 = 6 := by decide +kernel
theorem D_M_in_6 : decode prog_9_method_2_code 6 = .ok (.iload_n 2, 1) ∧ 6 + 1 = 7 := by decide +kernel
theorem D_M_in_10 : decode prog_9_method_2_code 10 = .ok (.iconst 1, 1) ∧ 10 + 1 = 11 := by decide +kernel
theorem D_M_in_11 : decode prog_9_method_2_code 11 = .ok (.goto 4, 3) ∧ ((11 : Nat) : Int) + 4 = ((15 : Nat) : Int) := by decide +kernel
theorem D_M_in_7 : decode prog_9_method_2_code 7 = .ok (.if_icmp .gt 7, 3) ∧ ((7 : Nat) : Int) + 7 = ((14 : Nat) : Int) ∧ 7 + 3 = 10 := by decide +kernel
theorem D_M_in_2 : decode prog_9_method_2_code 2 = .ok (.if_icmp .lt 12, 3) ∧ ((2 : Nat) : Int) + 12 = ((14 : Nat) : Int) ∧ 2 + 3 = 5 := by decide +kernel
theorem D_M_in_15 : decode prog_9_method_2_code 15 = .ok (.ireturn, 1) := by decide +kernel
def f_M_in (a1 : Int32) (a2 : Int32) (a3 : Int32) : Option (Int32) := some (if a1 < a2 then (0 : Int32) else if a3 < a1 then (0 : Int32) else 1)
theorem c_M_in (l : Launch) (E : En) (a1 : Int32) (a2 : Int32) (a3 : Int32) {mem : Mm} {r : Int32} (h : f_M_in a1 a2 a3 = some r) : CtI l E 0 y_M_in prog_9_method_2_code 3 (some .boolean) [.int a1, .int a2, .int a3] SH mem r mem := by
  refine mk_CtZ ⟨by decide, (Nat.le_of_ble_eq_true rfl)⟩ (fun X S hl hR => ?_)
  have S : Std X E prog_9_method_2_code R6 3 0 := S
  show J X E 3 0 [(0, .int a1), (1, .int a2), (2, .int a3)] [] SH mem
  unfold f_M_in at h
  refine j_iload_n S D_M_in_0 0 rfl rfl ?_
  refine j_iload_n S D_M_in_1 1 rfl rfl ?_
  refine j_dia (P := J X E 3 15 [(0, .int a1), (1, .int a2), (2, .int a3)] [.int (if a1 < a2 then (0 : Int32) else if a3 < a1 then (0 : Int32) else 1)] SH mem) (fun hj => ?_) ?_
  · refine j_icmp_lt S D_M_in_2 (fun c_2 => ?_) (fun c_2 => ?_)
    · refine j_iconst S D_M_in_14 ci_0 ?_
      exact j_jnT hj c_2
    · refine j_iload_n S D_M_in_5 0 rfl rfl ?_
      refine j_iload_n S D_M_in_6 2 rfl rfl ?_
      refine j_dia (P := J X E 3 15 [(0, .int a1), (1, .int a2), (2, .int a3)] [.int (if a3 < a1 then (0 : Int32) else 1)] SH mem) (fun hj => ?_) ?_
      · refine j_icmp_gt S D_M_in_7 (fun c_7 => ?_) (fun c_7 => ?_)
        · refine j_iconst S D_M_in_14 ci_0 ?_
          exact j_jnT hj c_7
        · refine j_iconst S D_M_in_10 ci_1 ?_
          refine j_goto S D_M_in_11 ?_
          exact j_jnF hj c_7
      exact j_jnF hj c_2
  exact rtIZ hR h (isb_ite isb0 (isb_ite isb0 isb1)) _ _ D_M_in_15

def y_M_within : MethodName := ⟨"SandPictureModel", "within", "(III)I"⟩
theorem D_M_within_0 : decode prog_9_method_3_code 0 = .ok (.iload_n 0, 1) ∧ 0 + 1 = 1 := by decide +kernel
theorem D_M_within_1 : decode prog_9_method_3_code 1 = .ok (.iload_n 1, 1) ∧ 1 + 1 = 2 := by decide +kernel
theorem D_M_within_9 : decode prog_9_method_3_code 9 = .ok (.iload_n 0, 1) ∧ 9 + 1 = 10 := by decide +kernel
theorem D_M_within_10 : decode prog_9_method_3_code 10 = .ok (.iload_n 2, 1) ∧ 10 + 1 = 11 := by decide +kernel
theorem D_M_within_18 : decode prog_9_method_3_code 18 = .ok (.iload_n 0, 1) ∧ 18 + 1 = 19 := by decide +kernel
theorem D_M_within_14 : decode prog_9_method_3_code 14 = .ok (.iload_n 2, 1) ∧ 14 + 1 = 15 := by decide +kernel
theorem D_M_within_15 : decode prog_9_method_3_code 15 = .ok (.goto 4, 3) ∧ ((15 : Nat) : Int) + 4 = ((19 : Nat) : Int) := by decide +kernel
theorem D_M_within_11 : decode prog_9_method_3_code 11 = .ok (.if_icmp .le 7, 3) ∧ ((11 : Nat) : Int) + 7 = ((18 : Nat) : Int) ∧ 11 + 3 = 14 := by decide +kernel
theorem D_M_within_5 : decode prog_9_method_3_code 5 = .ok (.iload_n 1, 1) ∧ 5 + 1 = 6 := by decide +kernel
theorem D_M_within_6 : decode prog_9_method_3_code 6 = .ok (.goto 13, 3) ∧ ((6 : Nat) : Int) + 13 = ((19 : Nat) : Int) := by decide +kernel
theorem D_M_within_2 : decode prog_9_method_3_code 2 = .ok (.if_icmp .ge 7, 3) ∧ ((2 : Nat) : Int) + 7 = ((9 : Nat) : Int) ∧ 2 + 3 = 5 := by decide +kernel
theorem D_M_within_19 : decode prog_9_method_3_code 19 = .ok (.ireturn, 1) := by decide +kernel
def f_M_within (a1 : Int32) (a2 : Int32) (a3 : Int32) : Option (Int32) := some (if a2 ≤ a1 then if a1 ≤ a3 then a1 else a3 else a2)
theorem c_M_within (l : Launch) (E : En) (a1 : Int32) (a2 : Int32) (a3 : Int32) {mem : Mm} {r : Int32} (h : f_M_within a1 a2 a3 = some r) : CtI l E 0 y_M_within prog_9_method_3_code 3 (some .int) [.int a1, .int a2, .int a3] SH mem r mem := by
  refine mk_CtI ⟨by decide, (Nat.le_of_ble_eq_true rfl)⟩ (fun X S hl hR => ?_)
  have S : Std X E prog_9_method_3_code R6 3 0 := S
  show J X E 3 0 [(0, .int a1), (1, .int a2), (2, .int a3)] [] SH mem
  unfold f_M_within at h
  refine j_iload_n S D_M_within_0 0 rfl rfl ?_
  refine j_iload_n S D_M_within_1 1 rfl rfl ?_
  refine j_dia (P := J X E 3 19 [(0, .int a1), (1, .int a2), (2, .int a3)] [.int (if a2 ≤ a1 then if a1 ≤ a3 then a1 else a3 else a2)] SH mem) (fun hj => ?_) ?_
  · refine j_icmp_ge S D_M_within_2 (fun c_2 => ?_) (fun c_2 => ?_)
    · refine j_iload_n S D_M_within_9 0 rfl rfl ?_
      refine j_iload_n S D_M_within_10 2 rfl rfl ?_
      refine j_dia (P := J X E 3 19 [(0, .int a1), (1, .int a2), (2, .int a3)] [.int (if a1 ≤ a3 then a1 else a3)] SH mem) (fun hj => ?_) ?_
      · refine j_icmp_le S D_M_within_11 (fun c_11 => ?_) (fun c_11 => ?_)
        · refine j_iload_n S D_M_within_18 0 rfl rfl ?_
          exact j_jnT hj c_11
        · refine j_iload_n S D_M_within_14 2 rfl rfl ?_
          refine j_goto S D_M_within_15 ?_
          exact j_jnF hj c_11
      exact j_jnT hj c_2
    · refine j_iload_n S D_M_within_5 1 rfl rfl ?_
      refine j_goto S D_M_within_6 ?_
      exact j_jnF hj c_2
  exact rtI hR h _ _ D_M_within_19

def y_M_copyAll : MethodName := ⟨"SandPictureModel", "copyAll", "([I[I)V"⟩
theorem D_M_copyAll_0 : decode prog_9_method_4_code 0 = .ok (.iconst 0, 1) ∧ 0 + 1 = 1 := by decide +kernel
theorem D_M_copyAll_1 : decode prog_9_method_4_code 1 = .ok (.istore_n 2, 1) ∧ 1 + 1 = 2 := by decide +kernel
theorem D_M_copyAll_2 : decode prog_9_method_4_code 2 = .ok (.iload_n 2, 1) ∧ 2 + 1 = 3 := by decide +kernel
theorem D_M_copyAll_3 : decode prog_9_method_4_code 3 = .ok (.sipush 1436, 3) ∧ 3 + 3 = 6 := by decide +kernel
theorem D_M_copyAll_6 : decode prog_9_method_4_code 6 = .ok (.if_icmp .ge 15, 3) ∧ ((6 : Nat) : Int) + 15 = ((21 : Nat) : Int) ∧ 6 + 3 = 9 := by decide +kernel
theorem D_M_copyAll_9 : decode prog_9_method_4_code 9 = .ok (.aload_n 1, 1) ∧ 9 + 1 = 10 := by decide +kernel
theorem D_M_copyAll_10 : decode prog_9_method_4_code 10 = .ok (.iload_n 2, 1) ∧ 10 + 1 = 11 := by decide +kernel
theorem D_M_copyAll_11 : decode prog_9_method_4_code 11 = .ok (.aload_n 0, 1) ∧ 11 + 1 = 12 := by decide +kernel
theorem D_M_copyAll_12 : decode prog_9_method_4_code 12 = .ok (.iload_n 2, 1) ∧ 12 + 1 = 13 := by decide +kernel
theorem D_M_copyAll_13 : decode prog_9_method_4_code 13 = .ok (.iaload, 1) ∧ 13 + 1 = 14 := by decide +kernel
theorem D_M_copyAll_14 : decode prog_9_method_4_code 14 = .ok (.iastore, 1) ∧ 14 + 1 = 15 := by decide +kernel
theorem D_M_copyAll_15 : decode prog_9_method_4_code 15 = .ok (.iinc 2 1, 3) ∧ 15 + 3 = 18 := by decide +kernel
theorem D_M_copyAll_18 : decode prog_9_method_4_code 18 = .ok (.goto (-16), 3) ∧ ((18 : Nat) : Int) + (-16) = ((2 : Nat) : Int) := by decide +kernel
theorem D_M_copyAll_21 : decode prog_9_method_4_code 21 = .ok (.return_, 1) := by decide +kernel
def f_M_copyAll_L2 (o1 : Nat) (o2 : Nat) : Nat → Int32 → Mm → Option (Int32 × Mm)
  | 0, _, _ => none
  | n + 1, b2, mem => if 1436 ≤ b2 then some (b2, mem) else if inb b2 1436 = true then lt (mst mem o2 (ix b2) (mem o1 (ix b2))) fun m_14 => f_M_copyAll_L2 o1 o2 n (b2 + 1) m_14 else none
def f_M_copyAll (N : Nat) (o1 : Nat) (o2 : Nat) (mem : Mm) : Option (Mm) := bd (f_M_copyAll_L2 o1 o2 N 0 mem) fun y_2 m_2 => some m_2
theorem L_M_copyAll_2 {X : Cx} {E : En} (S : Std X E prog_9_method_4_code R6 3 0) (o1 : Nat) (ho1 : SH[o1]? = some (.inr (.inl (0, 1436)))) (o2 : Nat) (ho2 : SH[o2]? = some (.inr (.inl (0, 1436)))) : ∀ (n : Nat) (b2 : Int32) (mem : Mm) (z : Int32) (m2 : Mm), f_M_copyAll_L2 o1 o2 n b2 mem = some (z, m2) → J X E 3 21 [(0, .ref (eb E + o1)), (1, .ref (eb E + o2)), (2, .int z)] [] SH m2 → J X E 3 2 [(0, .ref (eb E + o1)), (1, .ref (eb E + o2)), (2, .int b2)] [] SH mem := by
  intro n
  induction n with
  | zero =>
    intro b2 mem z m2 h hk; cases h
  | succ n ih =>
    intro b2 mem z m2 h hk
    rw [f_M_copyAll_L2] at h
    refine j_iload_n S D_M_copyAll_2 2 rfl rfl ?_
    refine j_sipush S D_M_copyAll_3 cs_1436 ?_
    refine j_icmp_ge S D_M_copyAll_6 (fun c_6 => ?_) (fun c_6 => ?_)
    · have h := ifT c_6 h
      cases h
      exact j_locals [0, 1, 2] rfl hk
    · have h := ifF c_6 h
      refine j_aload_n S D_M_copyAll_9 1 rfl rfl ?_
      refine j_iload_n S D_M_copyAll_10 2 rfl rfl ?_
      refine j_aload_n S D_M_copyAll_11 0 rfl rfl ?_
      refine j_iload_n S D_M_copyAll_12 2 rfl rfl ?_
      obtain ⟨g_13, h⟩ := gdE h
      refine j_iald S D_M_copyAll_13 ho1 g_13 ?_
      obtain ⟨m_14, hm_14, h⟩ := ltE h
      refine j_iast S D_M_copyAll_14 ho2 g_13 ?_
      refine j_mem hm_14 ?_
      refine j_iinc S D_M_copyAll_15 2 rfl (congrArg (fun z => b2 + z) ci_1) (lv := [(2, .int (b2 + 1)), (0, .ref (eb E + o1)), (1, .ref (eb E + o2))]) rfl (Nat.le_of_ble_eq_true rfl) ?_
      refine j_goto S D_M_copyAll_18 ?_
      refine j_locals [1, 2, 0] rfl (ih (b2 + 1) m_14 _ _ h hk)
theorem c_M_copyAll (l : Launch) (E : En) (N : Nat) (o1 : Nat) (ho1 : SH[o1]? = some (.inr (.inl (0, 1436)))) (o2 : Nat) (ho2 : SH[o2]? = some (.inr (.inl (0, 1436)))) {mem : Mm} {m2 : Mm} (h : f_M_copyAll N o1 o2 mem = some m2) : CtV l E 0 y_M_copyAll prog_9_method_4_code 3 [.ref (eb E + o1), .ref (eb E + o2)] SH mem m2 := by
  refine mk_CtV ⟨by decide, (Nat.le_of_ble_eq_true rfl)⟩ (fun X S hl hR => ?_)
  have S : Std X E prog_9_method_4_code R6 3 0 := S
  show J X E 3 0 [(0, .ref (eb E + o1)), (1, .ref (eb E + o2))] [] SH mem
  unfold f_M_copyAll at h
  refine j_iconst S D_M_copyAll_0 ci_0 ?_
  refine j_istore_n S D_M_copyAll_1 (lv := [(2, .int 0), (0, .ref (eb E + o1)), (1, .ref (eb E + o2))]) rfl ⟨rfl, (Nat.le_of_ble_eq_true rfl)⟩ ?_
  refine j_locals [1, 2, 0] rfl ?_
  obtain ⟨y_2, m_2, e_2, h⟩ := bdE h
  refine L_M_copyAll_2 S o1 ho1 o2 ho2 N 0 mem _ _ e_2 ?_
  exact rtV hR h _ _ D_M_copyAll_21

def y_M_isMonk : MethodName := ⟨"SandPictureModel", "isMonk", "(I)Z"⟩
theorem D_M_isMonk_0 : decode prog_9_method_5_code 0 = .ok (.iload_n 1, 1) ∧ 0 + 1 = 1 := by decide +kernel
theorem D_M_isMonk_1 : decode prog_9_method_5_code 1 = .ok (.iconst 0, 1) ∧ 1 + 1 = 2 := by decide +kernel
theorem D_M_isMonk_2 : decode prog_9_method_5_code 2 = .ok (.aload_n 0, 1) ∧ 2 + 1 = 3 := by decide +kernel
theorem D_M_isMonk_3 : decode prog_9_method_5_code 3 = .ok (.getfield 9, 3) ∧ 3 + 3 = 6 := by decide +kernel
theorem D_M_isMonk_6 : decode prog_9_method_5_code 6 = .ok (.iconst 1, 1) ∧ 6 + 1 = 7 := by decide +kernel
theorem D_M_isMonk_7 : decode prog_9_method_5_code 7 = .ok (.iaload, 1) ∧ 7 + 1 = 8 := by decide +kernel
theorem D_M_isMonk_8 : decode prog_9_method_5_code 8 = .ok (.iconst 1, 1) ∧ 8 + 1 = 9 := by decide +kernel
theorem D_M_isMonk_9 : decode prog_9_method_5_code 9 = .ok (.isub, 1) ∧ 9 + 1 = 10 := by decide +kernel
theorem D_M_isMonk_10 : decode prog_9_method_5_code 10 = .ok (.invokestatic 79, 3) ∧ 10 + 3 = 13 := by decide +kernel
theorem D_M_isMonk_13 : decode prog_9_method_5_code 13 = .ok (.ireturn, 1) := by decide +kernel
def f_M_isMonk (a1 : Int32) (mem : Mm) : Option (Int32) := bp (f_M_in a1 0 ((mem 92 (ix 1)) - 1)) fun r_10 => if isb r_10 = true then some r_10 else none
theorem c_M_isMonk (l : Launch) (E : En) (a1 : Int32) {mem : Mm} {r : Int32} (h : f_M_isMonk a1 mem = some r) : CtI l E 1 y_M_isMonk prog_9_method_5_code 2 (some .boolean) [.ref (eb E + 91), .int a1] SH mem r mem := by
  refine mk_CtZ ⟨by decide, (Nat.le_of_ble_eq_true rfl)⟩ (fun X S hl hR => ?_)
  have S : Std X E prog_9_method_5_code R6 2 1 := S
  show J X E 2 0 [(0, .ref (eb E + 91)), (1, .int a1)] [] SH mem
  unfold f_M_isMonk at h
  refine j_iload_n S D_M_isMonk_0 1 rfl rfl ?_
  refine j_iconst S D_M_isMonk_1 ci_0 ?_
  refine j_aload_n S D_M_isMonk_2 0 rfl rfl ?_
  refine j_getR S D_M_isMonk_3 fl_R6_9 sh_Mod rfl ?_
  refine j_iconst S D_M_isMonk_6 ci_1 ?_
  refine j_iald S D_M_isMonk_7 sh_92 inbc_1_1436 ?_
  refine j_iconst S D_M_isMonk_8 ci_1 ?_
  refine j_isub S D_M_isMonk_9 ?_
  obtain ⟨r_10, e_10, h⟩ := bpE h
  refine j_callSI (As := [.int a1, .int 0, .int ((mem 92 (ix 1)) - 1)]) S D_M_isMonk_10 ms_R6_79 (c_M_in (cxL X) E a1 0 ((mem 92 (ix 1)) - 1) (mem := mem) e_10) (by decide) rfl rfl (Nat.le_of_ble_eq_true rfl) ?_
  obtain ⟨z_13, h⟩ := gdE h
  exact rtIZ hR h z_13 _ _ D_M_isMonk_13

def y_M_isTable : MethodName := ⟨"SandPictureModel", "isTable", "(I)Z"⟩
theorem D_M_isTable_0 : decode prog_9_method_6_code 0 = .ok (.iload_n 0, 1) ∧ 0 + 1 = 1 := by decide +kernel
theorem D_M_isTable_1 : decode prog_9_method_6_code 1 = .ok (.iconst 0, 1) ∧ 1 + 1 = 2 := by decide +kernel
theorem D_M_isTable_2 : decode prog_9_method_6_code 2 = .ok (.iconst 5, 1) ∧ 2 + 1 = 3 := by decide +kernel
theorem D_M_isTable_3 : decode prog_9_method_6_code 3 = .ok (.invokestatic 79, 3) ∧ 3 + 3 = 6 := by decide +kernel
theorem D_M_isTable_6 : decode prog_9_method_6_code 6 = .ok (.ireturn, 1) := by decide +kernel
def f_M_isTable (a1 : Int32) : Option (Int32) := bp (f_M_in a1 0 5) fun r_3 => if isb r_3 = true then some r_3 else none
theorem c_M_isTable (l : Launch) (E : En) (a1 : Int32) {mem : Mm} {r : Int32} (h : f_M_isTable a1 = some r) : CtI l E 1 y_M_isTable prog_9_method_6_code 1 (some .boolean) [.int a1] SH mem r mem := by
  refine mk_CtZ ⟨by decide, (Nat.le_of_ble_eq_true rfl)⟩ (fun X S hl hR => ?_)
  have S : Std X E prog_9_method_6_code R6 1 1 := S
  show J X E 1 0 [(0, .int a1)] [] SH mem
  unfold f_M_isTable at h
  refine j_iload_n S D_M_isTable_0 0 rfl rfl ?_
  refine j_iconst S D_M_isTable_1 ci_0 ?_
  refine j_iconst S D_M_isTable_2 ci_5 ?_
  obtain ⟨r_3, e_3, h⟩ := bpE h
  refine j_callSI (As := [.int a1, .int 0, .int 5]) S D_M_isTable_3 ms_R6_79 (c_M_in (cxL X) E a1 0 5 (mem := mem) e_3) (by decide) rfl rfl (Nat.le_of_ble_eq_true rfl) ?_
  obtain ⟨z_6, h⟩ := gdE h
  exact rtIZ hR h z_6 _ _ D_M_isTable_6

def y_M_of : MethodName := ⟨"SandPictureModel", "of", "(II)I"⟩
theorem D_M_of_0 : decode prog_9_method_7_code 0 = .ok (.aload_n 0, 1) ∧ 0 + 1 = 1 := by decide +kernel
theorem D_M_of_1 : decode prog_9_method_7_code 1 = .ok (.getfield 9, 3) ∧ 1 + 3 = 4 := by decide +kernel
theorem D_M_of_4 : decode prog_9_method_7_code 4 = .ok (.bipush 34, 2) ∧ 4 + 2 = 6 := by decide +kernel
theorem D_M_of_6 : decode prog_9_method_7_code 6 = .ok (.iconst 3, 1) ∧ 6 + 1 = 7 := by decide +kernel
theorem D_M_of_7 : decode prog_9_method_7_code 7 = .ok (.iload_n 1, 1) ∧ 7 + 1 = 8 := by decide +kernel
theorem D_M_of_8 : decode prog_9_method_7_code 8 = .ok (.imul, 1) ∧ 8 + 1 = 9 := by decide +kernel
theorem D_M_of_9 : decode prog_9_method_7_code 9 = .ok (.iadd, 1) ∧ 9 + 1 = 10 := by decide +kernel
theorem D_M_of_10 : decode prog_9_method_7_code 10 = .ok (.iload_n 2, 1) ∧ 10 + 1 = 11 := by decide +kernel
theorem D_M_of_11 : decode prog_9_method_7_code 11 = .ok (.iadd, 1) ∧ 11 + 1 = 12 := by decide +kernel
theorem D_M_of_12 : decode prog_9_method_7_code 12 = .ok (.iaload, 1) ∧ 12 + 1 = 13 := by decide +kernel
theorem D_M_of_13 : decode prog_9_method_7_code 13 = .ok (.ireturn, 1) := by decide +kernel
def f_M_of (a1 : Int32) (a2 : Int32) (mem : Mm) : Option (Int32) := if inb ((34 + (3 * a1)) + a2) 1436 = true then some (mem 92 (ix ((34 + (3 * a1)) + a2))) else none
theorem c_M_of (l : Launch) (E : En) (a1 : Int32) (a2 : Int32) {mem : Mm} {r : Int32} (h : f_M_of a1 a2 mem = some r) : CtI l E 0 y_M_of prog_9_method_7_code 3 (some .int) [.ref (eb E + 91), .int a1, .int a2] SH mem r mem := by
  refine mk_CtI ⟨by decide, (Nat.le_of_ble_eq_true rfl)⟩ (fun X S hl hR => ?_)
  have S : Std X E prog_9_method_7_code R6 3 0 := S
  show J X E 3 0 [(0, .ref (eb E + 91)), (1, .int a1), (2, .int a2)] [] SH mem
  unfold f_M_of at h
  refine j_aload_n S D_M_of_0 0 rfl rfl ?_
  refine j_getR S D_M_of_1 fl_R6_9 sh_Mod rfl ?_
  refine j_bipush S D_M_of_4 cb_34 ?_
  refine j_iconst S D_M_of_6 ci_3 ?_
  refine j_iload_n S D_M_of_7 1 rfl rfl ?_
  refine j_imul S D_M_of_8 ?_
  refine j_iadd S D_M_of_9 ?_
  refine j_iload_n S D_M_of_10 2 rfl rfl ?_
  refine j_iadd S D_M_of_11 ?_
  obtain ⟨g_12, h⟩ := gdE h
  refine j_iald S D_M_of_12 sh_92 g_12 ?_
  exact rtI hR h _ _ D_M_of_13

def y_M_at0 : MethodName := ⟨"SandPictureModel", "at0", "(II)I"⟩
theorem D_M_at0_0 : decode prog_9_method_8_code 0 = .ok (.aload_n 0, 1) ∧ 0 + 1 = 1 := by decide +kernel
theorem D_M_at0_1 : decode prog_9_method_8_code 1 = .ok (.getfield 9, 3) ∧ 1 + 3 = 4 := by decide +kernel
theorem D_M_at0_4 : decode prog_9_method_8_code 4 = .ok (.bipush 10, 2) ∧ 4 + 2 = 6 := by decide +kernel
theorem D_M_at0_6 : decode prog_9_method_8_code 6 = .ok (.iconst 4, 1) ∧ 6 + 1 = 7 := by decide +kernel
theorem D_M_at0_7 : decode prog_9_method_8_code 7 = .ok (.iload_n 1, 1) ∧ 7 + 1 = 8 := by decide +kernel
theorem D_M_at0_8 : decode prog_9_method_8_code 8 = .ok (.imul, 1) ∧ 8 + 1 = 9 := by decide +kernel
theorem D_M_at0_9 : decode prog_9_method_8_code 9 = .ok (.iadd, 1) ∧ 9 + 1 = 10 := by decide +kernel
theorem D_M_at0_10 : decode prog_9_method_8_code 10 = .ok (.iload_n 2, 1) ∧ 10 + 1 = 11 := by decide +kernel
theorem D_M_at0_11 : decode prog_9_method_8_code 11 = .ok (.iadd, 1) ∧ 11 + 1 = 12 := by decide +kernel
theorem D_M_at0_12 : decode prog_9_method_8_code 12 = .ok (.iaload, 1) ∧ 12 + 1 = 13 := by decide +kernel
theorem D_M_at0_13 : decode prog_9_method_8_code 13 = .ok (.ireturn, 1) := by decide +kernel
def f_M_at0 (a1 : Int32) (a2 : Int32) (mem : Mm) : Option (Int32) := if inb ((10 + (4 * a1)) + a2) 1436 = true then some (mem 92 (ix ((10 + (4 * a1)) + a2))) else none
theorem c_M_at0 (l : Launch) (E : En) (a1 : Int32) (a2 : Int32) {mem : Mm} {r : Int32} (h : f_M_at0 a1 a2 mem = some r) : CtI l E 0 y_M_at0 prog_9_method_8_code 3 (some .int) [.ref (eb E + 91), .int a1, .int a2] SH mem r mem := by
  refine mk_CtI ⟨by decide, (Nat.le_of_ble_eq_true rfl)⟩ (fun X S hl hR => ?_)
  have S : Std X E prog_9_method_8_code R6 3 0 := S
  show J X E 3 0 [(0, .ref (eb E + 91)), (1, .int a1), (2, .int a2)] [] SH mem
  unfold f_M_at0 at h
  refine j_aload_n S D_M_at0_0 0 rfl rfl ?_
  refine j_getR S D_M_at0_1 fl_R6_9 sh_Mod rfl ?_
  refine j_bipush S D_M_at0_4 cb_10 ?_
  refine j_iconst S D_M_at0_6 ci_4 ?_
  refine j_iload_n S D_M_at0_7 1 rfl rfl ?_
  refine j_imul S D_M_at0_8 ?_
  refine j_iadd S D_M_at0_9 ?_
  refine j_iload_n S D_M_at0_10 2 rfl rfl ?_
  refine j_iadd S D_M_at0_11 ?_
  obtain ⟨g_12, h⟩ := gdE h
  refine j_iald S D_M_at0_12 sh_92 g_12 ?_
  exact rtI hR h _ _ D_M_at0_13

def y_M_becomes : MethodName := ⟨"SandPictureModel", "becomes", "(II)I"⟩
theorem D_M_becomes_0 : decode prog_9_method_9_code 0 = .ok (.aload_n 0, 1) ∧ 0 + 1 = 1 := by decide +kernel
theorem D_M_becomes_1 : decode prog_9_method_9_code 1 = .ok (.getfield 9, 3) ∧ 1 + 3 = 4 := by decide +kernel
theorem D_M_becomes_4 : decode prog_9_method_9_code 4 = .ok (.iload_n 1, 1) ∧ 4 + 1 = 5 := by decide +kernel
theorem D_M_becomes_5 : decode prog_9_method_9_code 5 = .ok (.iaload, 1) ∧ 5 + 1 = 6 := by decide +kernel
theorem D_M_becomes_6 : decode prog_9_method_9_code 6 = .ok (.istore_n 3, 1) ∧ 6 + 1 = 7 := by decide +kernel
theorem D_M_becomes_7 : decode prog_9_method_9_code 7 = .ok (.aload_n 0, 1) ∧ 7 + 1 = 8 := by decide +kernel
theorem D_M_becomes_8 : decode prog_9_method_9_code 8 = .ok (.getfield 9, 3) ∧ 8 + 3 = 11 := by decide +kernel
theorem D_M_becomes_11 : decode prog_9_method_9_code 11 = .ok (.iload_n 1, 1) ∧ 11 + 1 = 12 := by decide +kernel
theorem D_M_becomes_12 : decode prog_9_method_9_code 12 = .ok (.iload_n 2, 1) ∧ 12 + 1 = 13 := by decide +kernel
theorem D_M_becomes_13 : decode prog_9_method_9_code 13 = .ok (.iastore, 1) ∧ 13 + 1 = 14 := by decide +kernel
theorem D_M_becomes_14 : decode prog_9_method_9_code 14 = .ok (.iload_n 3, 1) ∧ 14 + 1 = 15 := by decide +kernel
theorem D_M_becomes_15 : decode prog_9_method_9_code 15 = .ok (.ireturn, 1) := by decide +kernel
def f_M_becomes (a1 : Int32) (a2 : Int32) (mem : Mm) : Option (Int32 × Mm) := if inb a1 1436 = true then lt (mem 92 (ix a1)) fun x_6 => lt (mst mem 92 (ix a1) a2) fun m_13 => some (x_6, m_13) else none
theorem c_M_becomes (l : Launch) (E : En) (a1 : Int32) (a2 : Int32) {mem : Mm} {r : Int32} {m2 : Mm} (h : f_M_becomes a1 a2 mem = some (r, m2)) : CtI l E 0 y_M_becomes prog_9_method_9_code 4 (some .int) [.ref (eb E + 91), .int a1, .int a2] SH mem r m2 := by
  refine mk_CtI ⟨by decide, (Nat.le_of_ble_eq_true rfl)⟩ (fun X S hl hR => ?_)
  have S : Std X E prog_9_method_9_code R6 4 0 := S
  show J X E 4 0 [(0, .ref (eb E + 91)), (1, .int a1), (2, .int a2)] [] SH mem
  unfold f_M_becomes at h
  refine j_aload_n S D_M_becomes_0 0 rfl rfl ?_
  refine j_getR S D_M_becomes_1 fl_R6_9 sh_Mod rfl ?_
  refine j_iload_n S D_M_becomes_4 1 rfl rfl ?_
  obtain ⟨g_5, h⟩ := gdE h
  refine j_iald S D_M_becomes_5 sh_92 g_5 ?_
  obtain ⟨x_6, hx_6, h⟩ := ltE h
  refine j_nm hx_6 ?_
  refine j_istore_n S D_M_becomes_6 (lv := [(3, .int x_6), (0, .ref (eb E + 91)), (1, .int a1), (2, .int a2)]) rfl ⟨rfl, (Nat.le_of_ble_eq_true rfl)⟩ ?_
  refine j_aload_n S D_M_becomes_7 1 rfl rfl ?_
  refine j_getR S D_M_becomes_8 fl_R6_9 sh_Mod rfl ?_
  refine j_iload_n S D_M_becomes_11 2 rfl rfl ?_
  refine j_iload_n S D_M_becomes_12 3 rfl rfl ?_
  obtain ⟨m_13, hm_13, h⟩ := ltE h
  refine j_iast S D_M_becomes_13 sh_92 g_5 ?_
  refine j_mem hm_13 ?_
  refine j_iload_n S D_M_becomes_14 0 rfl rfl ?_
  exact rtM hR h _ _ D_M_becomes_15

def y_M_comes : MethodName := ⟨"SandPictureModel", "comes", "(III)I"⟩
theorem D_M_comes_0 : decode prog_9_method_10_code 0 = .ok (.bipush 34, 2) ∧ 0 + 2 = 2 := by decide +kernel
theorem D_M_comes_2 : decode prog_9_method_10_code 2 = .ok (.iconst 3, 1) ∧ 2 + 1 = 3 := by decide +kernel
theorem D_M_comes_3 : decode prog_9_method_10_code 3 = .ok (.aload_n 0, 1) ∧ 3 + 1 = 4 := by decide +kernel
theorem D_M_comes_4 : decode prog_9_method_10_code 4 = .ok (.getfield 9, 3) ∧ 4 + 3 = 7 := by decide +kernel
theorem D_M_comes_7 : decode prog_9_method_10_code 7 = .ok (.iconst 1, 1) ∧ 7 + 1 = 8 := by decide +kernel
theorem D_M_comes_8 : decode prog_9_method_10_code 8 = .ok (.iaload, 1) ∧ 8 + 1 = 9 := by decide +kernel
theorem D_M_comes_9 : decode prog_9_method_10_code 9 = .ok (.imul, 1) ∧ 9 + 1 = 10 := by decide +kernel
theorem D_M_comes_10 : decode prog_9_method_10_code 10 = .ok (.iadd, 1) ∧ 10 + 1 = 11 := by decide +kernel
theorem D_M_comes_11 : decode prog_9_method_10_code 11 = .ok (.istore 4, 2) ∧ 11 + 2 = 13 := by decide +kernel
theorem D_M_comes_13 : decode prog_9_method_10_code 13 = .ok (.aload_n 0, 1) ∧ 13 + 1 = 14 := by decide +kernel
theorem D_M_comes_14 : decode prog_9_method_10_code 14 = .ok (.getfield 9, 3) ∧ 14 + 3 = 17 := by decide +kernel
theorem D_M_comes_17 : decode prog_9_method_10_code 17 = .ok (.iload 4, 2) ∧ 17 + 2 = 19 := by decide +kernel
theorem D_M_comes_19 : decode prog_9_method_10_code 19 = .ok (.iload_n 1, 1) ∧ 19 + 1 = 20 := by decide +kernel
theorem D_M_comes_20 : decode prog_9_method_10_code 20 = .ok (.iastore, 1) ∧ 20 + 1 = 21 := by decide +kernel
theorem D_M_comes_21 : decode prog_9_method_10_code 21 = .ok (.aload_n 0, 1) ∧ 21 + 1 = 22 := by decide +kernel
theorem D_M_comes_22 : decode prog_9_method_10_code 22 = .ok (.getfield 9, 3) ∧ 22 + 3 = 25 := by decide +kernel
theorem D_M_comes_25 : decode prog_9_method_10_code 25 = .ok (.iload 4, 2) ∧ 25 + 2 = 27 := by decide +kernel
theorem D_M_comes_27 : decode prog_9_method_10_code 27 = .ok (.iconst 1, 1) ∧ 27 + 1 = 28 := by decide +kernel
theorem D_M_comes_28 : decode prog_9_method_10_code 28 = .ok (.iadd, 1) ∧ 28 + 1 = 29 := by decide +kernel
theorem D_M_comes_29 : decode prog_9_method_10_code 29 = .ok (.iload_n 2, 1) ∧ 29 + 1 = 30 := by decide +kernel
theorem D_M_comes_30 : decode prog_9_method_10_code 30 = .ok (.iastore, 1) ∧ 30 + 1 = 31 := by decide +kernel
theorem D_M_comes_31 : decode prog_9_method_10_code 31 = .ok (.aload_n 0, 1) ∧ 31 + 1 = 32 := by decide +kernel
theorem D_M_comes_32 : decode prog_9_method_10_code 32 = .ok (.getfield 9, 3) ∧ 32 + 3 = 35 := by decide +kernel
theorem D_M_comes_35 : decode prog_9_method_10_code 35 = .ok (.iload 4, 2) ∧ 35 + 2 = 37 := by decide +kernel
theorem D_M_comes_37 : decode prog_9_method_10_code 37 = .ok (.iconst 2, 1) ∧ 37 + 1 = 38 := by decide +kernel
theorem D_M_comes_38 : decode prog_9_method_10_code 38 = .ok (.iadd, 1) ∧ 38 + 1 = 39 := by decide +kernel
theorem D_M_comes_39 : decode prog_9_method_10_code 39 = .ok (.iload_n 3, 1) ∧ 39 + 1 = 40 := by decide +kernel
theorem D_M_comes_40 : decode prog_9_method_10_code 40 = .ok (.iastore, 1) ∧ 40 + 1 = 41 := by decide +kernel
theorem D_M_comes_41 : decode prog_9_method_10_code 41 = .ok (.aload_n 0, 1) ∧ 41 + 1 = 42 := by decide +kernel
theorem D_M_comes_42 : decode prog_9_method_10_code 42 = .ok (.getfield 9, 3) ∧ 42 + 3 = 45 := by decide +kernel
theorem D_M_comes_45 : decode prog_9_method_10_code 45 = .ok (.iconst 1, 1) ∧ 45 + 1 = 46 := by decide +kernel
theorem D_M_comes_46 : decode prog_9_method_10_code 46 = .ok (.dup2, 1) ∧ 46 + 1 = 47 := by decide +kernel
theorem D_M_comes_47 : decode prog_9_method_10_code 47 = .ok (.iaload, 1) ∧ 47 + 1 = 48 := by decide +kernel
theorem D_M_comes_48 : decode prog_9_method_10_code 48 = .ok (.iconst 1, 1) ∧ 48 + 1 = 49 := by decide +kernel
theorem D_M_comes_49 : decode prog_9_method_10_code 49 = .ok (.iadd, 1) ∧ 49 + 1 = 50 := by decide +kernel
theorem D_M_comes_50 : decode prog_9_method_10_code 50 = .ok (.iastore, 1) ∧ 50 + 1 = 51 := by decide +kernel
theorem D_M_comes_51 : decode prog_9_method_10_code 51 = .ok (.aload_n 0, 1) ∧ 51 + 1 = 52 := by decide +kernel
theorem D_M_comes_52 : decode prog_9_method_10_code 52 = .ok (.getfield 9, 3) ∧ 52 + 3 = 55 := by decide +kernel
theorem D_M_comes_55 : decode prog_9_method_10_code 55 = .ok (.iconst 1, 1) ∧ 55 + 1 = 56 := by decide +kernel
theorem D_M_comes_56 : decode prog_9_method_10_code 56 = .ok (.iaload, 1) ∧ 56 + 1 = 57 := by decide +kernel
theorem D_M_comes_57 : decode prog_9_method_10_code 57 = .ok (.iconst 1, 1) ∧ 57 + 1 = 58 := by decide +kernel
theorem D_M_comes_58 : decode prog_9_method_10_code 58 = .ok (.isub, 1) ∧ 58 + 1 = 59 := by decide +kernel
theorem D_M_comes_59 : decode prog_9_method_10_code 59 = .ok (.ireturn, 1) := by decide +kernel
def f_M_comes (a1 : Int32) (a2 : Int32) (a3 : Int32) (mem : Mm) : Option (Int32 × Mm) := lt (34 + (3 * (mem 92 (ix 1)))) fun x_11 => if inb x_11 1436 = true then lt (mst mem 92 (ix x_11) a1) fun m_20 => if inb (x_11 + 1) 1436 = true then lt (mst m_20 92 (ix (x_11 + 1)) a2) fun m_30 => if inb (x_11 + 2) 1436 = true then lt (mst m_30 92 (ix (x_11 + 2)) a3) fun m_40 => lt (mst m_40 92 (ix 1) ((m_40 92 (ix 1)) + 1)) fun m_50 => some ((m_50 92 (ix 1)) - 1, m_50) else none else none else none
theorem c_M_comes (l : Launch) (E : En) (a1 : Int32) (a2 : Int32) (a3 : Int32) {mem : Mm} {r : Int32} {m2 : Mm} (h : f_M_comes a1 a2 a3 mem = some (r, m2)) : CtI l E 0 y_M_comes prog_9_method_10_code 5 (some .int) [.ref (eb E + 91), .int a1, .int a2, .int a3] SH mem r m2 := by
  refine mk_CtI ⟨by decide, (Nat.le_of_ble_eq_true rfl)⟩ (fun X S hl hR => ?_)
  have S : Std X E prog_9_method_10_code R6 5 0 := S
  show J X E 5 0 [(0, .ref (eb E + 91)), (1, .int a1), (2, .int a2), (3, .int a3)] [] SH mem
  unfold f_M_comes at h
  refine j_bipush S D_M_comes_0 cb_34 ?_
  refine j_iconst S D_M_comes_2 ci_3 ?_
  refine j_aload_n S D_M_comes_3 0 rfl rfl ?_
  refine j_getR S D_M_comes_4 fl_R6_9 sh_Mod rfl ?_
  refine j_iconst S D_M_comes_7 ci_1 ?_
  refine j_iald S D_M_comes_8 sh_92 inbc_1_1436 ?_
  refine j_imul S D_M_comes_9 ?_
  refine j_iadd S D_M_comes_10 ?_
  obtain ⟨x_11, hx_11, h⟩ := ltE h
  refine j_nm hx_11 ?_
  refine j_istore S D_M_comes_11 (lv := [(4, .int x_11), (0, .ref (eb E + 91)), (1, .int a1), (2, .int a2), (3, .int a3)]) rfl (Nat.le_of_ble_eq_true rfl) ?_
  refine j_aload_n S D_M_comes_13 1 rfl rfl ?_
  refine j_getR S D_M_comes_14 fl_R6_9 sh_Mod rfl ?_
  refine j_iload S D_M_comes_17 0 rfl ?_
  refine j_iload_n S D_M_comes_19 2 rfl rfl ?_
  obtain ⟨g_20, h⟩ := gdE h
  obtain ⟨m_20, hm_20, h⟩ := ltE h
  refine j_iast S D_M_comes_20 sh_92 g_20 ?_
  refine j_mem hm_20 ?_
  refine j_aload_n S D_M_comes_21 1 rfl rfl ?_
  refine j_getR S D_M_comes_22 fl_R6_9 sh_Mod rfl ?_
  refine j_iload S D_M_comes_25 0 rfl ?_
  refine j_iconst S D_M_comes_27 ci_1 ?_
  refine j_iadd S D_M_comes_28 ?_
  refine j_iload_n S D_M_comes_29 3 rfl rfl ?_
  obtain ⟨g_30, h⟩ := gdE h
  obtain ⟨m_30, hm_30, h⟩ := ltE h
  refine j_iast S D_M_comes_30 sh_92 g_30 ?_
  refine j_mem hm_30 ?_
  refine j_aload_n S D_M_comes_31 1 rfl rfl ?_
  refine j_getR S D_M_comes_32 fl_R6_9 sh_Mod rfl ?_
  refine j_iload S D_M_comes_35 0 rfl ?_
  refine j_iconst S D_M_comes_37 ci_2 ?_
  refine j_iadd S D_M_comes_38 ?_
  refine j_iload_n S D_M_comes_39 4 rfl rfl ?_
  obtain ⟨g_40, h⟩ := gdE h
  obtain ⟨m_40, hm_40, h⟩ := ltE h
  refine j_iast S D_M_comes_40 sh_92 g_40 ?_
  refine j_mem hm_40 ?_
  refine j_aload_n S D_M_comes_41 1 rfl rfl ?_
  refine j_getR S D_M_comes_42 fl_R6_9 sh_Mod rfl ?_
  refine j_iconst S D_M_comes_45 ci_1 ?_
  refine j_dup2 S D_M_comes_46 ⟨rfl, rfl⟩ ?_
  refine j_iald S D_M_comes_47 sh_92 inbc_1_1436 ?_
  refine j_iconst S D_M_comes_48 ci_1 ?_
  refine j_iadd S D_M_comes_49 ?_
  obtain ⟨m_50, hm_50, h⟩ := ltE h
  refine j_iast S D_M_comes_50 sh_92 inbc_1_1436 ?_
  refine j_mem hm_50 ?_
  refine j_aload_n S D_M_comes_51 1 rfl rfl ?_
  refine j_getR S D_M_comes_52 fl_R6_9 sh_Mod rfl ?_
  refine j_iconst S D_M_comes_55 ci_1 ?_
  refine j_iald S D_M_comes_56 sh_92 inbc_1_1436 ?_
  refine j_iconst S D_M_comes_57 ci_1 ?_
  refine j_isub S D_M_comes_58 ?_
  exact rtM hR h _ _ D_M_comes_59

def y_M_monk : MethodName := ⟨"SandPictureModel", "monk", "(III)I"⟩
theorem D_M_monk_0 : decode prog_9_method_11_code 0 = .ok (.iload_n 1, 1) ∧ 0 + 1 = 1 := by decide +kernel
theorem D_M_monk_1 : decode prog_9_method_11_code 1 = .ok (.iconst 0, 1) ∧ 1 + 1 = 2 := by decide +kernel
theorem D_M_monk_2 : decode prog_9_method_11_code 2 = .ok (.iconst 5, 1) ∧ 2 + 1 = 3 := by decide +kernel
theorem D_M_monk_3 : decode prog_9_method_11_code 3 = .ok (.invokestatic 79, 3) ∧ 3 + 3 = 6 := by decide +kernel
theorem D_M_monk_6 : decode prog_9_method_11_code 6 = .ok (.ifCond .eq 20, 3) ∧ ((6 : Nat) : Int) + 20 = ((26 : Nat) : Int) ∧ 6 + 3 = 9 := by decide +kernel
theorem D_M_monk_26 : decode prog_9_method_11_code 26 = .ok (.ldc 87, 2) ∧ 26 + 2 = 28 := by decide +kernel
theorem D_M_monk_28 : decode prog_9_method_11_code 28 = .ok (.ireturn, 1) := by decide +kernel
theorem D_M_monk_9 : decode prog_9_method_11_code 9 = .ok (.iload_n 2, 1) ∧ 9 + 1 = 10 := by decide +kernel
theorem D_M_monk_10 : decode prog_9_method_11_code 10 = .ok (.iconst 1, 1) ∧ 10 + 1 = 11 := by decide +kernel
theorem D_M_monk_11 : decode prog_9_method_11_code 11 = .ok (.bipush 99, 2) ∧ 11 + 2 = 13 := by decide +kernel
theorem D_M_monk_13 : decode prog_9_method_11_code 13 = .ok (.invokestatic 79, 3) ∧ 13 + 3 = 16 := by decide +kernel
theorem D_M_monk_16 : decode prog_9_method_11_code 16 = .ok (.ifCond .eq 10, 3) ∧ ((16 : Nat) : Int) + 10 = ((26 : Nat) : Int) ∧ 16 + 3 = 19 := by decide +kernel
theorem D_M_monk_19 : decode prog_9_method_11_code 19 = .ok (.iload_n 3, 1) ∧ 19 + 1 = 20 := by decide +kernel
theorem D_M_monk_20 : decode prog_9_method_11_code 20 = .ok (.invokestatic 83, 3) ∧ 20 + 3 = 23 := by decide +kernel
theorem D_M_monk_23 : decode prog_9_method_11_code 23 = .ok (.ifCond .ne 6, 3) ∧ ((23 : Nat) : Int) + 6 = ((29 : Nat) : Int) ∧ 23 + 3 = 26 := by decide +kernel
theorem D_M_monk_29 : decode prog_9_method_11_code 29 = .ok (.aload_n 0, 1) ∧ 29 + 1 = 30 := by decide +kernel
theorem D_M_monk_30 : decode prog_9_method_11_code 30 = .ok (.getfield 9, 3) ∧ 30 + 3 = 33 := by decide +kernel
theorem D_M_monk_33 : decode prog_9_method_11_code 33 = .ok (.iconst 1, 1) ∧ 33 + 1 = 34 := by decide +kernel
theorem D_M_monk_34 : decode prog_9_method_11_code 34 = .ok (.iaload, 1) ∧ 34 + 1 = 35 := by decide +kernel
theorem D_M_monk_35 : decode prog_9_method_11_code 35 = .ok (.bipush 10, 2) ∧ 35 + 2 = 37 := by decide +kernel
theorem D_M_monk_37 : decode prog_9_method_11_code 37 = .ok (.if_icmp .ne 8, 3) ∧ ((37 : Nat) : Int) + 8 = ((45 : Nat) : Int) ∧ 37 + 3 = 40 := by decide +kernel
theorem D_M_monk_45 : decode prog_9_method_11_code 45 = .ok (.aload_n 0, 1) ∧ 45 + 1 = 46 := by decide +kernel
theorem D_M_monk_46 : decode prog_9_method_11_code 46 = .ok (.iload_n 1, 1) ∧ 46 + 1 = 47 := by decide +kernel
theorem D_M_monk_47 : decode prog_9_method_11_code 47 = .ok (.iload_n 2, 1) ∧ 47 + 1 = 48 := by decide +kernel
theorem D_M_monk_48 : decode prog_9_method_11_code 48 = .ok (.iload_n 3, 1) ∧ 48 + 1 = 49 := by decide +kernel
theorem D_M_monk_49 : decode prog_9_method_11_code 49 = .ok (.invokevirtual 89, 3) ∧ 49 + 3 = 52 := by decide +kernel
theorem D_M_monk_52 : decode prog_9_method_11_code 52 = .ok (.ireturn, 1) := by decide +kernel
theorem D_M_monk_40 : decode prog_9_method_11_code 40 = .ok (.ldc 88, 2) ∧ 40 + 2 = 42 := by decide +kernel
theorem D_M_monk_42 : decode prog_9_method_11_code 42 = .ok (.goto 10, 3) ∧ ((42 : Nat) : Int) + 10 = ((52 : Nat) : Int) := by decide +kernel
def f_M_monk (a1 : Int32) (a2 : Int32) (a3 : Int32) (mem : Mm) : Option (Int32 × Mm) := bp (f_M_in a1 0 5) fun r_3 => if r_3 = 0 then some ((-1000000001), mem) else bp (f_M_in a2 1 99) fun r_13 => if r_13 = 0 then some ((-1000000001), mem) else bp (f_M_isTable a3) fun r_20 => if r_20 = 0 then some ((-1000000001), mem) else if mem 92 (ix 1) = 10 then some ((-1000000003), mem) else bd (f_M_comes a1 a2 a3 mem) fun r_49 m_49 => some (r_49, m_49)
theorem c_M_monk (l : Launch) (E : En) (a1 : Int32) (a2 : Int32) (a3 : Int32) {mem : Mm} {r : Int32} {m2 : Mm} (h : f_M_monk a1 a2 a3 mem = some (r, m2)) : CtI l E 2 y_M_monk prog_9_method_11_code 4 (some .int) [.ref (eb E + 91), .int a1, .int a2, .int a3] SH mem r m2 := by
  refine mk_CtI ⟨by decide, (Nat.le_of_ble_eq_true rfl)⟩ (fun X S hl hR => ?_)
  have S : Std X E prog_9_method_11_code R6 4 2 := S
  show J X E 4 0 [(0, .ref (eb E + 91)), (1, .int a1), (2, .int a2), (3, .int a3)] [] SH mem
  unfold f_M_monk at h
  refine j_iload_n S D_M_monk_0 1 rfl rfl ?_
  refine j_iconst S D_M_monk_1 ci_0 ?_
  refine j_iconst S D_M_monk_2 ci_5 ?_
  obtain ⟨r_3, e_3, h⟩ := bpE h
  refine j_callSI (As := [.int a1, .int 0, .int 5]) S D_M_monk_3 ms_R6_79 (c_M_in (cxL X) E a1 0 5 (mem := mem) e_3) (by decide) rfl rfl (Nat.le_of_ble_eq_true rfl) ?_
  refine j_if_eq S D_M_monk_6 (fun c_6 => ?_) (fun c_6 => ?_)
  · have h := ifT c_6 h
    refine j_ldc S D_M_monk_26 co_R6_87 ?_
    exact rtM hR h _ _ D_M_monk_28
  · have h := ifF c_6 h
    refine j_iload_n S D_M_monk_9 2 rfl rfl ?_
    refine j_iconst S D_M_monk_10 ci_1 ?_
    refine j_bipush S D_M_monk_11 cb_99 ?_
    obtain ⟨r_13, e_13, h⟩ := bpE h
    refine j_callSI (As := [.int a2, .int 1, .int 99]) S D_M_monk_13 ms_R6_79 (c_M_in (cxL X) E a2 1 99 (mem := mem) e_13) (by decide) rfl rfl (Nat.le_of_ble_eq_true rfl) ?_
    refine j_if_eq S D_M_monk_16 (fun c_16 => ?_) (fun c_16 => ?_)
    · have h := ifT c_16 h
      refine j_ldc S D_M_monk_26 co_R6_87 ?_
      exact rtM hR h _ _ D_M_monk_28
    · have h := ifF c_16 h
      refine j_iload_n S D_M_monk_19 3 rfl rfl ?_
      obtain ⟨r_20, e_20, h⟩ := bpE h
      refine j_callSI (As := [.int a3]) S D_M_monk_20 ms_R6_83 (c_M_isTable (cxL X) E a3 (mem := mem) e_20) (by decide) rfl rfl (Nat.le_of_ble_eq_true rfl) ?_
      refine j_if_ne S D_M_monk_23 (fun c_23 => ?_) (fun c_23 => ?_)
      · have h := ifF c_23 h
        refine j_aload_n S D_M_monk_29 0 rfl rfl ?_
        refine j_getR S D_M_monk_30 fl_R6_9 sh_Mod rfl ?_
        refine j_iconst S D_M_monk_33 ci_1 ?_
        refine j_iald S D_M_monk_34 sh_92 inbc_1_1436 ?_
        refine j_bipush S D_M_monk_35 cb_10 ?_
        refine j_icmp_ne S D_M_monk_37 (fun c_37 => ?_) (fun c_37 => ?_)
        · have h := ifF c_37 h
          refine j_aload_n S D_M_monk_45 0 rfl rfl ?_
          refine j_iload_n S D_M_monk_46 1 rfl rfl ?_
          refine j_iload_n S D_M_monk_47 2 rfl rfl ?_
          refine j_iload_n S D_M_monk_48 3 rfl rfl ?_
          obtain ⟨r_49, m_49, e_49, h⟩ := bdE h
          refine j_callVI (As := [.int a1, .int a2, .int a3]) S D_M_monk_49 mv_R6_89 (c_M_comes (cxL X) E a1 a2 a3 e_49) (by decide) sh_Mod rfl rfl rfl rfl (Nat.le_of_ble_eq_true rfl) ?_
          exact rtM hR h _ _ D_M_monk_52
        · have h := ifT c_37 h
          refine j_ldc S D_M_monk_40 co_R6_88 ?_
          refine j_goto S D_M_monk_42 ?_
          exact rtM hR h _ _ D_M_monk_52
      · have h := ifT c_23 h
        refine j_ldc S D_M_monk_26 co_R6_87 ?_
        exact rtM hR h _ _ D_M_monk_28

def y_M_worthOf : MethodName := ⟨"SandPictureModel", "worthOf", "(I)I"⟩
theorem D_M_worthOf_0 : decode prog_9_method_12_code 0 = .ok (.aload_n 0, 1) ∧ 0 + 1 = 1 := by decide +kernel
theorem D_M_worthOf_1 : decode prog_9_method_12_code 1 = .ok (.iload_n 1, 1) ∧ 1 + 1 = 2 := by decide +kernel
theorem D_M_worthOf_2 : decode prog_9_method_12_code 2 = .ok (.iconst 1, 1) ∧ 2 + 1 = 3 := by decide +kernel
theorem D_M_worthOf_3 : decode prog_9_method_12_code 3 = .ok (.invokevirtual 93, 3) ∧ 3 + 3 = 6 := by decide +kernel
theorem D_M_worthOf_6 : decode prog_9_method_12_code 6 = .ok (.istore_n 2, 1) ∧ 6 + 1 = 7 := by decide +kernel
theorem D_M_worthOf_7 : decode prog_9_method_12_code 7 = .ok (.aload_n 0, 1) ∧ 7 + 1 = 8 := by decide +kernel
theorem D_M_worthOf_8 : decode prog_9_method_12_code 8 = .ok (.iload_n 1, 1) ∧ 8 + 1 = 9 := by decide +kernel
theorem D_M_worthOf_9 : decode prog_9_method_12_code 9 = .ok (.iconst 0, 1) ∧ 9 + 1 = 10 := by decide +kernel
theorem D_M_worthOf_10 : decode prog_9_method_12_code 10 = .ok (.invokevirtual 93, 3) ∧ 10 + 3 = 13 := by decide +kernel
theorem D_M_worthOf_13 : decode prog_9_method_12_code 13 = .ok (.tableswitch 59 1 5 #[35, 40, 45, 52, 57], 35) := by decide +kernel
theorem D_M_worthOf_48 : decode prog_9_method_12_code 48 = .ok (.iload_n 2, 1) ∧ 48 + 1 = 49 := by decide +kernel
theorem D_M_worthOf_49 : decode prog_9_method_12_code 49 = .ok (.bipush 6, 2) ∧ 49 + 2 = 51 := by decide +kernel
theorem D_M_worthOf_51 : decode prog_9_method_12_code 51 = .ok (.iadd, 1) ∧ 51 + 1 = 52 := by decide +kernel
theorem D_M_worthOf_52 : decode prog_9_method_12_code 52 = .ok (.ireturn, 1) := by decide +kernel
theorem D_M_worthOf_53 : decode prog_9_method_12_code 53 = .ok (.bipush 99, 2) ∧ 53 + 2 = 55 := by decide +kernel
theorem D_M_worthOf_55 : decode prog_9_method_12_code 55 = .ok (.iload_n 2, 1) ∧ 55 + 1 = 56 := by decide +kernel
theorem D_M_worthOf_56 : decode prog_9_method_12_code 56 = .ok (.isub, 1) ∧ 56 + 1 = 57 := by decide +kernel
theorem D_M_worthOf_57 : decode prog_9_method_12_code 57 = .ok (.ireturn, 1) := by decide +kernel
theorem D_M_worthOf_58 : decode prog_9_method_12_code 58 = .ok (.iconst 2, 1) ∧ 58 + 1 = 59 := by decide +kernel
theorem D_M_worthOf_59 : decode prog_9_method_12_code 59 = .ok (.iload_n 2, 1) ∧ 59 + 1 = 60 := by decide +kernel
theorem D_M_worthOf_60 : decode prog_9_method_12_code 60 = .ok (.bipush 6, 2) ∧ 60 + 2 = 62 := by decide +kernel
theorem D_M_worthOf_62 : decode prog_9_method_12_code 62 = .ok (.iadd, 1) ∧ 62 + 1 = 63 := by decide +kernel
theorem D_M_worthOf_63 : decode prog_9_method_12_code 63 = .ok (.imul, 1) ∧ 63 + 1 = 64 := by decide +kernel
theorem D_M_worthOf_64 : decode prog_9_method_12_code 64 = .ok (.ireturn, 1) := by decide +kernel
theorem D_M_worthOf_65 : decode prog_9_method_12_code 65 = .ok (.bipush 90, 2) ∧ 65 + 2 = 67 := by decide +kernel
theorem D_M_worthOf_67 : decode prog_9_method_12_code 67 = .ok (.iload_n 2, 1) ∧ 67 + 1 = 68 := by decide +kernel
theorem D_M_worthOf_68 : decode prog_9_method_12_code 68 = .ok (.isub, 1) ∧ 68 + 1 = 69 := by decide +kernel
theorem D_M_worthOf_69 : decode prog_9_method_12_code 69 = .ok (.ireturn, 1) := by decide +kernel
theorem D_M_worthOf_70 : decode prog_9_method_12_code 70 = .ok (.iconst 4, 1) ∧ 70 + 1 = 71 := by decide +kernel
theorem D_M_worthOf_71 : decode prog_9_method_12_code 71 = .ok (.ireturn, 1) := by decide +kernel
theorem D_M_worthOf_72 : decode prog_9_method_12_code 72 = .ok (.iload_n 2, 1) ∧ 72 + 1 = 73 := by decide +kernel
theorem D_M_worthOf_73 : decode prog_9_method_12_code 73 = .ok (.ireturn, 1) := by decide +kernel
theorem D_M_worthOf_13o : decode prog_9_method_12_code 13 = .ok (.tableswitch 59 1 5 #[35, 40, 45, 52, 57], 35) ∧ ((13 : Nat) : Int) + 59 = ((72 : Nat) : Int) := by decide +kernel
def f_M_worthOf (a1 : Int32) (mem : Mm) : Option (Int32) := bp (f_M_of a1 1 mem) fun r_3 => bp (f_M_of a1 0 mem) fun r_10 => if r_10 = 1 then some (r_3 + 6) else if r_10 = 2 then some (99 - r_3) else if r_10 = 3 then some (2 * (r_3 + 6)) else if r_10 = 4 then some (90 - r_3) else if r_10 = 5 then some 4 else some r_3
theorem c_M_worthOf (l : Launch) (E : En) (a1 : Int32) {mem : Mm} {r : Int32} (h : f_M_worthOf a1 mem = some r) : CtI l E 1 y_M_worthOf prog_9_method_12_code 3 (some .int) [.ref (eb E + 91), .int a1] SH mem r mem := by
  refine mk_CtI ⟨by decide, (Nat.le_of_ble_eq_true rfl)⟩ (fun X S hl hR => ?_)
  have S : Std X E prog_9_method_12_code R6 3 1 := S
  show J X E 3 0 [(0, .ref (eb E + 91)), (1, .int a1)] [] SH mem
  unfold f_M_worthOf at h
  refine j_aload_n S D_M_worthOf_0 0 rfl rfl ?_
  refine j_iload_n S D_M_worthOf_1 1 rfl rfl ?_
  refine j_iconst S D_M_worthOf_2 ci_1 ?_
  obtain ⟨r_3, e_3, h⟩ := bpE h
  refine j_callVI (As := [.int a1, .int 1]) S D_M_worthOf_3 mv_R6_93 (c_M_of (cxL X) E a1 1 e_3) (by decide) sh_Mod rfl rfl rfl rfl (Nat.le_of_ble_eq_true rfl) ?_
  refine j_istore_n S D_M_worthOf_6 (lv := [(2, .int r_3), (0, .ref (eb E + 91)), (1, .int a1)]) rfl ⟨rfl, (Nat.le_of_ble_eq_true rfl)⟩ ?_
  refine j_aload_n S D_M_worthOf_7 1 rfl rfl ?_
  refine j_iload_n S D_M_worthOf_8 2 rfl rfl ?_
  refine j_iconst S D_M_worthOf_9 ci_0 ?_
  obtain ⟨r_10, e_10, h⟩ := bpE h
  refine j_callVI (As := [.int a1, .int 0]) S D_M_worthOf_10 mv_R6_93 (c_M_of (cxL X) E a1 0 e_10) (by decide) sh_Mod rfl rfl rfl rfl (Nat.le_of_ble_eq_true rfl) ?_
  by_cases c_13_0 : r_10 = 1
  · have h := ifT c_13_0 h
    refine j_tabIn (tg := 48) (off := 35) S D_M_worthOf_13 1 c_13_0 (by decide +kernel) ?_
    refine j_iload_n S D_M_worthOf_48 0 rfl rfl ?_
    refine j_bipush S D_M_worthOf_49 cb_6 ?_
    refine j_iadd S D_M_worthOf_51 ?_
    exact rtI hR h _ _ D_M_worthOf_52
  · have h := ifF c_13_0 h
    by_cases c_13_1 : r_10 = 2
    · have h := ifT c_13_1 h
      refine j_tabIn (tg := 53) (off := 40) S D_M_worthOf_13 2 c_13_1 (by decide +kernel) ?_
      refine j_bipush S D_M_worthOf_53 cb_99 ?_
      refine j_iload_n S D_M_worthOf_55 0 rfl rfl ?_
      refine j_isub S D_M_worthOf_56 ?_
      exact rtI hR h _ _ D_M_worthOf_57
    · have h := ifF c_13_1 h
      by_cases c_13_2 : r_10 = 3
      · have h := ifT c_13_2 h
        refine j_tabIn (tg := 58) (off := 45) S D_M_worthOf_13 3 c_13_2 (by decide +kernel) ?_
        refine j_iconst S D_M_worthOf_58 ci_2 ?_
        refine j_iload_n S D_M_worthOf_59 0 rfl rfl ?_
        refine j_bipush S D_M_worthOf_60 cb_6 ?_
        refine j_iadd S D_M_worthOf_62 ?_
        refine j_imul S D_M_worthOf_63 ?_
        exact rtI hR h _ _ D_M_worthOf_64
      · have h := ifF c_13_2 h
        by_cases c_13_3 : r_10 = 4
        · have h := ifT c_13_3 h
          refine j_tabIn (tg := 65) (off := 52) S D_M_worthOf_13 4 c_13_3 (by decide +kernel) ?_
          refine j_bipush S D_M_worthOf_65 cb_90 ?_
          refine j_iload_n S D_M_worthOf_67 0 rfl rfl ?_
          refine j_isub S D_M_worthOf_68 ?_
          exact rtI hR h _ _ D_M_worthOf_69
        · have h := ifF c_13_3 h
          by_cases c_13_4 : r_10 = 5
          · have h := ifT c_13_4 h
            refine j_tabIn (tg := 70) (off := 57) S D_M_worthOf_13 5 c_13_4 (by decide +kernel) ?_
            refine j_iconst S D_M_worthOf_70 ci_4 ?_
            exact rtI hR h _ _ D_M_worthOf_71
          · have h := ifF c_13_4 h
            refine j_tabOut S D_M_worthOf_13o (tout_1_5 c_13_0 c_13_1 c_13_2 c_13_3 c_13_4) ?_
            refine j_iload_n S D_M_worthOf_72 0 rfl rfl ?_
            exact rtI hR h _ _ D_M_worthOf_73

def y_M_told : MethodName := ⟨"SandPictureModel", "told", "(II)I"⟩
theorem D_M_told_0 : decode prog_9_method_13_code 0 = .ok (.aload_n 0, 1) ∧ 0 + 1 = 1 := by decide +kernel
theorem D_M_told_1 : decode prog_9_method_13_code 1 = .ok (.iload_n 1, 1) ∧ 1 + 1 = 2 := by decide +kernel
theorem D_M_told_2 : decode prog_9_method_13_code 2 = .ok (.invokevirtual 97, 3) ∧ 2 + 3 = 5 := by decide +kernel
theorem D_M_told_5 : decode prog_9_method_13_code 5 = .ok (.ifCond .eq 12, 3) ∧ ((5 : Nat) : Int) + 12 = ((17 : Nat) : Int) ∧ 5 + 3 = 8 := by decide +kernel
theorem D_M_told_17 : decode prog_9_method_13_code 17 = .ok (.ldc 87, 2) ∧ 17 + 2 = 19 := by decide +kernel
theorem D_M_told_19 : decode prog_9_method_13_code 19 = .ok (.ireturn, 1) := by decide +kernel
theorem D_M_told_8 : decode prog_9_method_13_code 8 = .ok (.iload_n 2, 1) ∧ 8 + 1 = 9 := by decide +kernel
theorem D_M_told_9 : decode prog_9_method_13_code 9 = .ok (.iconst 0, 1) ∧ 9 + 1 = 10 := by decide +kernel
theorem D_M_told_10 : decode prog_9_method_13_code 10 = .ok (.iconst 3, 1) ∧ 10 + 1 = 11 := by decide +kernel
theorem D_M_told_11 : decode prog_9_method_13_code 11 = .ok (.invokestatic 79, 3) ∧ 11 + 3 = 14 := by decide +kernel
theorem D_M_told_14 : decode prog_9_method_13_code 14 = .ok (.ifCond .ne 6, 3) ∧ ((14 : Nat) : Int) + 6 = ((20 : Nat) : Int) ∧ 14 + 3 = 17 := by decide +kernel
theorem D_M_told_20 : decode prog_9_method_13_code 20 = .ok (.iload_n 2, 1) ∧ 20 + 1 = 21 := by decide +kernel
theorem D_M_told_21 : decode prog_9_method_13_code 21 = .ok (.iconst 3, 1) ∧ 21 + 1 = 22 := by decide +kernel
theorem D_M_told_22 : decode prog_9_method_13_code 22 = .ok (.if_icmp .ge 12, 3) ∧ ((22 : Nat) : Int) + 12 = ((34 : Nat) : Int) ∧ 22 + 3 = 25 := by decide +kernel
theorem D_M_told_34 : decode prog_9_method_13_code 34 = .ok (.aload_n 0, 1) ∧ 34 + 1 = 35 := by decide +kernel
theorem D_M_told_35 : decode prog_9_method_13_code 35 = .ok (.iload_n 1, 1) ∧ 35 + 1 = 36 := by decide +kernel
theorem D_M_told_36 : decode prog_9_method_13_code 36 = .ok (.invokevirtual 100, 3) ∧ 36 + 3 = 39 := by decide +kernel
theorem D_M_told_39 : decode prog_9_method_13_code 39 = .ok (.ireturn, 1) := by decide +kernel
theorem D_M_told_25 : decode prog_9_method_13_code 25 = .ok (.aload_n 0, 1) ∧ 25 + 1 = 26 := by decide +kernel
theorem D_M_told_26 : decode prog_9_method_13_code 26 = .ok (.iload_n 1, 1) ∧ 26 + 1 = 27 := by decide +kernel
theorem D_M_told_27 : decode prog_9_method_13_code 27 = .ok (.iload_n 2, 1) ∧ 27 + 1 = 28 := by decide +kernel
theorem D_M_told_28 : decode prog_9_method_13_code 28 = .ok (.invokevirtual 93, 3) ∧ 28 + 3 = 31 := by decide +kernel
theorem D_M_told_31 : decode prog_9_method_13_code 31 = .ok (.goto 8, 3) ∧ ((31 : Nat) : Int) + 8 = ((39 : Nat) : Int) := by decide +kernel
def f_M_told (a1 : Int32) (a2 : Int32) (mem : Mm) : Option (Int32) := bp (f_M_isMonk a1 mem) fun r_2 => if r_2 = 0 then some (-1000000001) else bp (f_M_in a2 0 3) fun r_11 => if r_11 = 0 then some (-1000000001) else if 3 ≤ a2 then bp (f_M_worthOf a1 mem) fun r_36 => some r_36 else bp (f_M_of a1 a2 mem) fun r_28 => some r_28
theorem c_M_told (l : Launch) (E : En) (a1 : Int32) (a2 : Int32) {mem : Mm} {r : Int32} (h : f_M_told a1 a2 mem = some r) : CtI l E 2 y_M_told prog_9_method_13_code 3 (some .int) [.ref (eb E + 91), .int a1, .int a2] SH mem r mem := by
  refine mk_CtI ⟨by decide, (Nat.le_of_ble_eq_true rfl)⟩ (fun X S hl hR => ?_)
  have S : Std X E prog_9_method_13_code R6 3 2 := S
  show J X E 3 0 [(0, .ref (eb E + 91)), (1, .int a1), (2, .int a2)] [] SH mem
  unfold f_M_told at h
  refine j_aload_n S D_M_told_0 0 rfl rfl ?_
  refine j_iload_n S D_M_told_1 1 rfl rfl ?_
  obtain ⟨r_2, e_2, h⟩ := bpE h
  refine j_callVI (As := [.int a1]) S D_M_told_2 mv_R6_97 (c_M_isMonk (cxL X) E a1 e_2) (by decide) sh_Mod rfl rfl rfl rfl (Nat.le_of_ble_eq_true rfl) ?_
  refine j_if_eq S D_M_told_5 (fun c_5 => ?_) (fun c_5 => ?_)
  · have h := ifT c_5 h
    refine j_ldc S D_M_told_17 co_R6_87 ?_
    exact rtI hR h _ _ D_M_told_19
  · have h := ifF c_5 h
    refine j_iload_n S D_M_told_8 2 rfl rfl ?_
    refine j_iconst S D_M_told_9 ci_0 ?_
    refine j_iconst S D_M_told_10 ci_3 ?_
    obtain ⟨r_11, e_11, h⟩ := bpE h
    refine j_callSI (As := [.int a2, .int 0, .int 3]) S D_M_told_11 ms_R6_79 (c_M_in (cxL X) E a2 0 3 (mem := mem) e_11) (by decide) rfl rfl (Nat.le_of_ble_eq_true rfl) ?_
    refine j_if_ne S D_M_told_14 (fun c_14 => ?_) (fun c_14 => ?_)
    · have h := ifF c_14 h
      refine j_iload_n S D_M_told_20 2 rfl rfl ?_
      refine j_iconst S D_M_told_21 ci_3 ?_
      refine j_icmp_ge S D_M_told_22 (fun c_22 => ?_) (fun c_22 => ?_)
      · have h := ifT c_22 h
        refine j_aload_n S D_M_told_34 0 rfl rfl ?_
        refine j_iload_n S D_M_told_35 1 rfl rfl ?_
        obtain ⟨r_36, e_36, h⟩ := bpE h
        refine j_callVI (As := [.int a1]) S D_M_told_36 mv_R6_100 (c_M_worthOf (cxL X) E a1 e_36) (by decide) sh_Mod rfl rfl rfl rfl (Nat.le_of_ble_eq_true rfl) ?_
        exact rtI hR h _ _ D_M_told_39
      · have h := ifF c_22 h
        refine j_aload_n S D_M_told_25 0 rfl rfl ?_
        refine j_iload_n S D_M_told_26 1 rfl rfl ?_
        refine j_iload_n S D_M_told_27 2 rfl rfl ?_
        obtain ⟨r_28, e_28, h⟩ := bpE h
        refine j_callVI (As := [.int a1, .int a2]) S D_M_told_28 mv_R6_93 (c_M_of (cxL X) E a1 a2 e_28) (by decide) sh_Mod rfl rfl rfl rfl (Nat.le_of_ble_eq_true rfl) ?_
        refine j_goto S D_M_told_31 ?_
        exact rtI hR h _ _ D_M_told_39
    · have h := ifT c_14 h
      refine j_ldc S D_M_told_17 co_R6_87 ?_
      exact rtI hR h _ _ D_M_told_19

def y_M_counts : MethodName := ⟨"SandPictureModel", "counts", "(I)I"⟩
theorem D_M_counts_0 : decode prog_9_method_66_code 0 = .ok (.aload_n 0, 1) ∧ 0 + 1 = 1 := by decide +kernel
theorem D_M_counts_1 : decode prog_9_method_66_code 1 = .ok (.getfield 9, 3) ∧ 1 + 3 = 4 := by decide +kernel
theorem D_M_counts_4 : decode prog_9_method_66_code 4 = .ok (.bipush 6, 2) ∧ 4 + 2 = 6 := by decide +kernel
theorem D_M_counts_6 : decode prog_9_method_66_code 6 = .ok (.iaload, 1) ∧ 6 + 1 = 7 := by decide +kernel
theorem D_M_counts_7 : decode prog_9_method_66_code 7 = .ok (.iconst 1, 1) ∧ 7 + 1 = 8 := by decide +kernel
theorem D_M_counts_8 : decode prog_9_method_66_code 8 = .ok (.isub, 1) ∧ 8 + 1 = 9 := by decide +kernel
theorem D_M_counts_9 : decode prog_9_method_66_code 9 = .ok (.istore_n 2, 1) ∧ 9 + 1 = 10 := by decide +kernel
theorem D_M_counts_10 : decode prog_9_method_66_code 10 = .ok (.iload_n 2, 1) ∧ 10 + 1 = 11 := by decide +kernel
theorem D_M_counts_11 : decode prog_9_method_66_code 11 = .ok (.ifCond .lt 30, 3) ∧ ((11 : Nat) : Int) + 30 = ((41 : Nat) : Int) ∧ 11 + 3 = 14 := by decide +kernel
theorem D_M_counts_41 : decode prog_9_method_66_code 41 = .ok (.iconst (-1), 1) ∧ 41 + 1 = 42 := by decide +kernel
theorem D_M_counts_42 : decode prog_9_method_66_code 42 = .ok (.ireturn, 1) := by decide +kernel
theorem D_M_counts_14 : decode prog_9_method_66_code 14 = .ok (.aload_n 0, 1) ∧ 14 + 1 = 15 := by decide +kernel
theorem D_M_counts_15 : decode prog_9_method_66_code 15 = .ok (.getfield 9, 3) ∧ 15 + 3 = 18 := by decide +kernel
theorem D_M_counts_18 : decode prog_9_method_66_code 18 = .ok (.bipush 64, 2) ∧ 18 + 2 = 20 := by decide +kernel
theorem D_M_counts_20 : decode prog_9_method_66_code 20 = .ok (.iconst 2, 1) ∧ 20 + 1 = 21 := by decide +kernel
theorem D_M_counts_21 : decode prog_9_method_66_code 21 = .ok (.iload_n 2, 1) ∧ 21 + 1 = 22 := by decide +kernel
theorem D_M_counts_22 : decode prog_9_method_66_code 22 = .ok (.imul, 1) ∧ 22 + 1 = 23 := by decide +kernel
theorem D_M_counts_23 : decode prog_9_method_66_code 23 = .ok (.iadd, 1) ∧ 23 + 1 = 24 := by decide +kernel
theorem D_M_counts_24 : decode prog_9_method_66_code 24 = .ok (.iaload, 1) ∧ 24 + 1 = 25 := by decide +kernel
theorem D_M_counts_25 : decode prog_9_method_66_code 25 = .ok (.sipush 1000, 3) ∧ 25 + 3 = 28 := by decide +kernel
theorem D_M_counts_28 : decode prog_9_method_66_code 28 = .ok (.idiv, 1) ∧ 28 + 1 = 29 := by decide +kernel
theorem D_M_counts_29 : decode prog_9_method_66_code 29 = .ok (.iload_n 1, 1) ∧ 29 + 1 = 30 := by decide +kernel
theorem D_M_counts_30 : decode prog_9_method_66_code 30 = .ok (.if_icmp .ne 5, 3) ∧ ((30 : Nat) : Int) + 5 = ((35 : Nat) : Int) ∧ 30 + 3 = 33 := by decide +kernel
theorem D_M_counts_35 : decode prog_9_method_66_code 35 = .ok (.iinc 2 (-1), 3) ∧ 35 + 3 = 38 := by decide +kernel
theorem D_M_counts_38 : decode prog_9_method_66_code 38 = .ok (.goto (-28), 3) ∧ ((38 : Nat) : Int) + (-28) = ((10 : Nat) : Int) := by decide +kernel
theorem D_M_counts_33 : decode prog_9_method_66_code 33 = .ok (.iload_n 2, 1) ∧ 33 + 1 = 34 := by decide +kernel
theorem D_M_counts_34 : decode prog_9_method_66_code 34 = .ok (.ireturn, 1) := by decide +kernel
def f_M_counts_L10  : Nat → Int32 → Int32 → Mm → Option Int32
  | 0, _, _, _ => none
  | n + 1, b1, b2, mem => if b2 < 0 then some (-1) else if inb (64 + (2 * b2)) 1436 = true then if ((mem 92 (ix (64 + (2 * b2)))) / 1000) = b1 then some b2 else f_M_counts_L10 n b1 (b2 + (-1)) mem else none
def f_M_counts (N : Nat) (a1 : Int32) (mem : Mm) : Option (Int32) := lt ((mem 92 (ix 6)) - 1) fun x_9 => f_M_counts_L10 N a1 x_9 mem
theorem L_M_counts_10 {X : Cx} {E : En} (S : Std X E prog_9_method_66_code R6 3 0)  {r : Int32} {mem : Mm} (hR : RetI X E prog_9_method_66_code 3 SH r mem) : ∀ (n : Nat) (b1 : Int32) (b2 : Int32), f_M_counts_L10 n b1 b2 mem = some r → J X E 3 10 [(0, .ref (eb E + 91)), (1, .int b1), (2, .int b2)] [] SH mem := by
  intro n
  induction n with
  | zero =>
    intro b1 b2 h; cases h
  | succ n ih =>
    intro b1 b2 h
    rw [f_M_counts_L10] at h
    refine j_iload_n S D_M_counts_10 2 rfl rfl ?_
    refine j_if_lt S D_M_counts_11 (fun c_11 => ?_) (fun c_11 => ?_)
    · have h := ifT c_11 h
      refine j_iconst S D_M_counts_41 ci_m1 ?_
      exact rtI hR h _ _ D_M_counts_42
    · have h := ifF c_11 h
      refine j_aload_n S D_M_counts_14 0 rfl rfl ?_
      refine j_getR S D_M_counts_15 fl_R6_9 sh_Mod rfl ?_
      refine j_bipush S D_M_counts_18 cb_64 ?_
      refine j_iconst S D_M_counts_20 ci_2 ?_
      refine j_iload_n S D_M_counts_21 2 rfl rfl ?_
      refine j_imul S D_M_counts_22 ?_
      refine j_iadd S D_M_counts_23 ?_
      obtain ⟨g_24, h⟩ := gdE h
      refine j_iald S D_M_counts_24 sh_92 g_24 ?_
      refine j_sipush S D_M_counts_25 cs_1000 ?_
      refine j_idiv S D_M_counts_28 nz_1000 ?_
      refine j_iload_n S D_M_counts_29 1 rfl rfl ?_
      refine j_icmp_ne S D_M_counts_30 (fun c_30 => ?_) (fun c_30 => ?_)
      · have h := ifF c_30 h
        refine j_iinc S D_M_counts_35 2 rfl (congrArg (fun z => b2 + z) ci_m1) (lv := [(2, .int (b2 + (-1))), (0, .ref (eb E + 91)), (1, .int b1)]) rfl (Nat.le_of_ble_eq_true rfl) ?_
        refine j_goto S D_M_counts_38 ?_
        refine j_locals [1, 2, 0] rfl (ih b1 (b2 + (-1)) h)
      · have h := ifT c_30 h
        refine j_iload_n S D_M_counts_33 2 rfl rfl ?_
        exact rtI hR h _ _ D_M_counts_34
theorem c_M_counts (l : Launch) (E : En) (N : Nat) (a1 : Int32) {mem : Mm} {r : Int32} (h : f_M_counts N a1 mem = some r) : CtI l E 0 y_M_counts prog_9_method_66_code 3 (some .int) [.ref (eb E + 91), .int a1] SH mem r mem := by
  refine mk_CtI ⟨by decide, (Nat.le_of_ble_eq_true rfl)⟩ (fun X S hl hR => ?_)
  have S : Std X E prog_9_method_66_code R6 3 0 := S
  show J X E 3 0 [(0, .ref (eb E + 91)), (1, .int a1)] [] SH mem
  unfold f_M_counts at h
  refine j_aload_n S D_M_counts_0 0 rfl rfl ?_
  refine j_getR S D_M_counts_1 fl_R6_9 sh_Mod rfl ?_
  refine j_bipush S D_M_counts_4 cb_6 ?_
  refine j_iald S D_M_counts_6 sh_92 inbc_6_1436 ?_
  refine j_iconst S D_M_counts_7 ci_1 ?_
  refine j_isub S D_M_counts_8 ?_
  obtain ⟨x_9, hx_9, h⟩ := ltE h
  refine j_nm hx_9 ?_
  refine j_istore_n S D_M_counts_9 (lv := [(2, .int x_9), (0, .ref (eb E + 91)), (1, .int a1)]) rfl ⟨rfl, (Nat.le_of_ble_eq_true rfl)⟩ ?_
  refine j_locals [1, 2, 0] rfl ?_
  exact L_M_counts_10 S  hR N a1 x_9 h

def y_M_two : MethodName := ⟨"SandPictureModel", "two", "(III)I"⟩
theorem D_M_two_0 : decode prog_9_method_68_code 0 = .ok (.iload_n 0, 1) ∧ 0 + 1 = 1 := by decide +kernel
theorem D_M_two_1 : decode prog_9_method_68_code 1 = .ok (.tableswitch 120 (-8) (-1) #[116, 112, 108, 97, 86, 75, 61, 47], 47) := by decide +kernel
theorem D_M_two_117 : decode prog_9_method_68_code 117 = .ok (.iload_n 1, 1) ∧ 117 + 1 = 118 := by decide +kernel
theorem D_M_two_118 : decode prog_9_method_68_code 118 = .ok (.iload_n 2, 1) ∧ 118 + 1 = 119 := by decide +kernel
theorem D_M_two_119 : decode prog_9_method_68_code 119 = .ok (.imul, 1) ∧ 119 + 1 = 120 := by decide +kernel
theorem D_M_two_120 : decode prog_9_method_68_code 120 = .ok (.ireturn, 1) := by decide +kernel
theorem D_M_two_113 : decode prog_9_method_68_code 113 = .ok (.iload_n 1, 1) ∧ 113 + 1 = 114 := by decide +kernel
theorem D_M_two_114 : decode prog_9_method_68_code 114 = .ok (.iload_n 2, 1) ∧ 114 + 1 = 115 := by decide +kernel
theorem D_M_two_115 : decode prog_9_method_68_code 115 = .ok (.isub, 1) ∧ 115 + 1 = 116 := by decide +kernel
theorem D_M_two_116 : decode prog_9_method_68_code 116 = .ok (.ireturn, 1) := by decide +kernel
theorem D_M_two_109 : decode prog_9_method_68_code 109 = .ok (.iload_n 1, 1) ∧ 109 + 1 = 110 := by decide +kernel
theorem D_M_two_110 : decode prog_9_method_68_code 110 = .ok (.iload_n 2, 1) ∧ 110 + 1 = 111 := by decide +kernel
theorem D_M_two_111 : decode prog_9_method_68_code 111 = .ok (.iadd, 1) ∧ 111 + 1 = 112 := by decide +kernel
theorem D_M_two_112 : decode prog_9_method_68_code 112 = .ok (.ireturn, 1) := by decide +kernel
theorem D_M_two_98 : decode prog_9_method_68_code 98 = .ok (.iload_n 1, 1) ∧ 98 + 1 = 99 := by decide +kernel
theorem D_M_two_99 : decode prog_9_method_68_code 99 = .ok (.iload_n 2, 1) ∧ 99 + 1 = 100 := by decide +kernel
theorem D_M_two_107 : decode prog_9_method_68_code 107 = .ok (.iconst 0, 1) ∧ 107 + 1 = 108 := by decide +kernel
theorem D_M_two_103 : decode prog_9_method_68_code 103 = .ok (.iconst 1, 1) ∧ 103 + 1 = 104 := by decide +kernel
theorem D_M_two_104 : decode prog_9_method_68_code 104 = .ok (.goto 4, 3) ∧ ((104 : Nat) : Int) + 4 = ((108 : Nat) : Int) := by decide +kernel
theorem D_M_two_100 : decode prog_9_method_68_code 100 = .ok (.if_icmp .le 7, 3) ∧ ((100 : Nat) : Int) + 7 = ((107 : Nat) : Int) ∧ 100 + 3 = 103 := by decide +kernel
theorem D_M_two_108 : decode prog_9_method_68_code 108 = .ok (.ireturn, 1) := by decide +kernel
theorem D_M_two_87 : decode prog_9_method_68_code 87 = .ok (.iload_n 1, 1) ∧ 87 + 1 = 88 := by decide +kernel
theorem D_M_two_88 : decode prog_9_method_68_code 88 = .ok (.iload_n 2, 1) ∧ 88 + 1 = 89 := by decide +kernel
theorem D_M_two_96 : decode prog_9_method_68_code 96 = .ok (.iconst 0, 1) ∧ 96 + 1 = 97 := by decide +kernel
theorem D_M_two_92 : decode prog_9_method_68_code 92 = .ok (.iconst 1, 1) ∧ 92 + 1 = 93 := by decide +kernel
theorem D_M_two_93 : decode prog_9_method_68_code 93 = .ok (.goto 4, 3) ∧ ((93 : Nat) : Int) + 4 = ((97 : Nat) : Int) := by decide +kernel
theorem D_M_two_89 : decode prog_9_method_68_code 89 = .ok (.if_icmp .ne 7, 3) ∧ ((89 : Nat) : Int) + 7 = ((96 : Nat) : Int) ∧ 89 + 3 = 92 := by decide +kernel
theorem D_M_two_97 : decode prog_9_method_68_code 97 = .ok (.ireturn, 1) := by decide +kernel
theorem D_M_two_76 : decode prog_9_method_68_code 76 = .ok (.iload_n 1, 1) ∧ 76 + 1 = 77 := by decide +kernel
theorem D_M_two_77 : decode prog_9_method_68_code 77 = .ok (.iload_n 2, 1) ∧ 77 + 1 = 78 := by decide +kernel
theorem D_M_two_85 : decode prog_9_method_68_code 85 = .ok (.iconst 0, 1) ∧ 85 + 1 = 86 := by decide +kernel
theorem D_M_two_81 : decode prog_9_method_68_code 81 = .ok (.iconst 1, 1) ∧ 81 + 1 = 82 := by decide +kernel
theorem D_M_two_82 : decode prog_9_method_68_code 82 = .ok (.goto 4, 3) ∧ ((82 : Nat) : Int) + 4 = ((86 : Nat) : Int) := by decide +kernel
theorem D_M_two_78 : decode prog_9_method_68_code 78 = .ok (.if_icmp .ge 7, 3) ∧ ((78 : Nat) : Int) + 7 = ((85 : Nat) : Int) ∧ 78 + 3 = 81 := by decide +kernel
theorem D_M_two_86 : decode prog_9_method_68_code 86 = .ok (.ireturn, 1) := by decide +kernel
theorem D_M_two_62 : decode prog_9_method_68_code 62 = .ok (.iload_n 1, 1) ∧ 62 + 1 = 63 := by decide +kernel
theorem D_M_two_74 : decode prog_9_method_68_code 74 = .ok (.iconst 0, 1) ∧ 74 + 1 = 75 := by decide +kernel
theorem D_M_two_66 : decode prog_9_method_68_code 66 = .ok (.iload_n 2, 1) ∧ 66 + 1 = 67 := by decide +kernel
theorem D_M_two_70 : decode prog_9_method_68_code 70 = .ok (.iconst 1, 1) ∧ 70 + 1 = 71 := by decide +kernel
theorem D_M_two_71 : decode prog_9_method_68_code 71 = .ok (.goto 4, 3) ∧ ((71 : Nat) : Int) + 4 = ((75 : Nat) : Int) := by decide +kernel
theorem D_M_two_67 : decode prog_9_method_68_code 67 = .ok (.ifCond .eq 7, 3) ∧ ((67 : Nat) : Int) + 7 = ((74 : Nat) : Int) ∧ 67 + 3 = 70 := by decide +kernel
theorem D_M_two_63 : decode prog_9_method_68_code 63 = .ok (.ifCond .eq 11, 3) ∧ ((63 : Nat) : Int) + 11 = ((74 : Nat) : Int) ∧ 63 + 3 = 66 := by decide +kernel
theorem D_M_two_75 : decode prog_9_method_68_code 75 = .ok (.ireturn, 1) := by decide +kernel
theorem D_M_two_48 : decode prog_9_method_68_code 48 = .ok (.iload_n 1, 1) ∧ 48 + 1 = 49 := by decide +kernel
theorem D_M_two_56 : decode prog_9_method_68_code 56 = .ok (.iconst 1, 1) ∧ 56 + 1 = 57 := by decide +kernel
theorem D_M_two_57 : decode prog_9_method_68_code 57 = .ok (.goto 4, 3) ∧ ((57 : Nat) : Int) + 4 = ((61 : Nat) : Int) := by decide +kernel
theorem D_M_two_52 : decode prog_9_method_68_code 52 = .ok (.iload_n 2, 1) ∧ 52 + 1 = 53 := by decide +kernel
theorem D_M_two_60 : decode prog_9_method_68_code 60 = .ok (.iconst 0, 1) ∧ 60 + 1 = 61 := by decide +kernel
theorem D_M_two_53 : decode prog_9_method_68_code 53 = .ok (.ifCond .eq 7, 3) ∧ ((53 : Nat) : Int) + 7 = ((60 : Nat) : Int) ∧ 53 + 3 = 56 := by decide +kernel
theorem D_M_two_49 : decode prog_9_method_68_code 49 = .ok (.ifCond .ne 7, 3) ∧ ((49 : Nat) : Int) + 7 = ((56 : Nat) : Int) ∧ 49 + 3 = 52 := by decide +kernel
theorem D_M_two_61 : decode prog_9_method_68_code 61 = .ok (.ireturn, 1) := by decide +kernel
theorem D_M_two_121 : decode prog_9_method_68_code 121 = .ok (.iload_n 2, 1) ∧ 121 + 1 = 122 := by decide +kernel
theorem D_M_two_122 : decode prog_9_method_68_code 122 = .ok (.ifCond .ne 7, 3) ∧ ((122 : Nat) : Int) + 7 = ((129 : Nat) : Int) ∧ 122 + 3 = 125 := by decide +kernel
theorem D_M_two_129 : decode prog_9_method_68_code 129 = .ok (.iload_n 1, 1) ∧ 129 + 1 = 130 := by decide +kernel
theorem D_M_two_130 : decode prog_9_method_68_code 130 = .ok (.iload_n 2, 1) ∧ 130 + 1 = 131 := by decide +kernel
theorem D_M_two_131 : decode prog_9_method_68_code 131 = .ok (.idiv, 1) ∧ 131 + 1 = 132 := by decide +kernel
theorem D_M_two_132 : decode prog_9_method_68_code 132 = .ok (.ireturn, 1) := by decide +kernel
theorem D_M_two_125 : decode prog_9_method_68_code 125 = .ok (.iconst 0, 1) ∧ 125 + 1 = 126 := by decide +kernel
theorem D_M_two_126 : decode prog_9_method_68_code 126 = .ok (.goto 6, 3) ∧ ((126 : Nat) : Int) + 6 = ((132 : Nat) : Int) := by decide +kernel
theorem D_M_two_1o : decode prog_9_method_68_code 1 = .ok (.tableswitch 120 (-8) (-1) #[116, 112, 108, 97, 86, 75, 61, 47], 47) ∧ ((1 : Nat) : Int) + 120 = ((121 : Nat) : Int) := by decide +kernel
def f_M_two (a1 : Int32) (a2 : Int32) (a3 : Int32) : Option (Int32) := if a1 = (-8) then some (a2 * a3) else if a1 = (-7) then some (a2 - a3) else if a1 = (-6) then some (a2 + a3) else if a1 = (-5) then some (if a2 ≤ a3 then (0 : Int32) else 1) else if a1 = (-4) then some (if a2 = a3 then (1 : Int32) else 0) else if a1 = (-3) then some (if a3 ≤ a2 then (0 : Int32) else 1) else if a1 = (-2) then some (if a2 = 0 then (0 : Int32) else if a3 = 0 then (0 : Int32) else 1) else if a1 = (-1) then some (if a2 = 0 then if a3 = 0 then (0 : Int32) else 1 else 1) else if a3 = 0 then some 0 else some (a2 / a3)
theorem c_M_two (l : Launch) (E : En) (a1 : Int32) (a2 : Int32) (a3 : Int32) {mem : Mm} {r : Int32} (h : f_M_two a1 a2 a3 = some r) : CtI l E 0 y_M_two prog_9_method_68_code 3 (some .int) [.int a1, .int a2, .int a3] SH mem r mem := by
  refine mk_CtI ⟨by decide, (Nat.le_of_ble_eq_true rfl)⟩ (fun X S hl hR => ?_)
  have S : Std X E prog_9_method_68_code R6 3 0 := S
  show J X E 3 0 [(0, .int a1), (1, .int a2), (2, .int a3)] [] SH mem
  unfold f_M_two at h
  refine j_iload_n S D_M_two_0 0 rfl rfl ?_
  by_cases c_1_0 : a1 = (-8)
  · have h := ifT c_1_0 h
    refine j_tabIn (tg := 117) (off := 116) S D_M_two_1 (-8) c_1_0 (by decide +kernel) ?_
    refine j_iload_n S D_M_two_117 1 rfl rfl ?_
    refine j_iload_n S D_M_two_118 2 rfl rfl ?_
    refine j_imul S D_M_two_119 ?_
    exact rtI hR h _ _ D_M_two_120
  · have h := ifF c_1_0 h
    by_cases c_1_1 : a1 = (-7)
    · have h := ifT c_1_1 h
      refine j_tabIn (tg := 113) (off := 112) S D_M_two_1 (-7) c_1_1 (by decide +kernel) ?_
      refine j_iload_n S D_M_two_113 1 rfl rfl ?_
      refine j_iload_n S D_M_two_114 2 rfl rfl ?_
      refine j_isub S D_M_two_115 ?_
      exact rtI hR h _ _ D_M_two_116
    · have h := ifF c_1_1 h
      by_cases c_1_2 : a1 = (-6)
      · have h := ifT c_1_2 h
        refine j_tabIn (tg := 109) (off := 108) S D_M_two_1 (-6) c_1_2 (by decide +kernel) ?_
        refine j_iload_n S D_M_two_109 1 rfl rfl ?_
        refine j_iload_n S D_M_two_110 2 rfl rfl ?_
        refine j_iadd S D_M_two_111 ?_
        exact rtI hR h _ _ D_M_two_112
      · have h := ifF c_1_2 h
        by_cases c_1_3 : a1 = (-5)
        · have h := ifT c_1_3 h
          refine j_tabIn (tg := 98) (off := 97) S D_M_two_1 (-5) c_1_3 (by decide +kernel) ?_
          refine j_iload_n S D_M_two_98 1 rfl rfl ?_
          refine j_iload_n S D_M_two_99 2 rfl rfl ?_
          refine j_dia (P := J X E 3 108 [(0, .int a1), (1, .int a2), (2, .int a3)] [.int (if a2 ≤ a3 then (0 : Int32) else 1)] SH mem) (fun hj => ?_) ?_
          · refine j_icmp_le S D_M_two_100 (fun c_100 => ?_) (fun c_100 => ?_)
            · refine j_iconst S D_M_two_107 ci_0 ?_
              exact j_jnT hj c_100
            · refine j_iconst S D_M_two_103 ci_1 ?_
              refine j_goto S D_M_two_104 ?_
              exact j_jnF hj c_100
          exact rtI hR h _ _ D_M_two_108
        · have h := ifF c_1_3 h
          by_cases c_1_4 : a1 = (-4)
          · have h := ifT c_1_4 h
            refine j_tabIn (tg := 87) (off := 86) S D_M_two_1 (-4) c_1_4 (by decide +kernel) ?_
            refine j_iload_n S D_M_two_87 1 rfl rfl ?_
            refine j_iload_n S D_M_two_88 2 rfl rfl ?_
            refine j_dia (P := J X E 3 97 [(0, .int a1), (1, .int a2), (2, .int a3)] [.int (if a2 = a3 then (1 : Int32) else 0)] SH mem) (fun hj => ?_) ?_
            · refine j_icmp_ne S D_M_two_89 (fun c_89 => ?_) (fun c_89 => ?_)
              · refine j_iconst S D_M_two_96 ci_0 ?_
                exact j_jnF hj c_89
              · refine j_iconst S D_M_two_92 ci_1 ?_
                refine j_goto S D_M_two_93 ?_
                exact j_jnT hj c_89
            exact rtI hR h _ _ D_M_two_97
          · have h := ifF c_1_4 h
            by_cases c_1_5 : a1 = (-3)
            · have h := ifT c_1_5 h
              refine j_tabIn (tg := 76) (off := 75) S D_M_two_1 (-3) c_1_5 (by decide +kernel) ?_
              refine j_iload_n S D_M_two_76 1 rfl rfl ?_
              refine j_iload_n S D_M_two_77 2 rfl rfl ?_
              refine j_dia (P := J X E 3 86 [(0, .int a1), (1, .int a2), (2, .int a3)] [.int (if a3 ≤ a2 then (0 : Int32) else 1)] SH mem) (fun hj => ?_) ?_
              · refine j_icmp_ge S D_M_two_78 (fun c_78 => ?_) (fun c_78 => ?_)
                · refine j_iconst S D_M_two_85 ci_0 ?_
                  exact j_jnT hj c_78
                · refine j_iconst S D_M_two_81 ci_1 ?_
                  refine j_goto S D_M_two_82 ?_
                  exact j_jnF hj c_78
              exact rtI hR h _ _ D_M_two_86
            · have h := ifF c_1_5 h
              by_cases c_1_6 : a1 = (-2)
              · have h := ifT c_1_6 h
                refine j_tabIn (tg := 62) (off := 61) S D_M_two_1 (-2) c_1_6 (by decide +kernel) ?_
                refine j_iload_n S D_M_two_62 1 rfl rfl ?_
                refine j_dia (P := J X E 3 75 [(0, .int a1), (1, .int a2), (2, .int a3)] [.int (if a2 = 0 then (0 : Int32) else if a3 = 0 then (0 : Int32) else 1)] SH mem) (fun hj => ?_) ?_
                · refine j_if_eq S D_M_two_63 (fun c_63 => ?_) (fun c_63 => ?_)
                  · refine j_iconst S D_M_two_74 ci_0 ?_
                    exact j_jnT hj c_63
                  · refine j_iload_n S D_M_two_66 2 rfl rfl ?_
                    refine j_dia (P := J X E 3 75 [(0, .int a1), (1, .int a2), (2, .int a3)] [.int (if a3 = 0 then (0 : Int32) else 1)] SH mem) (fun hj => ?_) ?_
                    · refine j_if_eq S D_M_two_67 (fun c_67 => ?_) (fun c_67 => ?_)
                      · refine j_iconst S D_M_two_74 ci_0 ?_
                        exact j_jnT hj c_67
                      · refine j_iconst S D_M_two_70 ci_1 ?_
                        refine j_goto S D_M_two_71 ?_
                        exact j_jnF hj c_67
                    exact j_jnF hj c_63
                exact rtI hR h _ _ D_M_two_75
              · have h := ifF c_1_6 h
                by_cases c_1_7 : a1 = (-1)
                · have h := ifT c_1_7 h
                  refine j_tabIn (tg := 48) (off := 47) S D_M_two_1 (-1) c_1_7 (by decide +kernel) ?_
                  refine j_iload_n S D_M_two_48 1 rfl rfl ?_
                  refine j_dia (P := J X E 3 61 [(0, .int a1), (1, .int a2), (2, .int a3)] [.int (if a2 = 0 then if a3 = 0 then (0 : Int32) else 1 else 1)] SH mem) (fun hj => ?_) ?_
                  · refine j_if_ne S D_M_two_49 (fun c_49 => ?_) (fun c_49 => ?_)
                    · refine j_iconst S D_M_two_56 ci_1 ?_
                      refine j_goto S D_M_two_57 ?_
                      exact j_jnF hj c_49
                    · refine j_iload_n S D_M_two_52 2 rfl rfl ?_
                      refine j_dia (P := J X E 3 61 [(0, .int a1), (1, .int a2), (2, .int a3)] [.int (if a3 = 0 then (0 : Int32) else 1)] SH mem) (fun hj => ?_) ?_
                      · refine j_if_eq S D_M_two_53 (fun c_53 => ?_) (fun c_53 => ?_)
                        · refine j_iconst S D_M_two_60 ci_0 ?_
                          exact j_jnT hj c_53
                        · refine j_iconst S D_M_two_56 ci_1 ?_
                          refine j_goto S D_M_two_57 ?_
                          exact j_jnF hj c_53
                      exact j_jnT hj c_49
                  exact rtI hR h _ _ D_M_two_61
                · have h := ifF c_1_7 h
                  refine j_tabOut S D_M_two_1o (tout_m8_m1 c_1_0 c_1_1 c_1_2 c_1_3 c_1_4 c_1_5 c_1_6 c_1_7) ?_
                  refine j_iload_n S D_M_two_121 2 rfl rfl ?_
                  refine j_if_ne S D_M_two_122 (fun c_122 => ?_) (fun c_122 => ?_)
                  · have h := ifF c_122 h
                    refine j_iload_n S D_M_two_129 1 rfl rfl ?_
                    refine j_iload_n S D_M_two_130 2 rfl rfl ?_
                    refine j_idiv S D_M_two_131 c_122 ?_
                    exact rtI hR h _ _ D_M_two_132
                  · have h := ifT c_122 h
                    refine j_iconst S D_M_two_125 ci_0 ?_
                    refine j_goto S D_M_two_126 ?_
                    exact rtI hR h _ _ D_M_two_132

def y_M_worksOut : MethodName := ⟨"SandPictureModel", "worksOut", "(I)I"⟩
theorem D_M_worksOut_0 : decode prog_9_method_69_code 0 = .ok (.iconst 0, 1) ∧ 0 + 1 = 1 := by decide +kernel
theorem D_M_worksOut_1 : decode prog_9_method_69_code 1 = .ok (.istore_n 2, 1) ∧ 1 + 1 = 2 := by decide +kernel
theorem D_M_worksOut_2 : decode prog_9_method_69_code 2 = .ok (.aload_n 0, 1) ∧ 2 + 1 = 3 := by decide +kernel
theorem D_M_worksOut_3 : decode prog_9_method_69_code 3 = .ok (.getfield 9, 3) ∧ 3 + 3 = 6 := by decide +kernel
theorem D_M_worksOut_6 : decode prog_9_method_69_code 6 = .ok (.bipush 64, 2) ∧ 6 + 2 = 8 := by decide +kernel
theorem D_M_worksOut_8 : decode prog_9_method_69_code 8 = .ok (.iconst 2, 1) ∧ 8 + 1 = 9 := by decide +kernel
theorem D_M_worksOut_9 : decode prog_9_method_69_code 9 = .ok (.iload_n 1, 1) ∧ 9 + 1 = 10 := by decide +kernel
theorem D_M_worksOut_10 : decode prog_9_method_69_code 10 = .ok (.imul, 1) ∧ 10 + 1 = 11 := by decide +kernel
theorem D_M_worksOut_11 : decode prog_9_method_69_code 11 = .ok (.iadd, 1) ∧ 11 + 1 = 12 := by decide +kernel
theorem D_M_worksOut_12 : decode prog_9_method_69_code 12 = .ok (.iaload, 1) ∧ 12 + 1 = 13 := by decide +kernel
theorem D_M_worksOut_13 : decode prog_9_method_69_code 13 = .ok (.sipush 1000, 3) ∧ 13 + 3 = 16 := by decide +kernel
theorem D_M_worksOut_16 : decode prog_9_method_69_code 16 = .ok (.irem, 1) ∧ 16 + 1 = 17 := by decide +kernel
theorem D_M_worksOut_17 : decode prog_9_method_69_code 17 = .ok (.istore_n 3, 1) ∧ 17 + 1 = 18 := by decide +kernel
theorem D_M_worksOut_18 : decode prog_9_method_69_code 18 = .ok (.iconst 0, 1) ∧ 18 + 1 = 19 := by decide +kernel
theorem D_M_worksOut_19 : decode prog_9_method_69_code 19 = .ok (.istore 4, 2) ∧ 19 + 2 = 21 := by decide +kernel
theorem D_M_worksOut_21 : decode prog_9_method_69_code 21 = .ok (.iload 4, 2) ∧ 21 + 2 = 23 := by decide +kernel
theorem D_M_worksOut_23 : decode prog_9_method_69_code 23 = .ok (.iload_n 3, 1) ∧ 23 + 1 = 24 := by decide +kernel
theorem D_M_worksOut_24 : decode prog_9_method_69_code 24 = .ok (.if_icmp .ge 131, 3) ∧ ((24 : Nat) : Int) + 131 = ((155 : Nat) : Int) ∧ 24 + 3 = 27 := by decide +kernel
theorem D_M_worksOut_27 : decode prog_9_method_69_code 27 = .ok (.aload_n 0, 1) ∧ 27 + 1 = 28 := by decide +kernel
theorem D_M_worksOut_28 : decode prog_9_method_69_code 28 = .ok (.getfield 9, 3) ∧ 28 + 3 = 31 := by decide +kernel
theorem D_M_worksOut_31 : decode prog_9_method_69_code 31 = .ok (.bipush 92, 2) ∧ 31 + 2 = 33 := by decide +kernel
theorem D_M_worksOut_33 : decode prog_9_method_69_code 33 = .ok (.bipush 96, 2) ∧ 33 + 2 = 35 := by decide +kernel
theorem D_M_worksOut_35 : decode prog_9_method_69_code 35 = .ok (.iload_n 1, 1) ∧ 35 + 1 = 36 := by decide +kernel
theorem D_M_worksOut_36 : decode prog_9_method_69_code 36 = .ok (.imul, 1) ∧ 36 + 1 = 37 := by decide +kernel
theorem D_M_worksOut_37 : decode prog_9_method_69_code 37 = .ok (.iadd, 1) ∧ 37 + 1 = 38 := by decide +kernel
theorem D_M_worksOut_38 : decode prog_9_method_69_code 38 = .ok (.iload 4, 2) ∧ 38 + 2 = 40 := by decide +kernel
theorem D_M_worksOut_40 : decode prog_9_method_69_code 40 = .ok (.iadd, 1) ∧ 40 + 1 = 41 := by decide +kernel
theorem D_M_worksOut_41 : decode prog_9_method_69_code 41 = .ok (.iaload, 1) ∧ 41 + 1 = 42 := by decide +kernel
theorem D_M_worksOut_42 : decode prog_9_method_69_code 42 = .ok (.istore 5, 2) ∧ 42 + 2 = 44 := by decide +kernel
theorem D_M_worksOut_44 : decode prog_9_method_69_code 44 = .ok (.iload 5, 2) ∧ 44 + 2 = 46 := by decide +kernel
theorem D_M_worksOut_46 : decode prog_9_method_69_code 46 = .ok (.ifCond .lt 39, 3) ∧ ((46 : Nat) : Int) + 39 = ((85 : Nat) : Int) ∧ 46 + 3 = 49 := by decide +kernel
theorem D_M_worksOut_85 : decode prog_9_method_69_code 85 = .ok (.iload 5, 2) ∧ 85 + 2 = 87 := by decide +kernel
theorem D_M_worksOut_87 : decode prog_9_method_69_code 87 = .ok (.bipush (-10), 2) ∧ 87 + 2 = 89 := by decide +kernel
theorem D_M_worksOut_89 : decode prog_9_method_69_code 89 = .ok (.if_icmp .ne 30, 3) ∧ ((89 : Nat) : Int) + 30 = ((119 : Nat) : Int) ∧ 89 + 3 = 92 := by decide +kernel
theorem D_M_worksOut_119 : decode prog_9_method_69_code 119 = .ok (.iinc 2 (-1), 3) ∧ 119 + 3 = 122 := by decide +kernel
theorem D_M_worksOut_122 : decode prog_9_method_69_code 122 = .ok (.aload_n 0, 1) ∧ 122 + 1 = 123 := by decide +kernel
theorem D_M_worksOut_123 : decode prog_9_method_69_code 123 = .ok (.getfield 46, 3) ∧ 123 + 3 = 126 := by decide +kernel
theorem D_M_worksOut_126 : decode prog_9_method_69_code 126 = .ok (.iload_n 2, 1) ∧ 126 + 1 = 127 := by decide +kernel
theorem D_M_worksOut_127 : decode prog_9_method_69_code 127 = .ok (.iconst 1, 1) ∧ 127 + 1 = 128 := by decide +kernel
theorem D_M_worksOut_128 : decode prog_9_method_69_code 128 = .ok (.isub, 1) ∧ 128 + 1 = 129 := by decide +kernel
theorem D_M_worksOut_129 : decode prog_9_method_69_code 129 = .ok (.iload 5, 2) ∧ 129 + 2 = 131 := by decide +kernel
theorem D_M_worksOut_131 : decode prog_9_method_69_code 131 = .ok (.aload_n 0, 1) ∧ 131 + 1 = 132 := by decide +kernel
theorem D_M_worksOut_132 : decode prog_9_method_69_code 132 = .ok (.getfield 46, 3) ∧ 132 + 3 = 135 := by decide +kernel
theorem D_M_worksOut_135 : decode prog_9_method_69_code 135 = .ok (.iload_n 2, 1) ∧ 135 + 1 = 136 := by decide +kernel
theorem D_M_worksOut_136 : decode prog_9_method_69_code 136 = .ok (.iconst 1, 1) ∧ 136 + 1 = 137 := by decide +kernel
theorem D_M_worksOut_137 : decode prog_9_method_69_code 137 = .ok (.isub, 1) ∧ 137 + 1 = 138 := by decide +kernel
theorem D_M_worksOut_138 : decode prog_9_method_69_code 138 = .ok (.iaload, 1) ∧ 138 + 1 = 139 := by decide +kernel
theorem D_M_worksOut_139 : decode prog_9_method_69_code 139 = .ok (.aload_n 0, 1) ∧ 139 + 1 = 140 := by decide +kernel
theorem D_M_worksOut_140 : decode prog_9_method_69_code 140 = .ok (.getfield 46, 3) ∧ 140 + 3 = 143 := by decide +kernel
theorem D_M_worksOut_143 : decode prog_9_method_69_code 143 = .ok (.iload_n 2, 1) ∧ 143 + 1 = 144 := by decide +kernel
theorem D_M_worksOut_144 : decode prog_9_method_69_code 144 = .ok (.iaload, 1) ∧ 144 + 1 = 145 := by decide +kernel
theorem D_M_worksOut_145 : decode prog_9_method_69_code 145 = .ok (.invokestatic 241, 3) ∧ 145 + 3 = 148 := by decide +kernel
theorem D_M_worksOut_148 : decode prog_9_method_69_code 148 = .ok (.iastore, 1) ∧ 148 + 1 = 149 := by decide +kernel
theorem D_M_worksOut_149 : decode prog_9_method_69_code 149 = .ok (.iinc 4 1, 3) ∧ 149 + 3 = 152 := by decide +kernel
theorem D_M_worksOut_152 : decode prog_9_method_69_code 152 = .ok (.goto (-131), 3) ∧ ((152 : Nat) : Int) + (-131) = ((21 : Nat) : Int) := by decide +kernel
theorem D_M_worksOut_92 : decode prog_9_method_69_code 92 = .ok (.aload_n 0, 1) ∧ 92 + 1 = 93 := by decide +kernel
theorem D_M_worksOut_93 : decode prog_9_method_69_code 93 = .ok (.getfield 46, 3) ∧ 93 + 3 = 96 := by decide +kernel
theorem D_M_worksOut_96 : decode prog_9_method_69_code 96 = .ok (.iload_n 2, 1) ∧ 96 + 1 = 97 := by decide +kernel
theorem D_M_worksOut_97 : decode prog_9_method_69_code 97 = .ok (.iconst 1, 1) ∧ 97 + 1 = 98 := by decide +kernel
theorem D_M_worksOut_98 : decode prog_9_method_69_code 98 = .ok (.isub, 1) ∧ 98 + 1 = 99 := by decide +kernel
theorem D_M_worksOut_99 : decode prog_9_method_69_code 99 = .ok (.aload_n 0, 1) ∧ 99 + 1 = 100 := by decide +kernel
theorem D_M_worksOut_100 : decode prog_9_method_69_code 100 = .ok (.getfield 46, 3) ∧ 100 + 3 = 103 := by decide +kernel
theorem D_M_worksOut_103 : decode prog_9_method_69_code 103 = .ok (.iload_n 2, 1) ∧ 103 + 1 = 104 := by decide +kernel
theorem D_M_worksOut_104 : decode prog_9_method_69_code 104 = .ok (.iconst 1, 1) ∧ 104 + 1 = 105 := by decide +kernel
theorem D_M_worksOut_105 : decode prog_9_method_69_code 105 = .ok (.isub, 1) ∧ 105 + 1 = 106 := by decide +kernel
theorem D_M_worksOut_106 : decode prog_9_method_69_code 106 = .ok (.iaload, 1) ∧ 106 + 1 = 107 := by decide +kernel
theorem D_M_worksOut_114 : decode prog_9_method_69_code 114 = .ok (.iconst 0, 1) ∧ 114 + 1 = 115 := by decide +kernel
theorem D_M_worksOut_110 : decode prog_9_method_69_code 110 = .ok (.iconst 1, 1) ∧ 110 + 1 = 111 := by decide +kernel
theorem D_M_worksOut_111 : decode prog_9_method_69_code 111 = .ok (.goto 4, 3) ∧ ((111 : Nat) : Int) + 4 = ((115 : Nat) : Int) := by decide +kernel
theorem D_M_worksOut_107 : decode prog_9_method_69_code 107 = .ok (.ifCond .ne 7, 3) ∧ ((107 : Nat) : Int) + 7 = ((114 : Nat) : Int) ∧ 107 + 3 = 110 := by decide +kernel
theorem D_M_worksOut_115 : decode prog_9_method_69_code 115 = .ok (.iastore, 1) ∧ 115 + 1 = 116 := by decide +kernel
theorem D_M_worksOut_116 : decode prog_9_method_69_code 116 = .ok (.goto 33, 3) ∧ ((116 : Nat) : Int) + 33 = ((149 : Nat) : Int) := by decide +kernel
theorem D_M_worksOut_49 : decode prog_9_method_69_code 49 = .ok (.aload_n 0, 1) ∧ 49 + 1 = 50 := by decide +kernel
theorem D_M_worksOut_50 : decode prog_9_method_69_code 50 = .ok (.getfield 46, 3) ∧ 50 + 3 = 53 := by decide +kernel
theorem D_M_worksOut_53 : decode prog_9_method_69_code 53 = .ok (.iload_n 2, 1) ∧ 53 + 1 = 54 := by decide +kernel
theorem D_M_worksOut_54 : decode prog_9_method_69_code 54 = .ok (.iload 5, 2) ∧ 54 + 2 = 56 := by decide +kernel
theorem D_M_worksOut_56 : decode prog_9_method_69_code 56 = .ok (.sipush 10000, 3) ∧ 56 + 3 = 59 := by decide +kernel
theorem D_M_worksOut_59 : decode prog_9_method_69_code 59 = .ok (.if_icmp .ge 8, 3) ∧ ((59 : Nat) : Int) + 8 = ((67 : Nat) : Int) ∧ 59 + 3 = 62 := by decide +kernel
theorem D_M_worksOut_67 : decode prog_9_method_69_code 67 = .ok (.aload_n 0, 1) ∧ 67 + 1 = 68 := by decide +kernel
theorem D_M_worksOut_68 : decode prog_9_method_69_code 68 = .ok (.getfield 49, 3) ∧ 68 + 3 = 71 := by decide +kernel
theorem D_M_worksOut_71 : decode prog_9_method_69_code 71 = .ok (.iload 5, 2) ∧ 71 + 2 = 73 := by decide +kernel
theorem D_M_worksOut_73 : decode prog_9_method_69_code 73 = .ok (.sipush 10000, 3) ∧ 73 + 3 = 76 := by decide +kernel
theorem D_M_worksOut_76 : decode prog_9_method_69_code 76 = .ok (.isub, 1) ∧ 76 + 1 = 77 := by decide +kernel
theorem D_M_worksOut_77 : decode prog_9_method_69_code 77 = .ok (.iaload, 1) ∧ 77 + 1 = 78 := by decide +kernel
theorem D_M_worksOut_78 : decode prog_9_method_69_code 78 = .ok (.iastore, 1) ∧ 78 + 1 = 79 := by decide +kernel
theorem D_M_worksOut_79 : decode prog_9_method_69_code 79 = .ok (.iinc 2 1, 3) ∧ 79 + 3 = 82 := by decide +kernel
theorem D_M_worksOut_82 : decode prog_9_method_69_code 82 = .ok (.goto 67, 3) ∧ ((82 : Nat) : Int) + 67 = ((149 : Nat) : Int) := by decide +kernel
theorem D_M_worksOut_62 : decode prog_9_method_69_code 62 = .ok (.iload 5, 2) ∧ 62 + 2 = 64 := by decide +kernel
theorem D_M_worksOut_64 : decode prog_9_method_69_code 64 = .ok (.goto 14, 3) ∧ ((64 : Nat) : Int) + 14 = ((78 : Nat) : Int) := by decide +kernel
theorem D_M_worksOut_155 : decode prog_9_method_69_code 155 = .ok (.aload_n 0, 1) ∧ 155 + 1 = 156 := by decide +kernel
theorem D_M_worksOut_156 : decode prog_9_method_69_code 156 = .ok (.getfield 46, 3) ∧ 156 + 3 = 159 := by decide +kernel
theorem D_M_worksOut_159 : decode prog_9_method_69_code 159 = .ok (.iconst 0, 1) ∧ 159 + 1 = 160 := by decide +kernel
theorem D_M_worksOut_160 : decode prog_9_method_69_code 160 = .ok (.iaload, 1) ∧ 160 + 1 = 161 := by decide +kernel
theorem D_M_worksOut_161 : decode prog_9_method_69_code 161 = .ok (.ireturn, 1) := by decide +kernel
def f_M_worksOut_L21  : Nat → Int32 → Int32 → Int32 → Int32 → Mm → Option ((Int32 × Int32) × Mm)
  | 0, _, _, _, _, _ => none
  | n + 1, b1, b2, b3, b4, mem => if b3 ≤ b4 then some ((b2, b4), mem) else if inb ((92 + (96 * b1)) + b4) 1436 = true then lt (mem 92 (ix ((92 + (96 * b1)) + b4))) fun x_42 => if x_42 < 0 then if x_42 = (-10) then if inb (b2 - 1) 96 = true then lt (mst mem 102 (ix (b2 - 1)) (if mem 102 (ix (b2 - 1)) = 0 then (1 : Int32) else 0)) fun m_115 => f_M_worksOut_L21 n b1 b2 b3 (b4 + 1) m_115 else none else if inb ((b2 + (-1)) - 1) 96 = true then if inb (b2 + (-1)) 96 = true then bp (f_M_two x_42 (mem 102 (ix ((b2 + (-1)) - 1))) (mem 102 (ix (b2 + (-1))))) fun r_145 => lt (mst mem 102 (ix ((b2 + (-1)) - 1)) r_145) fun m_148 => f_M_worksOut_L21 n b1 (b2 + (-1)) b3 (b4 + 1) m_148 else none else none else if 10000 ≤ x_42 then if inb (x_42 - 10000) 4 = true then if inb b2 96 = true then lt (mst mem 102 (ix b2) (mem 103 (ix (x_42 - 10000)))) fun m_78 => f_M_worksOut_L21 n b1 (b2 + 1) b3 (b4 + 1) m_78 else none else none else if inb b2 96 = true then lt (mst mem 102 (ix b2) x_42) fun m_78 => f_M_worksOut_L21 n b1 (b2 + 1) b3 (b4 + 1) m_78 else none else none
def f_M_worksOut (N : Nat) (a1 : Int32) (mem : Mm) : Option (Int32 × Mm) := if inb (64 + (2 * a1)) 1436 = true then lt ((mem 92 (ix (64 + (2 * a1)))) - (mem 92 (ix (64 + (2 * a1)))) / 1000 * 1000) fun x_17 => bd (f_M_worksOut_L21 N a1 0 x_17 0 mem) fun y_21 m_21 => some (m_21 102 (ix 0), m_21) else none
theorem L_M_worksOut_21 {X : Cx} {E : En} (S : Std X E prog_9_method_69_code R6 6 1)  : ∀ (n : Nat) (b1 : Int32) (b2 : Int32) (b3 : Int32) (b4 : Int32) (mem : Mm) (z : Int32 × Int32) (m2 : Mm), f_M_worksOut_L21 n b1 b2 b3 b4 mem = some (z, m2) → J X E 6 155 [(0, .ref (eb E + 91)), (1, .int b1), (2, .int z.1), (3, .int b3), (4, .int z.2)] [] SH m2 → J X E 6 21 [(0, .ref (eb E + 91)), (1, .int b1), (2, .int b2), (3, .int b3), (4, .int b4)] [] SH mem := by
  intro n
  induction n with
  | zero =>
    intro b1 b2 b3 b4 mem z m2 h hk; cases h
  | succ n ih =>
    intro b1 b2 b3 b4 mem z m2 h hk
    rw [f_M_worksOut_L21] at h
    refine j_iload S D_M_worksOut_21 4 rfl ?_
    refine j_iload_n S D_M_worksOut_23 3 rfl rfl ?_
    refine j_icmp_ge S D_M_worksOut_24 (fun c_24 => ?_) (fun c_24 => ?_)
    · have h := ifT c_24 h
      cases h
      exact j_locals [0, 1, 2, 3, 4] rfl hk
    · have h := ifF c_24 h
      refine j_aload_n S D_M_worksOut_27 0 rfl rfl ?_
      refine j_getR S D_M_worksOut_28 fl_R6_9 sh_Mod rfl ?_
      refine j_bipush S D_M_worksOut_31 cb_92 ?_
      refine j_bipush S D_M_worksOut_33 cb_96 ?_
      refine j_iload_n S D_M_worksOut_35 1 rfl rfl ?_
      refine j_imul S D_M_worksOut_36 ?_
      refine j_iadd S D_M_worksOut_37 ?_
      refine j_iload S D_M_worksOut_38 4 rfl ?_
      refine j_iadd S D_M_worksOut_40 ?_
      obtain ⟨g_41, h⟩ := gdE h
      refine j_iald S D_M_worksOut_41 sh_92 g_41 ?_
      obtain ⟨x_42, hx_42, h⟩ := ltE h
      refine j_nm hx_42 ?_
      refine j_istore S D_M_worksOut_42 (lv := [(5, .int x_42), (0, .ref (eb E + 91)), (1, .int b1), (2, .int b2), (3, .int b3), (4, .int b4)]) rfl (Nat.le_of_ble_eq_true rfl) ?_
      refine j_iload S D_M_worksOut_44 0 rfl ?_
      refine j_if_lt S D_M_worksOut_46 (fun c_46 => ?_) (fun c_46 => ?_)
      · have h := ifT c_46 h
        refine j_iload S D_M_worksOut_85 0 rfl ?_
        refine j_bipush S D_M_worksOut_87 cb_m10 ?_
        refine j_icmp_ne S D_M_worksOut_89 (fun c_89 => ?_) (fun c_89 => ?_)
        · have h := ifF c_89 h
          refine j_iinc S D_M_worksOut_119 3 rfl (congrArg (fun z => b2 + z) ci_m1) (lv := [(2, .int (b2 + (-1))), (5, .int x_42), (0, .ref (eb E + 91)), (1, .int b1), (3, .int b3), (4, .int b4)]) rfl (Nat.le_of_ble_eq_true rfl) ?_
          refine j_aload_n S D_M_worksOut_122 2 rfl rfl ?_
          refine j_getR S D_M_worksOut_123 fl_R6_46 sh_Mod rfl ?_
          refine j_iload_n S D_M_worksOut_126 0 rfl rfl ?_
          refine j_iconst S D_M_worksOut_127 ci_1 ?_
          refine j_isub S D_M_worksOut_128 ?_
          refine j_iload S D_M_worksOut_129 1 rfl ?_
          refine j_aload_n S D_M_worksOut_131 2 rfl rfl ?_
          refine j_getR S D_M_worksOut_132 fl_R6_46 sh_Mod rfl ?_
          refine j_iload_n S D_M_worksOut_135 0 rfl rfl ?_
          refine j_iconst S D_M_worksOut_136 ci_1 ?_
          refine j_isub S D_M_worksOut_137 ?_
          obtain ⟨g_138, h⟩ := gdE h
          refine j_iald S D_M_worksOut_138 sh_102 g_138 ?_
          refine j_aload_n S D_M_worksOut_139 2 rfl rfl ?_
          refine j_getR S D_M_worksOut_140 fl_R6_46 sh_Mod rfl ?_
          refine j_iload_n S D_M_worksOut_143 0 rfl rfl ?_
          obtain ⟨g_144, h⟩ := gdE h
          refine j_iald S D_M_worksOut_144 sh_102 g_144 ?_
          obtain ⟨r_145, e_145, h⟩ := bpE h
          refine j_callSI (As := [.int x_42, .int (mem 102 (ix ((b2 + (-1)) - 1))), .int (mem 102 (ix (b2 + (-1))))]) S D_M_worksOut_145 ms_R6_241 (c_M_two (cxL X) E x_42 (mem 102 (ix ((b2 + (-1)) - 1))) (mem 102 (ix (b2 + (-1)))) (mem := mem) e_145) (by decide) rfl rfl (Nat.le_of_ble_eq_true rfl) ?_
          obtain ⟨m_148, hm_148, h⟩ := ltE h
          refine j_iast S D_M_worksOut_148 sh_102 g_138 ?_
          refine j_mem hm_148 ?_
          refine j_iinc S D_M_worksOut_149 5 rfl (congrArg (fun z => b4 + z) ci_1) (lv := [(4, .int (b4 + 1)), (2, .int (b2 + (-1))), (5, .int x_42), (0, .ref (eb E + 91)), (1, .int b1), (3, .int b3)]) rfl (Nat.le_of_ble_eq_true rfl) ?_
          refine j_goto S D_M_worksOut_152 ?_
          refine j_locals [3, 4, 1, 5, 0] rfl (ih b1 (b2 + (-1)) b3 (b4 + 1) m_148 _ _ h hk)
        · have h := ifT c_89 h
          refine j_aload_n S D_M_worksOut_92 1 rfl rfl ?_
          refine j_getR S D_M_worksOut_93 fl_R6_46 sh_Mod rfl ?_
          refine j_iload_n S D_M_worksOut_96 3 rfl rfl ?_
          refine j_iconst S D_M_worksOut_97 ci_1 ?_
          refine j_isub S D_M_worksOut_98 ?_
          refine j_aload_n S D_M_worksOut_99 1 rfl rfl ?_
          refine j_getR S D_M_worksOut_100 fl_R6_46 sh_Mod rfl ?_
          refine j_iload_n S D_M_worksOut_103 3 rfl rfl ?_
          refine j_iconst S D_M_worksOut_104 ci_1 ?_
          refine j_isub S D_M_worksOut_105 ?_
          obtain ⟨g_106, h⟩ := gdE h
          refine j_iald S D_M_worksOut_106 sh_102 g_106 ?_
          refine j_dia (P := J X E 6 115 [(5, .int x_42), (0, .ref (eb E + 91)), (1, .int b1), (2, .int b2), (3, .int b3), (4, .int b4)] [.int (if mem 102 (ix (b2 - 1)) = 0 then (1 : Int32) else 0), .int (b2 - 1), .ref (eb E + 102)] SH mem) (fun hj => ?_) ?_
          · refine j_if_ne S D_M_worksOut_107 (fun c_107 => ?_) (fun c_107 => ?_)
            · refine j_iconst S D_M_worksOut_114 ci_0 ?_
              exact j_jnF hj c_107
            · refine j_iconst S D_M_worksOut_110 ci_1 ?_
              refine j_goto S D_M_worksOut_111 ?_
              exact j_jnT hj c_107
          obtain ⟨m_115, hm_115, h⟩ := ltE h
          refine j_iast S D_M_worksOut_115 sh_102 g_106 ?_
          refine j_mem hm_115 ?_
          refine j_goto S D_M_worksOut_116 ?_
          refine j_iinc S D_M_worksOut_149 5 rfl (congrArg (fun z => b4 + z) ci_1) (lv := [(4, .int (b4 + 1)), (5, .int x_42), (0, .ref (eb E + 91)), (1, .int b1), (2, .int b2), (3, .int b3)]) rfl (Nat.le_of_ble_eq_true rfl) ?_
          refine j_goto S D_M_worksOut_152 ?_
          refine j_locals [2, 3, 4, 5, 0] rfl (ih b1 b2 b3 (b4 + 1) m_115 _ _ h hk)
      · have h := ifF c_46 h
        refine j_aload_n S D_M_worksOut_49 1 rfl rfl ?_
        refine j_getR S D_M_worksOut_50 fl_R6_46 sh_Mod rfl ?_
        refine j_iload_n S D_M_worksOut_53 3 rfl rfl ?_
        refine j_iload S D_M_worksOut_54 0 rfl ?_
        refine j_sipush S D_M_worksOut_56 cs_10000 ?_
        refine j_icmp_ge S D_M_worksOut_59 (fun c_59 => ?_) (fun c_59 => ?_)
        · have h := ifT c_59 h
          refine j_aload_n S D_M_worksOut_67 1 rfl rfl ?_
          refine j_getR S D_M_worksOut_68 fl_R6_49 sh_Mod rfl ?_
          refine j_iload S D_M_worksOut_71 0 rfl ?_
          refine j_sipush S D_M_worksOut_73 cs_10000 ?_
          refine j_isub S D_M_worksOut_76 ?_
          obtain ⟨g_77, h⟩ := gdE h
          refine j_iald S D_M_worksOut_77 sh_103 g_77 ?_
          obtain ⟨g_78, h⟩ := gdE h
          obtain ⟨m_78, hm_78, h⟩ := ltE h
          refine j_iast S D_M_worksOut_78 sh_102 g_78 ?_
          refine j_mem hm_78 ?_
          refine j_iinc S D_M_worksOut_79 3 rfl (congrArg (fun z => b2 + z) ci_1) (lv := [(2, .int (b2 + 1)), (5, .int x_42), (0, .ref (eb E + 91)), (1, .int b1), (3, .int b3), (4, .int b4)]) rfl (Nat.le_of_ble_eq_true rfl) ?_
          refine j_goto S D_M_worksOut_82 ?_
          refine j_iinc S D_M_worksOut_149 5 rfl (congrArg (fun z => b4 + z) ci_1) (lv := [(4, .int (b4 + 1)), (2, .int (b2 + 1)), (5, .int x_42), (0, .ref (eb E + 91)), (1, .int b1), (3, .int b3)]) rfl (Nat.le_of_ble_eq_true rfl) ?_
          refine j_goto S D_M_worksOut_152 ?_
          refine j_locals [3, 4, 1, 5, 0] rfl (ih b1 (b2 + 1) b3 (b4 + 1) m_78 _ _ h hk)
        · have h := ifF c_59 h
          refine j_iload S D_M_worksOut_62 0 rfl ?_
          refine j_goto S D_M_worksOut_64 ?_
          obtain ⟨g_78, h⟩ := gdE h
          obtain ⟨m_78, hm_78, h⟩ := ltE h
          refine j_iast S D_M_worksOut_78 sh_102 g_78 ?_
          refine j_mem hm_78 ?_
          refine j_iinc S D_M_worksOut_79 3 rfl (congrArg (fun z => b2 + z) ci_1) (lv := [(2, .int (b2 + 1)), (5, .int x_42), (0, .ref (eb E + 91)), (1, .int b1), (3, .int b3), (4, .int b4)]) rfl (Nat.le_of_ble_eq_true rfl) ?_
          refine j_goto S D_M_worksOut_82 ?_
          refine j_iinc S D_M_worksOut_149 5 rfl (congrArg (fun z => b4 + z) ci_1) (lv := [(4, .int (b4 + 1)), (2, .int (b2 + 1)), (5, .int x_42), (0, .ref (eb E + 91)), (1, .int b1), (3, .int b3)]) rfl (Nat.le_of_ble_eq_true rfl) ?_
          refine j_goto S D_M_worksOut_152 ?_
          refine j_locals [3, 4, 1, 5, 0] rfl (ih b1 (b2 + 1) b3 (b4 + 1) m_78 _ _ h hk)
theorem c_M_worksOut (l : Launch) (E : En) (N : Nat) (a1 : Int32) {mem : Mm} {r : Int32} {m2 : Mm} (h : f_M_worksOut N a1 mem = some (r, m2)) : CtI l E 1 y_M_worksOut prog_9_method_69_code 6 (some .int) [.ref (eb E + 91), .int a1] SH mem r m2 := by
  refine mk_CtI ⟨by decide, (Nat.le_of_ble_eq_true rfl)⟩ (fun X S hl hR => ?_)
  have S : Std X E prog_9_method_69_code R6 6 1 := S
  show J X E 6 0 [(0, .ref (eb E + 91)), (1, .int a1)] [] SH mem
  unfold f_M_worksOut at h
  refine j_iconst S D_M_worksOut_0 ci_0 ?_
  refine j_istore_n S D_M_worksOut_1 (lv := [(2, .int 0), (0, .ref (eb E + 91)), (1, .int a1)]) rfl ⟨rfl, (Nat.le_of_ble_eq_true rfl)⟩ ?_
  refine j_aload_n S D_M_worksOut_2 1 rfl rfl ?_
  refine j_getR S D_M_worksOut_3 fl_R6_9 sh_Mod rfl ?_
  refine j_bipush S D_M_worksOut_6 cb_64 ?_
  refine j_iconst S D_M_worksOut_8 ci_2 ?_
  refine j_iload_n S D_M_worksOut_9 2 rfl rfl ?_
  refine j_imul S D_M_worksOut_10 ?_
  refine j_iadd S D_M_worksOut_11 ?_
  obtain ⟨g_12, h⟩ := gdE h
  refine j_iald S D_M_worksOut_12 sh_92 g_12 ?_
  refine j_sipush S D_M_worksOut_13 cs_1000 ?_
  refine j_irem S D_M_worksOut_16 nz_1000 ?_
  obtain ⟨x_17, hx_17, h⟩ := ltE h
  refine j_nm hx_17 ?_
  refine j_istore_n S D_M_worksOut_17 (lv := [(3, .int x_17), (2, .int 0), (0, .ref (eb E + 91)), (1, .int a1)]) rfl ⟨rfl, (Nat.le_of_ble_eq_true rfl)⟩ ?_
  refine j_iconst S D_M_worksOut_18 ci_0 ?_
  refine j_istore S D_M_worksOut_19 (lv := [(4, .int 0), (3, .int x_17), (2, .int 0), (0, .ref (eb E + 91)), (1, .int a1)]) rfl (Nat.le_of_ble_eq_true rfl) ?_
  refine j_locals [3, 4, 2, 1, 0] rfl ?_
  obtain ⟨y_21, m_21, e_21, h⟩ := bdE h
  refine L_M_worksOut_21 S  N a1 0 x_17 0 mem _ _ e_21 ?_
  refine j_aload_n S D_M_worksOut_155 0 rfl rfl ?_
  refine j_getR S D_M_worksOut_156 fl_R6_46 sh_Mod rfl ?_
  refine j_iconst S D_M_worksOut_159 ci_0 ?_
  refine j_iald S D_M_worksOut_160 sh_102 inbc_0_96 ?_
  exact rtM hR h _ _ D_M_worksOut_161

def y_M_poursBy : MethodName := ⟨"SandPictureModel", "poursBy", "(II)I"⟩
theorem D_M_poursBy_0 : decode prog_9_method_14_code 0 = .ok (.aload_n 0, 1) ∧ 0 + 1 = 1 := by decide +kernel
theorem D_M_poursBy_1 : decode prog_9_method_14_code 1 = .ok (.iconst 0, 1) ∧ 1 + 1 = 2 := by decide +kernel
theorem D_M_poursBy_2 : decode prog_9_method_14_code 2 = .ok (.invokevirtual 104, 3) ∧ 2 + 3 = 5 := by decide +kernel
theorem D_M_poursBy_5 : decode prog_9_method_14_code 5 = .ok (.istore_n 3, 1) ∧ 5 + 1 = 6 := by decide +kernel
theorem D_M_poursBy_6 : decode prog_9_method_14_code 6 = .ok (.aload_n 0, 1) ∧ 6 + 1 = 7 := by decide +kernel
theorem D_M_poursBy_7 : decode prog_9_method_14_code 7 = .ok (.getfield 49, 3) ∧ 7 + 3 = 10 := by decide +kernel
theorem D_M_poursBy_10 : decode prog_9_method_14_code 10 = .ok (.iconst 0, 1) ∧ 10 + 1 = 11 := by decide +kernel
theorem D_M_poursBy_11 : decode prog_9_method_14_code 11 = .ok (.aload_n 0, 1) ∧ 11 + 1 = 12 := by decide +kernel
theorem D_M_poursBy_12 : decode prog_9_method_14_code 12 = .ok (.iload_n 1, 1) ∧ 12 + 1 = 13 := by decide +kernel
theorem D_M_poursBy_13 : decode prog_9_method_14_code 13 = .ok (.iconst 1, 1) ∧ 13 + 1 = 14 := by decide +kernel
theorem D_M_poursBy_14 : decode prog_9_method_14_code 14 = .ok (.invokevirtual 93, 3) ∧ 14 + 3 = 17 := by decide +kernel
theorem D_M_poursBy_17 : decode prog_9_method_14_code 17 = .ok (.iastore, 1) ∧ 17 + 1 = 18 := by decide +kernel
theorem D_M_poursBy_18 : decode prog_9_method_14_code 18 = .ok (.aload_n 0, 1) ∧ 18 + 1 = 19 := by decide +kernel
theorem D_M_poursBy_19 : decode prog_9_method_14_code 19 = .ok (.getfield 49, 3) ∧ 19 + 3 = 22 := by decide +kernel
theorem D_M_poursBy_22 : decode prog_9_method_14_code 22 = .ok (.iconst 1, 1) ∧ 22 + 1 = 23 := by decide +kernel
theorem D_M_poursBy_23 : decode prog_9_method_14_code 23 = .ok (.aload_n 0, 1) ∧ 23 + 1 = 24 := by decide +kernel
theorem D_M_poursBy_24 : decode prog_9_method_14_code 24 = .ok (.aload_n 0, 1) ∧ 24 + 1 = 25 := by decide +kernel
theorem D_M_poursBy_25 : decode prog_9_method_14_code 25 = .ok (.iload_n 1, 1) ∧ 25 + 1 = 26 := by decide +kernel
theorem D_M_poursBy_26 : decode prog_9_method_14_code 26 = .ok (.iconst 2, 1) ∧ 26 + 1 = 27 := by decide +kernel
theorem D_M_poursBy_27 : decode prog_9_method_14_code 27 = .ok (.invokevirtual 93, 3) ∧ 27 + 3 = 30 := by decide +kernel
theorem D_M_poursBy_30 : decode prog_9_method_14_code 30 = .ok (.iconst 1, 1) ∧ 30 + 1 = 31 := by decide +kernel
theorem D_M_poursBy_31 : decode prog_9_method_14_code 31 = .ok (.invokevirtual 107, 3) ∧ 31 + 3 = 34 := by decide +kernel
theorem D_M_poursBy_34 : decode prog_9_method_14_code 34 = .ok (.iastore, 1) ∧ 34 + 1 = 35 := by decide +kernel
theorem D_M_poursBy_35 : decode prog_9_method_14_code 35 = .ok (.aload_n 0, 1) ∧ 35 + 1 = 36 := by decide +kernel
theorem D_M_poursBy_36 : decode prog_9_method_14_code 36 = .ok (.getfield 49, 3) ∧ 36 + 3 = 39 := by decide +kernel
theorem D_M_poursBy_39 : decode prog_9_method_14_code 39 = .ok (.iconst 2, 1) ∧ 39 + 1 = 40 := by decide +kernel
theorem D_M_poursBy_40 : decode prog_9_method_14_code 40 = .ok (.iload_n 2, 1) ∧ 40 + 1 = 41 := by decide +kernel
theorem D_M_poursBy_41 : decode prog_9_method_14_code 41 = .ok (.iastore, 1) ∧ 41 + 1 = 42 := by decide +kernel
theorem D_M_poursBy_42 : decode prog_9_method_14_code 42 = .ok (.iload_n 3, 1) ∧ 42 + 1 = 43 := by decide +kernel
theorem D_M_poursBy_43 : decode prog_9_method_14_code 43 = .ok (.ifCond .ge 12, 3) ∧ ((43 : Nat) : Int) + 12 = ((55 : Nat) : Int) ∧ 43 + 3 = 46 := by decide +kernel
theorem D_M_poursBy_55 : decode prog_9_method_14_code 55 = .ok (.aload_n 0, 1) ∧ 55 + 1 = 56 := by decide +kernel
theorem D_M_poursBy_56 : decode prog_9_method_14_code 56 = .ok (.iload_n 3, 1) ∧ 56 + 1 = 57 := by decide +kernel
theorem D_M_poursBy_57 : decode prog_9_method_14_code 57 = .ok (.invokevirtual 110, 3) ∧ 57 + 3 = 60 := by decide +kernel
theorem D_M_poursBy_60 : decode prog_9_method_14_code 60 = .ok (.iconst 0, 1) ∧ 60 + 1 = 61 := by decide +kernel
theorem D_M_poursBy_61 : decode prog_9_method_14_code 61 = .ok (.sipush 999, 3) ∧ 61 + 3 = 64 := by decide +kernel
theorem D_M_poursBy_64 : decode prog_9_method_14_code 64 = .ok (.invokestatic 113, 3) ∧ 64 + 3 = 67 := by decide +kernel
theorem D_M_poursBy_67 : decode prog_9_method_14_code 67 = .ok (.istore 4, 2) ∧ 67 + 2 = 69 := by decide +kernel
theorem D_M_poursBy_69 : decode prog_9_method_14_code 69 = .ok (.aload_n 0, 1) ∧ 69 + 1 = 70 := by decide +kernel
theorem D_M_poursBy_70 : decode prog_9_method_14_code 70 = .ok (.iload_n 1, 1) ∧ 70 + 1 = 71 := by decide +kernel
theorem D_M_poursBy_71 : decode prog_9_method_14_code 71 = .ok (.iconst 0, 1) ∧ 71 + 1 = 72 := by decide +kernel
theorem D_M_poursBy_72 : decode prog_9_method_14_code 72 = .ok (.invokevirtual 93, 3) ∧ 72 + 3 = 75 := by decide +kernel
theorem D_M_poursBy_75 : decode prog_9_method_14_code 75 = .ok (.tableswitch 75 1 5 #[33, 38, 43, 59, 66], 33) := by decide +kernel
theorem D_M_poursBy_108 : decode prog_9_method_14_code 108 = .ok (.iload 4, 2) ∧ 108 + 2 = 110 := by decide +kernel
theorem D_M_poursBy_110 : decode prog_9_method_14_code 110 = .ok (.iconst 2, 1) ∧ 110 + 1 = 111 := by decide +kernel
theorem D_M_poursBy_111 : decode prog_9_method_14_code 111 = .ok (.idiv, 1) ∧ 111 + 1 = 112 := by decide +kernel
theorem D_M_poursBy_112 : decode prog_9_method_14_code 112 = .ok (.ireturn, 1) := by decide +kernel
theorem D_M_poursBy_113 : decode prog_9_method_14_code 113 = .ok (.iload 4, 2) ∧ 113 + 2 = 115 := by decide +kernel
theorem D_M_poursBy_115 : decode prog_9_method_14_code 115 = .ok (.iload_n 2, 1) ∧ 115 + 1 = 116 := by decide +kernel
theorem D_M_poursBy_116 : decode prog_9_method_14_code 116 = .ok (.iadd, 1) ∧ 116 + 1 = 117 := by decide +kernel
theorem D_M_poursBy_117 : decode prog_9_method_14_code 117 = .ok (.ireturn, 1) := by decide +kernel
theorem D_M_poursBy_118 : decode prog_9_method_14_code 118 = .ok (.iload 4, 2) ∧ 118 + 2 = 120 := by decide +kernel
theorem D_M_poursBy_120 : decode prog_9_method_14_code 120 = .ok (.iconst 2, 1) ∧ 120 + 1 = 121 := by decide +kernel
theorem D_M_poursBy_121 : decode prog_9_method_14_code 121 = .ok (.idiv, 1) ∧ 121 + 1 = 122 := by decide +kernel
theorem D_M_poursBy_122 : decode prog_9_method_14_code 122 = .ok (.iload_n 2, 1) ∧ 122 + 1 = 123 := by decide +kernel
theorem D_M_poursBy_123 : decode prog_9_method_14_code 123 = .ok (.iconst 3, 1) ∧ 123 + 1 = 124 := by decide +kernel
theorem D_M_poursBy_124 : decode prog_9_method_14_code 124 = .ok (.idiv, 1) ∧ 124 + 1 = 125 := by decide +kernel
theorem D_M_poursBy_125 : decode prog_9_method_14_code 125 = .ok (.isub, 1) ∧ 125 + 1 = 126 := by decide +kernel
theorem D_M_poursBy_126 : decode prog_9_method_14_code 126 = .ok (.iconst 0, 1) ∧ 126 + 1 = 127 := by decide +kernel
theorem D_M_poursBy_127 : decode prog_9_method_14_code 127 = .ok (.sipush 999, 3) ∧ 127 + 3 = 130 := by decide +kernel
theorem D_M_poursBy_130 : decode prog_9_method_14_code 130 = .ok (.invokestatic 113, 3) ∧ 130 + 3 = 133 := by decide +kernel
theorem D_M_poursBy_133 : decode prog_9_method_14_code 133 = .ok (.ireturn, 1) := by decide +kernel
theorem D_M_poursBy_134 : decode prog_9_method_14_code 134 = .ok (.iconst 2, 1) ∧ 134 + 1 = 135 := by decide +kernel
theorem D_M_poursBy_135 : decode prog_9_method_14_code 135 = .ok (.iload 4, 2) ∧ 135 + 2 = 137 := by decide +kernel
theorem D_M_poursBy_137 : decode prog_9_method_14_code 137 = .ok (.iload_n 2, 1) ∧ 137 + 1 = 138 := by decide +kernel
theorem D_M_poursBy_138 : decode prog_9_method_14_code 138 = .ok (.iadd, 1) ∧ 138 + 1 = 139 := by decide +kernel
theorem D_M_poursBy_139 : decode prog_9_method_14_code 139 = .ok (.imul, 1) ∧ 139 + 1 = 140 := by decide +kernel
theorem D_M_poursBy_140 : decode prog_9_method_14_code 140 = .ok (.ireturn, 1) := by decide +kernel
theorem D_M_poursBy_141 : decode prog_9_method_14_code 141 = .ok (.iload 4, 2) ∧ 141 + 2 = 143 := by decide +kernel
theorem D_M_poursBy_143 : decode prog_9_method_14_code 143 = .ok (.iconst 0, 1) ∧ 143 + 1 = 144 := by decide +kernel
theorem D_M_poursBy_144 : decode prog_9_method_14_code 144 = .ok (.bipush 9, 2) ∧ 144 + 2 = 146 := by decide +kernel
theorem D_M_poursBy_146 : decode prog_9_method_14_code 146 = .ok (.invokestatic 113, 3) ∧ 146 + 3 = 149 := by decide +kernel
theorem D_M_poursBy_149 : decode prog_9_method_14_code 149 = .ok (.ireturn, 1) := by decide +kernel
theorem D_M_poursBy_150 : decode prog_9_method_14_code 150 = .ok (.iload 4, 2) ∧ 150 + 2 = 152 := by decide +kernel
theorem D_M_poursBy_152 : decode prog_9_method_14_code 152 = .ok (.ireturn, 1) := by decide +kernel
theorem D_M_poursBy_75o : decode prog_9_method_14_code 75 = .ok (.tableswitch 75 1 5 #[33, 38, 43, 59, 66], 33) ∧ ((75 : Nat) : Int) + 75 = ((150 : Nat) : Int) := by decide +kernel
theorem D_M_poursBy_46 : decode prog_9_method_14_code 46 = .ok (.aload_n 0, 1) ∧ 46 + 1 = 47 := by decide +kernel
theorem D_M_poursBy_47 : decode prog_9_method_14_code 47 = .ok (.iload_n 1, 1) ∧ 47 + 1 = 48 := by decide +kernel
theorem D_M_poursBy_48 : decode prog_9_method_14_code 48 = .ok (.iconst 1, 1) ∧ 48 + 1 = 49 := by decide +kernel
theorem D_M_poursBy_49 : decode prog_9_method_14_code 49 = .ok (.invokevirtual 93, 3) ∧ 49 + 3 = 52 := by decide +kernel
theorem D_M_poursBy_52 : decode prog_9_method_14_code 52 = .ok (.goto 15, 3) ∧ ((52 : Nat) : Int) + 15 = ((67 : Nat) : Int) := by decide +kernel
def f_M_poursBy (N : Nat) (a1 : Int32) (a2 : Int32) (mem : Mm) : Option (Int32 × Mm) := bp (f_M_counts N 0 mem) fun r_2 => bp (f_M_of a1 1 mem) fun r_14 => lt (mst mem 103 (ix 0) r_14) fun m_17 => bp (f_M_of a1 2 m_17) fun r_27 => bp (f_M_at0 r_27 1 m_17) fun r_31 => lt (mst m_17 103 (ix 1) r_31) fun m_34 => lt (mst m_34 103 (ix 2) a2) fun m_41 => if 0 ≤ r_2 then bd (f_M_worksOut N r_2 m_41) fun r_57 m_57 => bp (f_M_within r_57 0 999) fun r_64 => bp (f_M_of a1 0 m_57) fun r_72 => if r_72 = 1 then some (r_64 / 2, m_57) else if r_72 = 2 then some (r_64 + a2, m_57) else if r_72 = 3 then bp (f_M_within ((r_64 / 2) - (a2 / 3)) 0 999) fun r_130 => some (r_130, m_57) else if r_72 = 4 then some (2 * (r_64 + a2), m_57) else if r_72 = 5 then bp (f_M_within r_64 0 9) fun r_146 => some (r_146, m_57) else some (r_64, m_57) else bp (f_M_of a1 1 m_41) fun r_49 => bp (f_M_of a1 0 m_41) fun r_72 => if r_72 = 1 then some (r_49 / 2, m_41) else if r_72 = 2 then some (r_49 + a2, m_41) else if r_72 = 3 then bp (f_M_within ((r_49 / 2) - (a2 / 3)) 0 999) fun r_130 => some (r_130, m_41) else if r_72 = 4 then some (2 * (r_49 + a2), m_41) else if r_72 = 5 then bp (f_M_within r_49 0 9) fun r_146 => some (r_146, m_41) else some (r_49, m_41)
theorem c_M_poursBy (l : Launch) (E : En) (N : Nat) (a1 : Int32) (a2 : Int32) {mem : Mm} {r : Int32} {m2 : Mm} (h : f_M_poursBy N a1 a2 mem = some (r, m2)) : CtI l E 2 y_M_poursBy prog_9_method_14_code 5 (some .int) [.ref (eb E + 91), .int a1, .int a2] SH mem r m2 := by
  refine mk_CtI ⟨by decide, (Nat.le_of_ble_eq_true rfl)⟩ (fun X S hl hR => ?_)
  have S : Std X E prog_9_method_14_code R6 5 2 := S
  show J X E 5 0 [(0, .ref (eb E + 91)), (1, .int a1), (2, .int a2)] [] SH mem
  unfold f_M_poursBy at h
  refine j_aload_n S D_M_poursBy_0 0 rfl rfl ?_
  refine j_iconst S D_M_poursBy_1 ci_0 ?_
  obtain ⟨r_2, e_2, h⟩ := bpE h
  refine j_callVI (As := [.int 0]) S D_M_poursBy_2 mv_R6_104 (c_M_counts (cxL X) E N 0 e_2) (by decide) sh_Mod rfl rfl rfl rfl (Nat.le_of_ble_eq_true rfl) ?_
  refine j_istore_n S D_M_poursBy_5 (lv := [(3, .int r_2), (0, .ref (eb E + 91)), (1, .int a1), (2, .int a2)]) rfl ⟨rfl, (Nat.le_of_ble_eq_true rfl)⟩ ?_
  refine j_aload_n S D_M_poursBy_6 1 rfl rfl ?_
  refine j_getR S D_M_poursBy_7 fl_R6_49 sh_Mod rfl ?_
  refine j_iconst S D_M_poursBy_10 ci_0 ?_
  refine j_aload_n S D_M_poursBy_11 1 rfl rfl ?_
  refine j_iload_n S D_M_poursBy_12 2 rfl rfl ?_
  refine j_iconst S D_M_poursBy_13 ci_1 ?_
  obtain ⟨r_14, e_14, h⟩ := bpE h
  refine j_callVI (As := [.int a1, .int 1]) S D_M_poursBy_14 mv_R6_93 (c_M_of (cxL X) E a1 1 e_14) (by decide) sh_Mod rfl rfl rfl rfl (Nat.le_of_ble_eq_true rfl) ?_
  obtain ⟨m_17, hm_17, h⟩ := ltE h
  refine j_iast S D_M_poursBy_17 sh_103 inbc_0_4 ?_
  refine j_mem hm_17 ?_
  refine j_aload_n S D_M_poursBy_18 1 rfl rfl ?_
  refine j_getR S D_M_poursBy_19 fl_R6_49 sh_Mod rfl ?_
  refine j_iconst S D_M_poursBy_22 ci_1 ?_
  refine j_aload_n S D_M_poursBy_23 1 rfl rfl ?_
  refine j_aload_n S D_M_poursBy_24 1 rfl rfl ?_
  refine j_iload_n S D_M_poursBy_25 2 rfl rfl ?_
  refine j_iconst S D_M_poursBy_26 ci_2 ?_
  obtain ⟨r_27, e_27, h⟩ := bpE h
  refine j_callVI (As := [.int a1, .int 2]) S D_M_poursBy_27 mv_R6_93 (c_M_of (cxL X) E a1 2 e_27) (by decide) sh_Mod rfl rfl rfl rfl (Nat.le_of_ble_eq_true rfl) ?_
  refine j_iconst S D_M_poursBy_30 ci_1 ?_
  obtain ⟨r_31, e_31, h⟩ := bpE h
  refine j_callVI (As := [.int r_27, .int 1]) S D_M_poursBy_31 mv_R6_107 (c_M_at0 (cxL X) E r_27 1 e_31) (by decide) sh_Mod rfl rfl rfl rfl (Nat.le_of_ble_eq_true rfl) ?_
  obtain ⟨m_34, hm_34, h⟩ := ltE h
  refine j_iast S D_M_poursBy_34 sh_103 inbc_1_4 ?_
  refine j_mem hm_34 ?_
  refine j_aload_n S D_M_poursBy_35 1 rfl rfl ?_
  refine j_getR S D_M_poursBy_36 fl_R6_49 sh_Mod rfl ?_
  refine j_iconst S D_M_poursBy_39 ci_2 ?_
  refine j_iload_n S D_M_poursBy_40 3 rfl rfl ?_
  obtain ⟨m_41, hm_41, h⟩ := ltE h
  refine j_iast S D_M_poursBy_41 sh_103 inbc_2_4 ?_
  refine j_mem hm_41 ?_
  refine j_iload_n S D_M_poursBy_42 0 rfl rfl ?_
  refine j_if_ge S D_M_poursBy_43 (fun c_43 => ?_) (fun c_43 => ?_)
  · have h := ifT c_43 h
    refine j_aload_n S D_M_poursBy_55 1 rfl rfl ?_
    refine j_iload_n S D_M_poursBy_56 0 rfl rfl ?_
    obtain ⟨r_57, m_57, e_57, h⟩ := bdE h
    refine j_callVI (As := [.int r_2]) S D_M_poursBy_57 mv_R6_110 (c_M_worksOut (cxL X) E N r_2 e_57) (by decide) sh_Mod rfl rfl rfl rfl (Nat.le_of_ble_eq_true rfl) ?_
    refine j_iconst S D_M_poursBy_60 ci_0 ?_
    refine j_sipush S D_M_poursBy_61 cs_999 ?_
    obtain ⟨r_64, e_64, h⟩ := bpE h
    refine j_callSI (As := [.int r_57, .int 0, .int 999]) S D_M_poursBy_64 ms_R6_113 (c_M_within (cxL X) E r_57 0 999 (mem := m_57) e_64) (by decide) rfl rfl (Nat.le_of_ble_eq_true rfl) ?_
    refine j_istore S D_M_poursBy_67 (lv := [(4, .int r_64), (3, .int r_2), (0, .ref (eb E + 91)), (1, .int a1), (2, .int a2)]) rfl (Nat.le_of_ble_eq_true rfl) ?_
    refine j_aload_n S D_M_poursBy_69 2 rfl rfl ?_
    refine j_iload_n S D_M_poursBy_70 3 rfl rfl ?_
    refine j_iconst S D_M_poursBy_71 ci_0 ?_
    obtain ⟨r_72, e_72, h⟩ := bpE h
    refine j_callVI (As := [.int a1, .int 0]) S D_M_poursBy_72 mv_R6_93 (c_M_of (cxL X) E a1 0 e_72) (by decide) sh_Mod rfl rfl rfl rfl (Nat.le_of_ble_eq_true rfl) ?_
    by_cases c_75_0 : r_72 = 1
    · have h := ifT c_75_0 h
      refine j_tabIn (tg := 108) (off := 33) S D_M_poursBy_75 1 c_75_0 (by decide +kernel) ?_
      refine j_iload S D_M_poursBy_108 0 rfl ?_
      refine j_iconst S D_M_poursBy_110 ci_2 ?_
      refine j_idiv S D_M_poursBy_111 nz_2 ?_
      exact rtM hR h _ _ D_M_poursBy_112
    · have h := ifF c_75_0 h
      by_cases c_75_1 : r_72 = 2
      · have h := ifT c_75_1 h
        refine j_tabIn (tg := 113) (off := 38) S D_M_poursBy_75 2 c_75_1 (by decide +kernel) ?_
        refine j_iload S D_M_poursBy_113 0 rfl ?_
        refine j_iload_n S D_M_poursBy_115 4 rfl rfl ?_
        refine j_iadd S D_M_poursBy_116 ?_
        exact rtM hR h _ _ D_M_poursBy_117
      · have h := ifF c_75_1 h
        by_cases c_75_2 : r_72 = 3
        · have h := ifT c_75_2 h
          refine j_tabIn (tg := 118) (off := 43) S D_M_poursBy_75 3 c_75_2 (by decide +kernel) ?_
          refine j_iload S D_M_poursBy_118 0 rfl ?_
          refine j_iconst S D_M_poursBy_120 ci_2 ?_
          refine j_idiv S D_M_poursBy_121 nz_2 ?_
          refine j_iload_n S D_M_poursBy_122 4 rfl rfl ?_
          refine j_iconst S D_M_poursBy_123 ci_3 ?_
          refine j_idiv S D_M_poursBy_124 nz_3 ?_
          refine j_isub S D_M_poursBy_125 ?_
          refine j_iconst S D_M_poursBy_126 ci_0 ?_
          refine j_sipush S D_M_poursBy_127 cs_999 ?_
          obtain ⟨r_130, e_130, h⟩ := bpE h
          refine j_callSI (As := [.int ((r_64 / 2) - (a2 / 3)), .int 0, .int 999]) S D_M_poursBy_130 ms_R6_113 (c_M_within (cxL X) E ((r_64 / 2) - (a2 / 3)) 0 999 (mem := m_57) e_130) (by decide) rfl rfl (Nat.le_of_ble_eq_true rfl) ?_
          exact rtM hR h _ _ D_M_poursBy_133
        · have h := ifF c_75_2 h
          by_cases c_75_3 : r_72 = 4
          · have h := ifT c_75_3 h
            refine j_tabIn (tg := 134) (off := 59) S D_M_poursBy_75 4 c_75_3 (by decide +kernel) ?_
            refine j_iconst S D_M_poursBy_134 ci_2 ?_
            refine j_iload S D_M_poursBy_135 0 rfl ?_
            refine j_iload_n S D_M_poursBy_137 4 rfl rfl ?_
            refine j_iadd S D_M_poursBy_138 ?_
            refine j_imul S D_M_poursBy_139 ?_
            exact rtM hR h _ _ D_M_poursBy_140
          · have h := ifF c_75_3 h
            by_cases c_75_4 : r_72 = 5
            · have h := ifT c_75_4 h
              refine j_tabIn (tg := 141) (off := 66) S D_M_poursBy_75 5 c_75_4 (by decide +kernel) ?_
              refine j_iload S D_M_poursBy_141 0 rfl ?_
              refine j_iconst S D_M_poursBy_143 ci_0 ?_
              refine j_bipush S D_M_poursBy_144 cb_9 ?_
              obtain ⟨r_146, e_146, h⟩ := bpE h
              refine j_callSI (As := [.int r_64, .int 0, .int 9]) S D_M_poursBy_146 ms_R6_113 (c_M_within (cxL X) E r_64 0 9 (mem := m_57) e_146) (by decide) rfl rfl (Nat.le_of_ble_eq_true rfl) ?_
              exact rtM hR h _ _ D_M_poursBy_149
            · have h := ifF c_75_4 h
              refine j_tabOut S D_M_poursBy_75o (tout_1_5 c_75_0 c_75_1 c_75_2 c_75_3 c_75_4) ?_
              refine j_iload S D_M_poursBy_150 0 rfl ?_
              exact rtM hR h _ _ D_M_poursBy_152
  · have h := ifF c_43 h
    refine j_aload_n S D_M_poursBy_46 1 rfl rfl ?_
    refine j_iload_n S D_M_poursBy_47 2 rfl rfl ?_
    refine j_iconst S D_M_poursBy_48 ci_1 ?_
    obtain ⟨r_49, e_49, h⟩ := bpE h
    refine j_callVI (As := [.int a1, .int 1]) S D_M_poursBy_49 mv_R6_93 (c_M_of (cxL X) E a1 1 e_49) (by decide) sh_Mod rfl rfl rfl rfl (Nat.le_of_ble_eq_true rfl) ?_
    refine j_goto S D_M_poursBy_52 ?_
    refine j_istore S D_M_poursBy_67 (lv := [(4, .int r_49), (3, .int r_2), (0, .ref (eb E + 91)), (1, .int a1), (2, .int a2)]) rfl (Nat.le_of_ble_eq_true rfl) ?_
    refine j_aload_n S D_M_poursBy_69 2 rfl rfl ?_
    refine j_iload_n S D_M_poursBy_70 3 rfl rfl ?_
    refine j_iconst S D_M_poursBy_71 ci_0 ?_
    obtain ⟨r_72, e_72, h⟩ := bpE h
    refine j_callVI (As := [.int a1, .int 0]) S D_M_poursBy_72 mv_R6_93 (c_M_of (cxL X) E a1 0 e_72) (by decide) sh_Mod rfl rfl rfl rfl (Nat.le_of_ble_eq_true rfl) ?_
    by_cases c_75_0 : r_72 = 1
    · have h := ifT c_75_0 h
      refine j_tabIn (tg := 108) (off := 33) S D_M_poursBy_75 1 c_75_0 (by decide +kernel) ?_
      refine j_iload S D_M_poursBy_108 0 rfl ?_
      refine j_iconst S D_M_poursBy_110 ci_2 ?_
      refine j_idiv S D_M_poursBy_111 nz_2 ?_
      exact rtM hR h _ _ D_M_poursBy_112
    · have h := ifF c_75_0 h
      by_cases c_75_1 : r_72 = 2
      · have h := ifT c_75_1 h
        refine j_tabIn (tg := 113) (off := 38) S D_M_poursBy_75 2 c_75_1 (by decide +kernel) ?_
        refine j_iload S D_M_poursBy_113 0 rfl ?_
        refine j_iload_n S D_M_poursBy_115 4 rfl rfl ?_
        refine j_iadd S D_M_poursBy_116 ?_
        exact rtM hR h _ _ D_M_poursBy_117
      · have h := ifF c_75_1 h
        by_cases c_75_2 : r_72 = 3
        · have h := ifT c_75_2 h
          refine j_tabIn (tg := 118) (off := 43) S D_M_poursBy_75 3 c_75_2 (by decide +kernel) ?_
          refine j_iload S D_M_poursBy_118 0 rfl ?_
          refine j_iconst S D_M_poursBy_120 ci_2 ?_
          refine j_idiv S D_M_poursBy_121 nz_2 ?_
          refine j_iload_n S D_M_poursBy_122 4 rfl rfl ?_
          refine j_iconst S D_M_poursBy_123 ci_3 ?_
          refine j_idiv S D_M_poursBy_124 nz_3 ?_
          refine j_isub S D_M_poursBy_125 ?_
          refine j_iconst S D_M_poursBy_126 ci_0 ?_
          refine j_sipush S D_M_poursBy_127 cs_999 ?_
          obtain ⟨r_130, e_130, h⟩ := bpE h
          refine j_callSI (As := [.int ((r_49 / 2) - (a2 / 3)), .int 0, .int 999]) S D_M_poursBy_130 ms_R6_113 (c_M_within (cxL X) E ((r_49 / 2) - (a2 / 3)) 0 999 (mem := m_41) e_130) (by decide) rfl rfl (Nat.le_of_ble_eq_true rfl) ?_
          exact rtM hR h _ _ D_M_poursBy_133
        · have h := ifF c_75_2 h
          by_cases c_75_3 : r_72 = 4
          · have h := ifT c_75_3 h
            refine j_tabIn (tg := 134) (off := 59) S D_M_poursBy_75 4 c_75_3 (by decide +kernel) ?_
            refine j_iconst S D_M_poursBy_134 ci_2 ?_
            refine j_iload S D_M_poursBy_135 0 rfl ?_
            refine j_iload_n S D_M_poursBy_137 4 rfl rfl ?_
            refine j_iadd S D_M_poursBy_138 ?_
            refine j_imul S D_M_poursBy_139 ?_
            exact rtM hR h _ _ D_M_poursBy_140
          · have h := ifF c_75_3 h
            by_cases c_75_4 : r_72 = 5
            · have h := ifT c_75_4 h
              refine j_tabIn (tg := 141) (off := 66) S D_M_poursBy_75 5 c_75_4 (by decide +kernel) ?_
              refine j_iload S D_M_poursBy_141 0 rfl ?_
              refine j_iconst S D_M_poursBy_143 ci_0 ?_
              refine j_bipush S D_M_poursBy_144 cb_9 ?_
              obtain ⟨r_146, e_146, h⟩ := bpE h
              refine j_callSI (As := [.int r_49, .int 0, .int 9]) S D_M_poursBy_146 ms_R6_113 (c_M_within (cxL X) E r_49 0 9 (mem := m_41) e_146) (by decide) rfl rfl (Nat.le_of_ble_eq_true rfl) ?_
              exact rtM hR h _ _ D_M_poursBy_149
            · have h := ifF c_75_4 h
              refine j_tabOut S D_M_poursBy_75o (tout_1_5 c_75_0 c_75_1 c_75_2 c_75_3 c_75_4) ?_
              refine j_iload S D_M_poursBy_150 0 rfl ?_
              exact rtM hR h _ _ D_M_poursBy_152
