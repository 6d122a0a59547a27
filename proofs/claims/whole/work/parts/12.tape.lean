def y_T_addBytes : MethodName := ⟨"SandPicture$Tape", "addBytes", "(I)V"⟩
theorem D_T_addBytes_0 : decode prog_6_method_2_code 0 = .ok (.bipush 24, 2) ∧ 0 + 2 = 2 := by decide +kernel
theorem D_T_addBytes_2 : decode prog_6_method_2_code 2 = .ok (.istore_n 2, 1) ∧ 2 + 1 = 3 := by decide +kernel
theorem D_T_addBytes_3 : decode prog_6_method_2_code 3 = .ok (.iload_n 2, 1) ∧ 3 + 1 = 4 := by decide +kernel
theorem D_T_addBytes_4 : decode prog_6_method_2_code 4 = .ok (.ifCond .lt 47, 3) ∧ ((4 : Nat) : Int) + 47 = ((51 : Nat) : Int) ∧ 4 + 3 = 7 := by decide +kernel
theorem D_T_addBytes_7 : decode prog_6_method_2_code 7 = .ok (.aload_n 0, 1) ∧ 7 + 1 = 8 := by decide +kernel
theorem D_T_addBytes_8 : decode prog_6_method_2_code 8 = .ok (.getfield 9, 3) ∧ 8 + 3 = 11 := by decide +kernel
theorem D_T_addBytes_11 : decode prog_6_method_2_code 11 = .ok (.aload_n 0, 1) ∧ 11 + 1 = 12 := by decide +kernel
theorem D_T_addBytes_12 : decode prog_6_method_2_code 12 = .ok (.getfield 15, 3) ∧ 12 + 3 = 15 := by decide +kernel
theorem D_T_addBytes_15 : decode prog_6_method_2_code 15 = .ok (.arraylength, 1) ∧ 15 + 1 = 16 := by decide +kernel
theorem D_T_addBytes_16 : decode prog_6_method_2_code 16 = .ok (.if_icmp .ge 29, 3) ∧ ((16 : Nat) : Int) + 29 = ((45 : Nat) : Int) ∧ 16 + 3 = 19 := by decide +kernel
theorem D_T_addBytes_45 : decode prog_6_method_2_code 45 = .ok (.iinc 2 (-8), 3) ∧ 45 + 3 = 48 := by decide +kernel
theorem D_T_addBytes_48 : decode prog_6_method_2_code 48 = .ok (.goto (-45), 3) ∧ ((48 : Nat) : Int) + (-45) = ((3 : Nat) : Int) := by decide +kernel
theorem D_T_addBytes_19 : decode prog_6_method_2_code 19 = .ok (.aload_n 0, 1) ∧ 19 + 1 = 20 := by decide +kernel
theorem D_T_addBytes_20 : decode prog_6_method_2_code 20 = .ok (.getfield 15, 3) ∧ 20 + 3 = 23 := by decide +kernel
theorem D_T_addBytes_23 : decode prog_6_method_2_code 23 = .ok (.aload_n 0, 1) ∧ 23 + 1 = 24 := by decide +kernel
theorem D_T_addBytes_24 : decode prog_6_method_2_code 24 = .ok (.getfield 9, 3) ∧ 24 + 3 = 27 := by decide +kernel
theorem D_T_addBytes_27 : decode prog_6_method_2_code 27 = .ok (.iload_n 1, 1) ∧ 27 + 1 = 28 := by decide +kernel
theorem D_T_addBytes_28 : decode prog_6_method_2_code 28 = .ok (.iload_n 2, 1) ∧ 28 + 1 = 29 := by decide +kernel
theorem D_T_addBytes_29 : decode prog_6_method_2_code 29 = .ok (.iushr, 1) ∧ 29 + 1 = 30 := by decide +kernel
theorem D_T_addBytes_30 : decode prog_6_method_2_code 30 = .ok (.sipush 255, 3) ∧ 30 + 3 = 33 := by decide +kernel
theorem D_T_addBytes_33 : decode prog_6_method_2_code 33 = .ok (.iand, 1) ∧ 33 + 1 = 34 := by decide +kernel
theorem D_T_addBytes_34 : decode prog_6_method_2_code 34 = .ok (.iastore, 1) ∧ 34 + 1 = 35 := by decide +kernel
theorem D_T_addBytes_35 : decode prog_6_method_2_code 35 = .ok (.aload_n 0, 1) ∧ 35 + 1 = 36 := by decide +kernel
theorem D_T_addBytes_36 : decode prog_6_method_2_code 36 = .ok (.dup, 1) ∧ 36 + 1 = 37 := by decide +kernel
theorem D_T_addBytes_37 : decode prog_6_method_2_code 37 = .ok (.getfield 9, 3) ∧ 37 + 3 = 40 := by decide +kernel
theorem D_T_addBytes_40 : decode prog_6_method_2_code 40 = .ok (.iconst 1, 1) ∧ 40 + 1 = 41 := by decide +kernel
theorem D_T_addBytes_41 : decode prog_6_method_2_code 41 = .ok (.iadd, 1) ∧ 41 + 1 = 42 := by decide +kernel
theorem D_T_addBytes_42 : decode prog_6_method_2_code 42 = .ok (.putfield 9, 3) ∧ 42 + 3 = 45 := by decide +kernel
theorem D_T_addBytes_51 : decode prog_6_method_2_code 51 = .ok (.return_, 1) := by decide +kernel
def f_T_addBytes_L3  : Nat → Int32 → Int32 → Mm → Option (Int32 × Mm)
  | 0, _, _, _ => none
  | n + 1, b1, b2, mem => if b2 < 0 then some (b2, mem) else if 96 ≤ mem 2 0 then f_T_addBytes_L3 n b1 (b2 + (-8)) mem else if inb (mem 2 0) 96 = true then lt (mst mem 3 (ix (mem 2 0)) (((b1.toUInt32 >>> (b2.toUInt32 &&& Int32.toUInt32 31)).toInt32) &&& 255)) fun m_34 => lt (mst m_34 2 0 ((m_34 2 0) + 1)) fun m_42 => f_T_addBytes_L3 n b1 (b2 + (-8)) m_42 else none
def f_T_addBytes (N : Nat) (a1 : Int32) (mem : Mm) : Option (Mm) := bd (f_T_addBytes_L3 N a1 24 mem) fun y_3 m_3 => some m_3
theorem L_T_addBytes_3 {X : Cx} {E : En} (S : Std X E prog_6_method_2_code R3 3 0)  : ∀ (n : Nat) (b1 : Int32) (b2 : Int32) (mem : Mm) (z : Int32) (m2 : Mm), f_T_addBytes_L3 n b1 b2 mem = some (z, m2) → J X E 3 51 [(0, .ref (eb E + 2)), (1, .int b1), (2, .int z)] [] SH m2 → J X E 3 3 [(0, .ref (eb E + 2)), (1, .int b1), (2, .int b2)] [] SH mem := by
  intro n
  induction n with
  | zero =>
    intro b1 b2 mem z m2 h hk; cases h
  | succ n ih =>
    intro b1 b2 mem z m2 h hk
    rw [f_T_addBytes_L3] at h
    refine j_iload_n S D_T_addBytes_3 2 rfl rfl ?_
    refine j_if_lt S D_T_addBytes_4 (fun c_4 => ?_) (fun c_4 => ?_)
    · have h := ifT c_4 h
      cases h
      exact j_locals [0, 1, 2] rfl hk
    · have h := ifF c_4 h
      refine j_aload_n S D_T_addBytes_7 0 rfl rfl ?_
      refine j_getI S D_T_addBytes_8 fl_R3_9 sh_Tape rfl ?_
      refine j_aload_n S D_T_addBytes_11 0 rfl rfl ?_
      refine j_getR S D_T_addBytes_12 fl_R3_15 sh_Tape rfl ?_
      refine j_alen S D_T_addBytes_15 sh_3 cn_96 ?_
      refine j_icmp_ge S D_T_addBytes_16 (fun c_16 => ?_) (fun c_16 => ?_)
      · have h := ifT c_16 h
        refine j_iinc S D_T_addBytes_45 2 rfl (congrArg (fun z => b2 + z) ci_m8) (lv := [(2, .int (b2 + (-8))), (0, .ref (eb E + 2)), (1, .int b1)]) rfl (Nat.le_of_ble_eq_true rfl) ?_
        refine j_goto S D_T_addBytes_48 ?_
        refine j_locals [1, 2, 0] rfl (ih b1 (b2 + (-8)) mem _ _ h hk)
      · have h := ifF c_16 h
        refine j_aload_n S D_T_addBytes_19 0 rfl rfl ?_
        refine j_getR S D_T_addBytes_20 fl_R3_15 sh_Tape rfl ?_
        refine j_aload_n S D_T_addBytes_23 0 rfl rfl ?_
        refine j_getI S D_T_addBytes_24 fl_R3_9 sh_Tape rfl ?_
        refine j_iload_n S D_T_addBytes_27 1 rfl rfl ?_
        refine j_iload_n S D_T_addBytes_28 2 rfl rfl ?_
        refine j_iushr S D_T_addBytes_29 ?_
        refine j_sipush S D_T_addBytes_30 cs_255 ?_
        refine j_iand S D_T_addBytes_33 ?_
        obtain ⟨g_34, h⟩ := gdE h
        obtain ⟨m_34, hm_34, h⟩ := ltE h
        refine j_iast S D_T_addBytes_34 sh_3 g_34 ?_
        refine j_mem hm_34 ?_
        refine j_aload_n S D_T_addBytes_35 0 rfl rfl ?_
        refine j_dup S D_T_addBytes_36 rfl ?_
        refine j_getI S D_T_addBytes_37 fl_R3_9 sh_Tape rfl ?_
        refine j_iconst S D_T_addBytes_40 ci_1 ?_
        refine j_iadd S D_T_addBytes_41 ?_
        obtain ⟨m_42, hm_42, h⟩ := ltE h
        refine j_putI S D_T_addBytes_42 fp_R3_9 sh_Tape rfl ?_
        refine j_mem hm_42 ?_
        refine j_iinc S D_T_addBytes_45 2 rfl (congrArg (fun z => b2 + z) ci_m8) (lv := [(2, .int (b2 + (-8))), (0, .ref (eb E + 2)), (1, .int b1)]) rfl (Nat.le_of_ble_eq_true rfl) ?_
        refine j_goto S D_T_addBytes_48 ?_
        refine j_locals [1, 2, 0] rfl (ih b1 (b2 + (-8)) m_42 _ _ h hk)
theorem c_T_addBytes (l : Launch) (E : En) (N : Nat) (a1 : Int32) {mem : Mm} {m2 : Mm} (h : f_T_addBytes N a1 mem = some m2) : CtV l E 0 y_T_addBytes prog_6_method_2_code 3 [.ref (eb E + 2), .int a1] SH mem m2 := by
  refine mk_CtV ⟨by decide, (Nat.le_of_ble_eq_true rfl)⟩ (fun X S hl hR => ?_)
  have S : Std X E prog_6_method_2_code R3 3 0 := S
  show J X E 3 0 [(0, .ref (eb E + 2)), (1, .int a1)] [] SH mem
  unfold f_T_addBytes at h
  refine j_bipush S D_T_addBytes_0 cb_24 ?_
  refine j_istore_n S D_T_addBytes_2 (lv := [(2, .int 24), (0, .ref (eb E + 2)), (1, .int a1)]) rfl ⟨rfl, (Nat.le_of_ble_eq_true rfl)⟩ ?_
  refine j_locals [1, 2, 0] rfl ?_
  obtain ⟨y_3, m_3, e_3, h⟩ := bdE h
  refine L_T_addBytes_3 S  N a1 24 mem _ _ e_3 ?_
  exact rtV hR h _ _ D_T_addBytes_51

def y_T_fail : MethodName := ⟨"SandPicture$Tape", "fail", "()V"⟩
theorem D_T_fail_0 : decode prog_6_method_4_code 0 = .ok (.aload_n 0, 1) ∧ 0 + 1 = 1 := by decide +kernel
theorem D_T_fail_1 : decode prog_6_method_4_code 1 = .ok (.getfield 29, 3) ∧ 1 + 3 = 4 := by decide +kernel
theorem D_T_fail_4 : decode prog_6_method_4_code 4 = .ok (.iconst (-1), 1) ∧ 4 + 1 = 5 := by decide +kernel
theorem D_T_fail_5 : decode prog_6_method_4_code 5 = .ok (.if_icmp .ne 11, 3) ∧ ((5 : Nat) : Int) + 11 = ((16 : Nat) : Int) ∧ 5 + 3 = 8 := by decide +kernel
theorem D_T_fail_16 : decode prog_6_method_4_code 16 = .ok (.return_, 1) := by decide +kernel
theorem D_T_fail_8 : decode prog_6_method_4_code 8 = .ok (.aload_n 0, 1) ∧ 8 + 1 = 9 := by decide +kernel
theorem D_T_fail_9 : decode prog_6_method_4_code 9 = .ok (.aload_n 0, 1) ∧ 9 + 1 = 10 := by decide +kernel
theorem D_T_fail_10 : decode prog_6_method_4_code 10 = .ok (.getfield 19, 3) ∧ 10 + 3 = 13 := by decide +kernel
theorem D_T_fail_13 : decode prog_6_method_4_code 13 = .ok (.putfield 29, 3) ∧ 13 + 3 = 16 := by decide +kernel
def f_T_fail  (mem : Mm) : Option (Mm) := if mem 2 5 = (-1) then lt (mst mem 2 5 (mem 2 2)) fun m_13 => some m_13 else some mem
theorem c_T_fail (l : Launch) (E : En)  {mem : Mm} {m2 : Mm} (h : f_T_fail mem = some m2) : CtV l E 0 y_T_fail prog_6_method_4_code 1 [.ref (eb E + 2)] SH mem m2 := by
  refine mk_CtV ⟨by decide, (Nat.le_of_ble_eq_true rfl)⟩ (fun X S hl hR => ?_)
  have S : Std X E prog_6_method_4_code R3 1 0 := S
  show J X E 1 0 [(0, .ref (eb E + 2))] [] SH mem
  unfold f_T_fail at h
  refine j_aload_n S D_T_fail_0 0 rfl rfl ?_
  refine j_getI S D_T_fail_1 fl_R3_29 sh_Tape rfl ?_
  refine j_iconst S D_T_fail_4 ci_m1 ?_
  refine j_icmp_ne S D_T_fail_5 (fun c_5 => ?_) (fun c_5 => ?_)
  · have h := ifF c_5 h
    exact rtV hR h _ _ D_T_fail_16
  · have h := ifT c_5 h
    refine j_aload_n S D_T_fail_8 0 rfl rfl ?_
    refine j_aload_n S D_T_fail_9 0 rfl rfl ?_
    refine j_getI S D_T_fail_10 fl_R3_19 sh_Tape rfl ?_
    obtain ⟨m_13, hm_13, h⟩ := ltE h
    refine j_putI S D_T_fail_13 fp_R3_29 sh_Tape rfl ?_
    refine j_mem hm_13 ?_
    exact rtV hR h _ _ D_T_fail_16

def y_T_here : MethodName := ⟨"SandPicture$Tape", "here", "()I"⟩
theorem D_T_here_0 : decode prog_6_method_5_code 0 = .ok (.aload_n 0, 1) ∧ 0 + 1 = 1 := by decide +kernel
theorem D_T_here_1 : decode prog_6_method_5_code 1 = .ok (.getfield 19, 3) ∧ 1 + 3 = 4 := by decide +kernel
theorem D_T_here_4 : decode prog_6_method_5_code 4 = .ok (.aload_n 0, 1) ∧ 4 + 1 = 5 := by decide +kernel
theorem D_T_here_5 : decode prog_6_method_5_code 5 = .ok (.getfield 9, 3) ∧ 5 + 3 = 8 := by decide +kernel
theorem D_T_here_8 : decode prog_6_method_5_code 8 = .ok (.if_icmp .ge 27, 3) ∧ ((8 : Nat) : Int) + 27 = ((35 : Nat) : Int) ∧ 8 + 3 = 11 := by decide +kernel
theorem D_T_here_35 : decode prog_6_method_5_code 35 = .ok (.iconst (-1), 1) ∧ 35 + 1 = 36 := by decide +kernel
theorem D_T_here_36 : decode prog_6_method_5_code 36 = .ok (.ireturn, 1) := by decide +kernel
theorem D_T_here_11 : decode prog_6_method_5_code 11 = .ok (.aload_n 0, 1) ∧ 11 + 1 = 12 := by decide +kernel
theorem D_T_here_12 : decode prog_6_method_5_code 12 = .ok (.getfield 19, 3) ∧ 12 + 3 = 15 := by decide +kernel
theorem D_T_here_15 : decode prog_6_method_5_code 15 = .ok (.aload_n 0, 1) ∧ 15 + 1 = 16 := by decide +kernel
theorem D_T_here_16 : decode prog_6_method_5_code 16 = .ok (.getfield 15, 3) ∧ 16 + 3 = 19 := by decide +kernel
theorem D_T_here_19 : decode prog_6_method_5_code 19 = .ok (.arraylength, 1) ∧ 19 + 1 = 20 := by decide +kernel
theorem D_T_here_20 : decode prog_6_method_5_code 20 = .ok (.if_icmp .ge 15, 3) ∧ ((20 : Nat) : Int) + 15 = ((35 : Nat) : Int) ∧ 20 + 3 = 23 := by decide +kernel
theorem D_T_here_23 : decode prog_6_method_5_code 23 = .ok (.aload_n 0, 1) ∧ 23 + 1 = 24 := by decide +kernel
theorem D_T_here_24 : decode prog_6_method_5_code 24 = .ok (.getfield 15, 3) ∧ 24 + 3 = 27 := by decide +kernel
theorem D_T_here_27 : decode prog_6_method_5_code 27 = .ok (.aload_n 0, 1) ∧ 27 + 1 = 28 := by decide +kernel
theorem D_T_here_28 : decode prog_6_method_5_code 28 = .ok (.getfield 19, 3) ∧ 28 + 3 = 31 := by decide +kernel
theorem D_T_here_31 : decode prog_6_method_5_code 31 = .ok (.iaload, 1) ∧ 31 + 1 = 32 := by decide +kernel
theorem D_T_here_32 : decode prog_6_method_5_code 32 = .ok (.goto 4, 3) ∧ ((32 : Nat) : Int) + 4 = ((36 : Nat) : Int) := by decide +kernel
def f_T_here  (mem : Mm) : Option (Int32) := if mem 2 0 ≤ mem 2 2 then some (-1) else if 96 ≤ mem 2 2 then some (-1) else if inb (mem 2 2) 96 = true then some (mem 3 (ix (mem 2 2))) else none
theorem c_T_here (l : Launch) (E : En)  {mem : Mm} {r : Int32} (h : f_T_here mem = some r) : CtI l E 0 y_T_here prog_6_method_5_code 1 (some .int) [.ref (eb E + 2)] SH mem r mem := by
  refine mk_CtI ⟨by decide, (Nat.le_of_ble_eq_true rfl)⟩ (fun X S hl hR => ?_)
  have S : Std X E prog_6_method_5_code R3 1 0 := S
  show J X E 1 0 [(0, .ref (eb E + 2))] [] SH mem
  unfold f_T_here at h
  refine j_aload_n S D_T_here_0 0 rfl rfl ?_
  refine j_getI S D_T_here_1 fl_R3_19 sh_Tape rfl ?_
  refine j_aload_n S D_T_here_4 0 rfl rfl ?_
  refine j_getI S D_T_here_5 fl_R3_9 sh_Tape rfl ?_
  refine j_icmp_ge S D_T_here_8 (fun c_8 => ?_) (fun c_8 => ?_)
  · have h := ifT c_8 h
    refine j_iconst S D_T_here_35 ci_m1 ?_
    exact rtI hR h _ _ D_T_here_36
  · have h := ifF c_8 h
    refine j_aload_n S D_T_here_11 0 rfl rfl ?_
    refine j_getI S D_T_here_12 fl_R3_19 sh_Tape rfl ?_
    refine j_aload_n S D_T_here_15 0 rfl rfl ?_
    refine j_getR S D_T_here_16 fl_R3_15 sh_Tape rfl ?_
    refine j_alen S D_T_here_19 sh_3 cn_96 ?_
    refine j_icmp_ge S D_T_here_20 (fun c_20 => ?_) (fun c_20 => ?_)
    · have h := ifT c_20 h
      refine j_iconst S D_T_here_35 ci_m1 ?_
      exact rtI hR h _ _ D_T_here_36
    · have h := ifF c_20 h
      refine j_aload_n S D_T_here_23 0 rfl rfl ?_
      refine j_getR S D_T_here_24 fl_R3_15 sh_Tape rfl ?_
      refine j_aload_n S D_T_here_27 0 rfl rfl ?_
      refine j_getI S D_T_here_28 fl_R3_19 sh_Tape rfl ?_
      obtain ⟨g_31, h⟩ := gdE h
      refine j_iald S D_T_here_31 sh_3 g_31 ?_
      refine j_goto S D_T_here_32 ?_
      exact rtI hR h _ _ D_T_here_36

def y_T_isLetter : MethodName := ⟨"SandPicture$Tape", "isLetter", "(I)Z"⟩
theorem D_T_isLetter_0 : decode prog_6_method_6_code 0 = .ok (.iload_n 0, 1) ∧ 0 + 1 = 1 := by decide +kernel
theorem D_T_isLetter_1 : decode prog_6_method_6_code 1 = .ok (.bipush 97, 2) ∧ 1 + 2 = 3 := by decide +kernel
theorem D_T_isLetter_16 : decode prog_6_method_6_code 16 = .ok (.iconst 0, 1) ∧ 16 + 1 = 17 := by decide +kernel
theorem D_T_isLetter_6 : decode prog_6_method_6_code 6 = .ok (.iload_n 0, 1) ∧ 6 + 1 = 7 := by decide +kernel
theorem D_T_isLetter_7 : decode prog_6_method_6_code 7 = .ok (.bipush 122, 2) ∧ 7 + 2 = 9 := by decide +kernel
theorem D_T_isLetter_12 : decode prog_6_method_6_code 12 = .ok (.iconst 1, 1) ∧ 12 + 1 = 13 := by decide +kernel
theorem D_T_isLetter_13 : decode prog_6_method_6_code 13 = .ok (.goto 4, 3) ∧ ((13 : Nat) : Int) + 4 = ((17 : Nat) : Int) := by decide +kernel
theorem D_T_isLetter_9 : decode prog_6_method_6_code 9 = .ok (.if_icmp .gt 7, 3) ∧ ((9 : Nat) : Int) + 7 = ((16 : Nat) : Int) ∧ 9 + 3 = 12 := by decide +kernel
theorem D_T_isLetter_3 : decode prog_6_method_6_code 3 = .ok (.if_icmp .lt 13, 3) ∧ ((3 : Nat) : Int) + 13 = ((16 : Nat) : Int) ∧ 3 + 3 = 6 := by decide +kernel
theorem D_T_isLetter_17 : decode prog_6_method_6_code 17 = .ok (.ireturn, 1) := by decide +kernel
def f_T_isLetter (a1 : Int32) : Option (Int32) := some (if a1 < 97 then (0 : Int32) else if 122 < a1 then (0 : Int32) else 1)
theorem c_T_isLetter (l : Launch) (E : En) (a1 : Int32) {mem : Mm} {r : Int32} (h : f_T_isLetter a1 = some r) : CtI l E 0 y_T_isLetter prog_6_method_6_code 1 (some .boolean) [.int a1] SH mem r mem := by
  refine mk_CtZ ⟨by decide, (Nat.le_of_ble_eq_true rfl)⟩ (fun X S hl hR => ?_)
  have S : Std X E prog_6_method_6_code R3 1 0 := S
  show J X E 1 0 [(0, .int a1)] [] SH mem
  unfold f_T_isLetter at h
  refine j_iload_n S D_T_isLetter_0 0 rfl rfl ?_
  refine j_bipush S D_T_isLetter_1 cb_97 ?_
  refine j_dia (P := J X E 1 17 [(0, .int a1)] [.int (if a1 < 97 then (0 : Int32) else if 122 < a1 then (0 : Int32) else 1)] SH mem) (fun hj => ?_) ?_
  · refine j_icmp_lt S D_T_isLetter_3 (fun c_3 => ?_) (fun c_3 => ?_)
    · refine j_iconst S D_T_isLetter_16 ci_0 ?_
      exact j_jnT hj c_3
    · refine j_iload_n S D_T_isLetter_6 0 rfl rfl ?_
      refine j_bipush S D_T_isLetter_7 cb_122 ?_
      refine j_dia (P := J X E 1 17 [(0, .int a1)] [.int (if 122 < a1 then (0 : Int32) else 1)] SH mem) (fun hj => ?_) ?_
      · refine j_icmp_gt S D_T_isLetter_9 (fun c_9 => ?_) (fun c_9 => ?_)
        · refine j_iconst S D_T_isLetter_16 ci_0 ?_
          exact j_jnT hj c_9
        · refine j_iconst S D_T_isLetter_12 ci_1 ?_
          refine j_goto S D_T_isLetter_13 ?_
          exact j_jnF hj c_9
      exact j_jnF hj c_3
  exact rtIZ hR h (isb_ite isb0 (isb_ite isb0 isb1)) _ _ D_T_isLetter_17

def y_T_isDigit : MethodName := ⟨"SandPicture$Tape", "isDigit", "(I)Z"⟩
theorem D_T_isDigit_0 : decode prog_6_method_7_code 0 = .ok (.iload_n 0, 1) ∧ 0 + 1 = 1 := by decide +kernel
theorem D_T_isDigit_1 : decode prog_6_method_7_code 1 = .ok (.bipush 48, 2) ∧ 1 + 2 = 3 := by decide +kernel
theorem D_T_isDigit_16 : decode prog_6_method_7_code 16 = .ok (.iconst 0, 1) ∧ 16 + 1 = 17 := by decide +kernel
theorem D_T_isDigit_6 : decode prog_6_method_7_code 6 = .ok (.iload_n 0, 1) ∧ 6 + 1 = 7 := by decide +kernel
theorem D_T_isDigit_7 : decode prog_6_method_7_code 7 = .ok (.bipush 57, 2) ∧ 7 + 2 = 9 := by decide +kernel
theorem D_T_isDigit_12 : decode prog_6_method_7_code 12 = .ok (.iconst 1, 1) ∧ 12 + 1 = 13 := by decide +kernel
theorem D_T_isDigit_13 : decode prog_6_method_7_code 13 = .ok (.goto 4, 3) ∧ ((13 : Nat) : Int) + 4 = ((17 : Nat) : Int) := by decide +kernel
theorem D_T_isDigit_9 : decode prog_6_method_7_code 9 = .ok (.if_icmp .gt 7, 3) ∧ ((9 : Nat) : Int) + 7 = ((16 : Nat) : Int) ∧ 9 + 3 = 12 := by decide +kernel
theorem D_T_isDigit_3 : decode prog_6_method_7_code 3 = .ok (.if_icmp .lt 13, 3) ∧ ((3 : Nat) : Int) + 13 = ((16 : Nat) : Int) ∧ 3 + 3 = 6 := by decide +kernel
theorem D_T_isDigit_17 : decode prog_6_method_7_code 17 = .ok (.ireturn, 1) := by decide +kernel
def f_T_isDigit (a1 : Int32) : Option (Int32) := some (if a1 < 48 then (0 : Int32) else if 57 < a1 then (0 : Int32) else 1)
theorem c_T_isDigit (l : Launch) (E : En) (a1 : Int32) {mem : Mm} {r : Int32} (h : f_T_isDigit a1 = some r) : CtI l E 0 y_T_isDigit prog_6_method_7_code 1 (some .boolean) [.int a1] SH mem r mem := by
  refine mk_CtZ ⟨by decide, (Nat.le_of_ble_eq_true rfl)⟩ (fun X S hl hR => ?_)
  have S : Std X E prog_6_method_7_code R3 1 0 := S
  show J X E 1 0 [(0, .int a1)] [] SH mem
  unfold f_T_isDigit at h
  refine j_iload_n S D_T_isDigit_0 0 rfl rfl ?_
  refine j_bipush S D_T_isDigit_1 cb_48 ?_
  refine j_dia (P := J X E 1 17 [(0, .int a1)] [.int (if a1 < 48 then (0 : Int32) else if 57 < a1 then (0 : Int32) else 1)] SH mem) (fun hj => ?_) ?_
  · refine j_icmp_lt S D_T_isDigit_3 (fun c_3 => ?_) (fun c_3 => ?_)
    · refine j_iconst S D_T_isDigit_16 ci_0 ?_
      exact j_jnT hj c_3
    · refine j_iload_n S D_T_isDigit_6 0 rfl rfl ?_
      refine j_bipush S D_T_isDigit_7 cb_57 ?_
      refine j_dia (P := J X E 1 17 [(0, .int a1)] [.int (if 57 < a1 then (0 : Int32) else 1)] SH mem) (fun hj => ?_) ?_
      · refine j_icmp_gt S D_T_isDigit_9 (fun c_9 => ?_) (fun c_9 => ?_)
        · refine j_iconst S D_T_isDigit_16 ci_0 ?_
          exact j_jnT hj c_9
        · refine j_iconst S D_T_isDigit_12 ci_1 ?_
          refine j_goto S D_T_isDigit_13 ?_
          exact j_jnF hj c_9
      exact j_jnF hj c_3
  exact rtIZ hR h (isb_ite isb0 (isb_ite isb0 isb1)) _ _ D_T_isDigit_17

def y_T_step : MethodName := ⟨"SandPicture$Tape", "step", "()V"⟩
theorem D_T_step_0 : decode prog_6_method_8_code 0 = .ok (.aload_n 0, 1) ∧ 0 + 1 = 1 := by decide +kernel
theorem D_T_step_1 : decode prog_6_method_8_code 1 = .ok (.getfield 22, 3) ∧ 1 + 3 = 4 := by decide +kernel
theorem D_T_step_4 : decode prog_6_method_8_code 4 = .ok (.aload_n 0, 1) ∧ 4 + 1 = 5 := by decide +kernel
theorem D_T_step_5 : decode prog_6_method_8_code 5 = .ok (.getfield 19, 3) ∧ 5 + 3 = 8 := by decide +kernel
theorem D_T_step_8 : decode prog_6_method_8_code 8 = .ok (.if_icmp .le 27, 3) ∧ ((8 : Nat) : Int) + 27 = ((35 : Nat) : Int) ∧ 8 + 3 = 11 := by decide +kernel
theorem D_T_step_35 : decode prog_6_method_8_code 35 = .ok (.iconst 0, 1) ∧ 35 + 1 = 36 := by decide +kernel
theorem D_T_step_36 : decode prog_6_method_8_code 36 = .ok (.istore_n 1, 1) ∧ 36 + 1 = 37 := by decide +kernel
theorem D_T_step_37 : decode prog_6_method_8_code 37 = .ok (.aload_n 0, 1) ∧ 37 + 1 = 38 := by decide +kernel
theorem D_T_step_38 : decode prog_6_method_8_code 38 = .ok (.getfield 22, 3) ∧ 38 + 3 = 41 := by decide +kernel
theorem D_T_step_41 : decode prog_6_method_8_code 41 = .ok (.istore_n 2, 1) ∧ 41 + 1 = 42 := by decide +kernel
theorem D_T_step_42 : decode prog_6_method_8_code 42 = .ok (.aload_n 0, 1) ∧ 42 + 1 = 43 := by decide +kernel
theorem D_T_step_43 : decode prog_6_method_8_code 43 = .ok (.aload_n 0, 1) ∧ 43 + 1 = 44 := by decide +kernel
theorem D_T_step_44 : decode prog_6_method_8_code 44 = .ok (.getfield 22, 3) ∧ 44 + 3 = 47 := by decide +kernel
theorem D_T_step_47 : decode prog_6_method_8_code 47 = .ok (.putfield 19, 3) ∧ 47 + 3 = 50 := by decide +kernel
theorem D_T_step_50 : decode prog_6_method_8_code 50 = .ok (.aload_n 0, 1) ∧ 50 + 1 = 51 := by decide +kernel
theorem D_T_step_51 : decode prog_6_method_8_code 51 = .ok (.getfield 19, 3) ∧ 51 + 3 = 54 := by decide +kernel
theorem D_T_step_54 : decode prog_6_method_8_code 54 = .ok (.aload_n 0, 1) ∧ 54 + 1 = 55 := by decide +kernel
theorem D_T_step_55 : decode prog_6_method_8_code 55 = .ok (.getfield 9, 3) ∧ 55 + 3 = 58 := by decide +kernel
theorem D_T_step_58 : decode prog_6_method_8_code 58 = .ok (.if_icmp .ge 30, 3) ∧ ((58 : Nat) : Int) + 30 = ((88 : Nat) : Int) ∧ 58 + 3 = 61 := by decide +kernel
theorem D_T_step_61 : decode prog_6_method_8_code 61 = .ok (.aload_n 0, 1) ∧ 61 + 1 = 62 := by decide +kernel
theorem D_T_step_62 : decode prog_6_method_8_code 62 = .ok (.getfield 15, 3) ∧ 62 + 3 = 65 := by decide +kernel
theorem D_T_step_65 : decode prog_6_method_8_code 65 = .ok (.aload_n 0, 1) ∧ 65 + 1 = 66 := by decide +kernel
theorem D_T_step_66 : decode prog_6_method_8_code 66 = .ok (.getfield 19, 3) ∧ 66 + 3 = 69 := by decide +kernel
theorem D_T_step_69 : decode prog_6_method_8_code 69 = .ok (.iaload, 1) ∧ 69 + 1 = 70 := by decide +kernel
theorem D_T_step_70 : decode prog_6_method_8_code 70 = .ok (.bipush 32, 2) ∧ 70 + 2 = 72 := by decide +kernel
theorem D_T_step_72 : decode prog_6_method_8_code 72 = .ok (.if_icmp .ne 16, 3) ∧ ((72 : Nat) : Int) + 16 = ((88 : Nat) : Int) ∧ 72 + 3 = 75 := by decide +kernel
theorem D_T_step_75 : decode prog_6_method_8_code 75 = .ok (.aload_n 0, 1) ∧ 75 + 1 = 76 := by decide +kernel
theorem D_T_step_76 : decode prog_6_method_8_code 76 = .ok (.dup, 1) ∧ 76 + 1 = 77 := by decide +kernel
theorem D_T_step_77 : decode prog_6_method_8_code 77 = .ok (.getfield 19, 3) ∧ 77 + 3 = 80 := by decide +kernel
theorem D_T_step_80 : decode prog_6_method_8_code 80 = .ok (.iconst 1, 1) ∧ 80 + 1 = 81 := by decide +kernel
theorem D_T_step_81 : decode prog_6_method_8_code 81 = .ok (.iadd, 1) ∧ 81 + 1 = 82 := by decide +kernel
theorem D_T_step_82 : decode prog_6_method_8_code 82 = .ok (.putfield 19, 3) ∧ 82 + 3 = 85 := by decide +kernel
theorem D_T_step_85 : decode prog_6_method_8_code 85 = .ok (.goto (-35), 3) ∧ ((85 : Nat) : Int) + (-35) = ((50 : Nat) : Int) := by decide +kernel
theorem D_T_step_88 : decode prog_6_method_8_code 88 = .ok (.aload_n 0, 1) ∧ 88 + 1 = 89 := by decide +kernel
theorem D_T_step_89 : decode prog_6_method_8_code 89 = .ok (.invokevirtual 48, 3) ∧ 89 + 3 = 92 := by decide +kernel
theorem D_T_step_92 : decode prog_6_method_8_code 92 = .ok (.invokestatic 55, 3) ∧ 92 + 3 = 95 := by decide +kernel
theorem D_T_step_95 : decode prog_6_method_8_code 95 = .ok (.istore_n 3, 1) ∧ 95 + 1 = 96 := by decide +kernel
theorem D_T_step_96 : decode prog_6_method_8_code 96 = .ok (.aload_n 0, 1) ∧ 96 + 1 = 97 := by decide +kernel
theorem D_T_step_97 : decode prog_6_method_8_code 97 = .ok (.invokevirtual 48, 3) ∧ 97 + 3 = 100 := by decide +kernel
theorem D_T_step_100 : decode prog_6_method_8_code 100 = .ok (.invokestatic 59, 3) ∧ 100 + 3 = 103 := by decide +kernel
theorem D_T_step_103 : decode prog_6_method_8_code 103 = .ok (.istore 4, 2) ∧ 103 + 2 = 105 := by decide +kernel
theorem D_T_step_105 : decode prog_6_method_8_code 105 = .ok (.aload_n 0, 1) ∧ 105 + 1 = 106 := by decide +kernel
theorem D_T_step_106 : decode prog_6_method_8_code 106 = .ok (.aload_n 0, 1) ∧ 106 + 1 = 107 := by decide +kernel
theorem D_T_step_107 : decode prog_6_method_8_code 107 = .ok (.getfield 9, 3) ∧ 107 + 3 = 110 := by decide +kernel
theorem D_T_step_110 : decode prog_6_method_8_code 110 = .ok (.aload_n 0, 1) ∧ 110 + 1 = 111 := by decide +kernel
theorem D_T_step_111 : decode prog_6_method_8_code 111 = .ok (.getfield 19, 3) ∧ 111 + 3 = 114 := by decide +kernel
theorem D_T_step_114 : decode prog_6_method_8_code 114 = .ok (.iconst 1, 1) ∧ 114 + 1 = 115 := by decide +kernel
theorem D_T_step_115 : decode prog_6_method_8_code 115 = .ok (.iadd, 1) ∧ 115 + 1 = 116 := by decide +kernel
theorem D_T_step_116 : decode prog_6_method_8_code 116 = .ok (.invokestatic 62, 3) ∧ 116 + 3 = 119 := by decide +kernel
theorem D_T_step_119 : decode prog_6_method_8_code 119 = .ok (.putfield 22, 3) ∧ 119 + 3 = 122 := by decide +kernel
theorem D_T_step_122 : decode prog_6_method_8_code 122 = .ok (.aload_n 0, 1) ∧ 122 + 1 = 123 := by decide +kernel
theorem D_T_step_123 : decode prog_6_method_8_code 123 = .ok (.getfield 22, 3) ∧ 123 + 3 = 126 := by decide +kernel
theorem D_T_step_126 : decode prog_6_method_8_code 126 = .ok (.aload_n 0, 1) ∧ 126 + 1 = 127 := by decide +kernel
theorem D_T_step_127 : decode prog_6_method_8_code 127 = .ok (.getfield 9, 3) ∧ 127 + 3 = 130 := by decide +kernel
theorem D_T_step_130 : decode prog_6_method_8_code 130 = .ok (.if_icmp .ge 55, 3) ∧ ((130 : Nat) : Int) + 55 = ((185 : Nat) : Int) ∧ 130 + 3 = 133 := by decide +kernel
theorem D_T_step_133 : decode prog_6_method_8_code 133 = .ok (.iload_n 3, 1) ∧ 133 + 1 = 134 := by decide +kernel
theorem D_T_step_134 : decode prog_6_method_8_code 134 = .ok (.ifCond .eq 18, 3) ∧ ((134 : Nat) : Int) + 18 = ((152 : Nat) : Int) ∧ 134 + 3 = 137 := by decide +kernel
theorem D_T_step_152 : decode prog_6_method_8_code 152 = .ok (.iload 4, 2) ∧ 152 + 2 = 154 := by decide +kernel
theorem D_T_step_154 : decode prog_6_method_8_code 154 = .ok (.ifCond .eq 31, 3) ∧ ((154 : Nat) : Int) + 31 = ((185 : Nat) : Int) ∧ 154 + 3 = 157 := by decide +kernel
theorem D_T_step_157 : decode prog_6_method_8_code 157 = .ok (.aload_n 0, 1) ∧ 157 + 1 = 158 := by decide +kernel
theorem D_T_step_158 : decode prog_6_method_8_code 158 = .ok (.getfield 15, 3) ∧ 158 + 3 = 161 := by decide +kernel
theorem D_T_step_161 : decode prog_6_method_8_code 161 = .ok (.aload_n 0, 1) ∧ 161 + 1 = 162 := by decide +kernel
theorem D_T_step_162 : decode prog_6_method_8_code 162 = .ok (.getfield 22, 3) ∧ 162 + 3 = 165 := by decide +kernel
theorem D_T_step_165 : decode prog_6_method_8_code 165 = .ok (.iaload, 1) ∧ 165 + 1 = 166 := by decide +kernel
theorem D_T_step_166 : decode prog_6_method_8_code 166 = .ok (.invokestatic 59, 3) ∧ 166 + 3 = 169 := by decide +kernel
theorem D_T_step_169 : decode prog_6_method_8_code 169 = .ok (.ifCond .eq 16, 3) ∧ ((169 : Nat) : Int) + 16 = ((185 : Nat) : Int) ∧ 169 + 3 = 172 := by decide +kernel
theorem D_T_step_172 : decode prog_6_method_8_code 172 = .ok (.aload_n 0, 1) ∧ 172 + 1 = 173 := by decide +kernel
theorem D_T_step_173 : decode prog_6_method_8_code 173 = .ok (.dup, 1) ∧ 173 + 1 = 174 := by decide +kernel
theorem D_T_step_174 : decode prog_6_method_8_code 174 = .ok (.getfield 22, 3) ∧ 174 + 3 = 177 := by decide +kernel
theorem D_T_step_177 : decode prog_6_method_8_code 177 = .ok (.iconst 1, 1) ∧ 177 + 1 = 178 := by decide +kernel
theorem D_T_step_178 : decode prog_6_method_8_code 178 = .ok (.iadd, 1) ∧ 178 + 1 = 179 := by decide +kernel
theorem D_T_step_179 : decode prog_6_method_8_code 179 = .ok (.putfield 22, 3) ∧ 179 + 3 = 182 := by decide +kernel
theorem D_T_step_182 : decode prog_6_method_8_code 182 = .ok (.goto (-60), 3) ∧ ((182 : Nat) : Int) + (-60) = ((122 : Nat) : Int) := by decide +kernel
theorem D_T_step_137 : decode prog_6_method_8_code 137 = .ok (.aload_n 0, 1) ∧ 137 + 1 = 138 := by decide +kernel
theorem D_T_step_138 : decode prog_6_method_8_code 138 = .ok (.getfield 15, 3) ∧ 138 + 3 = 141 := by decide +kernel
theorem D_T_step_141 : decode prog_6_method_8_code 141 = .ok (.aload_n 0, 1) ∧ 141 + 1 = 142 := by decide +kernel
theorem D_T_step_142 : decode prog_6_method_8_code 142 = .ok (.getfield 22, 3) ∧ 142 + 3 = 145 := by decide +kernel
theorem D_T_step_145 : decode prog_6_method_8_code 145 = .ok (.iaload, 1) ∧ 145 + 1 = 146 := by decide +kernel
theorem D_T_step_146 : decode prog_6_method_8_code 146 = .ok (.invokestatic 55, 3) ∧ 146 + 3 = 149 := by decide +kernel
theorem D_T_step_149 : decode prog_6_method_8_code 149 = .ok (.ifCond .ne 23, 3) ∧ ((149 : Nat) : Int) + 23 = ((172 : Nat) : Int) ∧ 149 + 3 = 152 := by decide +kernel
theorem D_T_step_185 : decode prog_6_method_8_code 185 = .ok (.aload_n 0, 1) ∧ 185 + 1 = 186 := by decide +kernel
theorem D_T_step_186 : decode prog_6_method_8_code 186 = .ok (.iload_n 1, 1) ∧ 186 + 1 = 187 := by decide +kernel
theorem D_T_step_187 : decode prog_6_method_8_code 187 = .ok (.ifCond .eq 24, 3) ∧ ((187 : Nat) : Int) + 24 = ((211 : Nat) : Int) ∧ 187 + 3 = 190 := by decide +kernel
theorem D_T_step_211 : decode prog_6_method_8_code 211 = .ok (.iconst 0, 1) ∧ 211 + 1 = 212 := by decide +kernel
theorem D_T_step_212 : decode prog_6_method_8_code 212 = .ok (.putfield 25, 3) ∧ 212 + 3 = 215 := by decide +kernel
theorem D_T_step_215 : decode prog_6_method_8_code 215 = .ok (.return_, 1) := by decide +kernel
theorem D_T_step_11 : decode prog_6_method_8_code 11 = .ok (.aload_n 0, 1) ∧ 11 + 1 = 12 := by decide +kernel
theorem D_T_step_12 : decode prog_6_method_8_code 12 = .ok (.invokevirtual 48, 3) ∧ 12 + 3 = 15 := by decide +kernel
theorem D_T_step_15 : decode prog_6_method_8_code 15 = .ok (.invokestatic 55, 3) ∧ 15 + 3 = 18 := by decide +kernel
theorem D_T_step_18 : decode prog_6_method_8_code 18 = .ok (.ifCond .ne 13, 3) ∧ ((18 : Nat) : Int) + 13 = ((31 : Nat) : Int) ∧ 18 + 3 = 21 := by decide +kernel
theorem D_T_step_31 : decode prog_6_method_8_code 31 = .ok (.iconst 1, 1) ∧ 31 + 1 = 32 := by decide +kernel
theorem D_T_step_32 : decode prog_6_method_8_code 32 = .ok (.goto 4, 3) ∧ ((32 : Nat) : Int) + 4 = ((36 : Nat) : Int) := by decide +kernel
theorem D_T_step_190 : decode prog_6_method_8_code 190 = .ok (.aload_n 0, 1) ∧ 190 + 1 = 191 := by decide +kernel
theorem D_T_step_191 : decode prog_6_method_8_code 191 = .ok (.getfield 19, 3) ∧ 191 + 3 = 194 := by decide +kernel
theorem D_T_step_194 : decode prog_6_method_8_code 194 = .ok (.iload_n 2, 1) ∧ 194 + 1 = 195 := by decide +kernel
theorem D_T_step_198 : decode prog_6_method_8_code 198 = .ok (.iload_n 3, 1) ∧ 198 + 1 = 199 := by decide +kernel
theorem D_T_step_207 : decode prog_6_method_8_code 207 = .ok (.iconst 1, 1) ∧ 207 + 1 = 208 := by decide +kernel
theorem D_T_step_208 : decode prog_6_method_8_code 208 = .ok (.goto 4, 3) ∧ ((208 : Nat) : Int) + 4 = ((212 : Nat) : Int) := by decide +kernel
theorem D_T_step_202 : decode prog_6_method_8_code 202 = .ok (.iload 4, 2) ∧ 202 + 2 = 204 := by decide +kernel
theorem D_T_step_204 : decode prog_6_method_8_code 204 = .ok (.ifCond .eq 7, 3) ∧ ((204 : Nat) : Int) + 7 = ((211 : Nat) : Int) ∧ 204 + 3 = 207 := by decide +kernel
theorem D_T_step_199 : decode prog_6_method_8_code 199 = .ok (.ifCond .ne 8, 3) ∧ ((199 : Nat) : Int) + 8 = ((207 : Nat) : Int) ∧ 199 + 3 = 202 := by decide +kernel
theorem D_T_step_195 : decode prog_6_method_8_code 195 = .ok (.if_icmp .ne 16, 3) ∧ ((195 : Nat) : Int) + 16 = ((211 : Nat) : Int) ∧ 195 + 3 = 198 := by decide +kernel
theorem D_T_step_21 : decode prog_6_method_8_code 21 = .ok (.aload_n 0, 1) ∧ 21 + 1 = 22 := by decide +kernel
theorem D_T_step_22 : decode prog_6_method_8_code 22 = .ok (.invokevirtual 48, 3) ∧ 22 + 3 = 25 := by decide +kernel
theorem D_T_step_25 : decode prog_6_method_8_code 25 = .ok (.invokestatic 59, 3) ∧ 25 + 3 = 28 := by decide +kernel
theorem D_T_step_28 : decode prog_6_method_8_code 28 = .ok (.ifCond .eq 7, 3) ∧ ((28 : Nat) : Int) + 7 = ((35 : Nat) : Int) ∧ 28 + 3 = 31 := by decide +kernel
def f_T_step_L50  : Nat → Int32 → Int32 → Mm → Option Mm
  | 0, _, _, _ => none
  | n + 1, b1, b2, mem => if mem 2 0 ≤ mem 2 2 then some mem else if inb (mem 2 2) 96 = true then if mem 3 (ix (mem 2 2)) = 32 then lt (mst mem 2 2 ((mem 2 2) + 1)) fun m_82 => f_T_step_L50 n b1 b2 m_82 else some mem else none
def f_T_step_L122  : Nat → Int32 → Int32 → Int32 → Int32 → Mm → Option Mm
  | 0, _, _, _, _, _ => none
  | n + 1, b1, b2, b3, b4, mem => if mem 2 0 ≤ mem 2 3 then some mem else if b3 = 0 then if b4 = 0 then some mem else if inb (mem 2 3) 96 = true then bp (f_T_isDigit (mem 3 (ix (mem 2 3)))) fun r_166 => if r_166 = 0 then some mem else lt (mst mem 2 3 ((mem 2 3) + 1)) fun m_179 => f_T_step_L122 n b1 b2 b3 b4 m_179 else none else if inb (mem 2 3) 96 = true then bp (f_T_isLetter (mem 3 (ix (mem 2 3)))) fun r_146 => if r_146 = 0 then if b4 = 0 then some mem else bp (f_T_isDigit (mem 3 (ix (mem 2 3)))) fun r_166 => if r_166 = 0 then some mem else lt (mst mem 2 3 ((mem 2 3) + 1)) fun m_179 => f_T_step_L122 n b1 b2 b3 b4 m_179 else lt (mst mem 2 3 ((mem 2 3) + 1)) fun m_179 => f_T_step_L122 n b1 b2 b3 b4 m_179 else none
def f_T_step (N : Nat)  (mem : Mm) : Option (Mm) := if mem 2 3 ≤ mem 2 2 then lt (mem 2 3) fun x_41 => lt (mst mem 2 2 (mem 2 3)) fun m_47 => bp (f_T_step_L50 N 0 x_41 m_47) fun m_50 => bp (f_T_here m_50) fun r_89 => bp (f_T_isLetter r_89) fun r_92 => bp (f_T_here m_50) fun r_97 => bp (f_T_isDigit r_97) fun r_100 => lt (mst m_50 2 3 (if ((m_50 2 2) + 1) < (m_50 2 0) then (m_50 2 2) + 1 else m_50 2 0)) fun m_119 => bp (f_T_step_L122 N 0 x_41 r_92 r_100 m_119) fun m_122 => lt (mst m_122 2 4 0) fun m_212 => some m_212 else bp (f_T_here mem) fun r_12 => bp (f_T_isLetter r_12) fun r_15 => if r_15 = 0 then bp (f_T_here mem) fun r_22 => bp (f_T_isDigit r_22) fun r_25 => lt (if r_25 = 0 then (0 : Int32) else 1) fun x_36 => lt (mem 2 3) fun x_41 => lt (mst mem 2 2 (mem 2 3)) fun m_47 => bp (f_T_step_L50 N x_36 x_41 m_47) fun m_50 => bp (f_T_here m_50) fun r_89 => bp (f_T_isLetter r_89) fun r_92 => bp (f_T_here m_50) fun r_97 => bp (f_T_isDigit r_97) fun r_100 => lt (mst m_50 2 3 (if ((m_50 2 2) + 1) < (m_50 2 0) then (m_50 2 2) + 1 else m_50 2 0)) fun m_119 => bp (f_T_step_L122 N x_36 x_41 r_92 r_100 m_119) fun m_122 => lt (mst m_122 2 4 (if x_36 = 0 then (0 : Int32) else if m_122 2 2 = x_41 then if r_92 = 0 then if r_100 = 0 then (0 : Int32) else 1 else 1 else 0)) fun m_212 => some m_212 else lt (mem 2 3) fun x_41 => lt (mst mem 2 2 (mem 2 3)) fun m_47 => bp (f_T_step_L50 N 1 x_41 m_47) fun m_50 => bp (f_T_here m_50) fun r_89 => bp (f_T_isLetter r_89) fun r_92 => bp (f_T_here m_50) fun r_97 => bp (f_T_isDigit r_97) fun r_100 => lt (mst m_50 2 3 (if ((m_50 2 2) + 1) < (m_50 2 0) then (m_50 2 2) + 1 else m_50 2 0)) fun m_119 => bp (f_T_step_L122 N 1 x_41 r_92 r_100 m_119) fun m_122 => lt (mst m_122 2 4 (if m_122 2 2 = x_41 then if r_92 = 0 then if r_100 = 0 then (0 : Int32) else 1 else 1 else 0)) fun m_212 => some m_212
theorem L_T_step_50 {X : Cx} {E : En} (S : Std X E prog_6_method_8_code R3 5 1)  : ∀ (n : Nat) (b1 : Int32) (b2 : Int32) (mem : Mm) (m2 : Mm), f_T_step_L50 n b1 b2 mem = some m2 → J X E 5 88 [(0, .ref (eb E + 2)), (1, .int b1), (2, .int b2)] [] SH m2 → J X E 5 50 [(0, .ref (eb E + 2)), (1, .int b1), (2, .int b2)] [] SH mem := by
  intro n
  induction n with
  | zero =>
    intro b1 b2 mem m2 h hk; cases h
  | succ n ih =>
    intro b1 b2 mem m2 h hk
    rw [f_T_step_L50] at h
    refine j_aload_n S D_T_step_50 0 rfl rfl ?_
    refine j_getI S D_T_step_51 fl_R3_19 sh_Tape rfl ?_
    refine j_aload_n S D_T_step_54 0 rfl rfl ?_
    refine j_getI S D_T_step_55 fl_R3_9 sh_Tape rfl ?_
    refine j_icmp_ge S D_T_step_58 (fun c_58 => ?_) (fun c_58 => ?_)
    · have h := ifT c_58 h
      cases h
      exact j_locals [0, 1, 2] rfl hk
    · have h := ifF c_58 h
      refine j_aload_n S D_T_step_61 0 rfl rfl ?_
      refine j_getR S D_T_step_62 fl_R3_15 sh_Tape rfl ?_
      refine j_aload_n S D_T_step_65 0 rfl rfl ?_
      refine j_getI S D_T_step_66 fl_R3_19 sh_Tape rfl ?_
      obtain ⟨g_69, h⟩ := gdE h
      refine j_iald S D_T_step_69 sh_3 g_69 ?_
      refine j_bipush S D_T_step_70 cb_32 ?_
      refine j_icmp_ne S D_T_step_72 (fun c_72 => ?_) (fun c_72 => ?_)
      · have h := ifF c_72 h
        cases h
        exact j_locals [0, 1, 2] rfl hk
      · have h := ifT c_72 h
        refine j_aload_n S D_T_step_75 0 rfl rfl ?_
        refine j_dup S D_T_step_76 rfl ?_
        refine j_getI S D_T_step_77 fl_R3_19 sh_Tape rfl ?_
        refine j_iconst S D_T_step_80 ci_1 ?_
        refine j_iadd S D_T_step_81 ?_
        obtain ⟨m_82, hm_82, h⟩ := ltE h
        refine j_putI S D_T_step_82 fp_R3_19 sh_Tape rfl ?_
        refine j_mem hm_82 ?_
        refine j_goto S D_T_step_85 ?_
        refine j_locals [0, 1, 2] rfl (ih b1 b2 m_82 _ h hk)
theorem L_T_step_122 {X : Cx} {E : En} (S : Std X E prog_6_method_8_code R3 5 1)  : ∀ (n : Nat) (b1 : Int32) (b2 : Int32) (b3 : Int32) (b4 : Int32) (mem : Mm) (m2 : Mm), f_T_step_L122 n b1 b2 b3 b4 mem = some m2 → J X E 5 185 [(0, .ref (eb E + 2)), (1, .int b1), (2, .int b2), (3, .int b3), (4, .int b4)] [] SH m2 → J X E 5 122 [(0, .ref (eb E + 2)), (1, .int b1), (2, .int b2), (3, .int b3), (4, .int b4)] [] SH mem := by
  intro n
  induction n with
  | zero =>
    intro b1 b2 b3 b4 mem m2 h hk; cases h
  | succ n ih =>
    intro b1 b2 b3 b4 mem m2 h hk
    rw [f_T_step_L122] at h
    refine j_aload_n S D_T_step_122 0 rfl rfl ?_
    refine j_getI S D_T_step_123 fl_R3_22 sh_Tape rfl ?_
    refine j_aload_n S D_T_step_126 0 rfl rfl ?_
    refine j_getI S D_T_step_127 fl_R3_9 sh_Tape rfl ?_
    refine j_icmp_ge S D_T_step_130 (fun c_130 => ?_) (fun c_130 => ?_)
    · have h := ifT c_130 h
      cases h
      exact j_locals [0, 1, 2, 3, 4] rfl hk
    · have h := ifF c_130 h
      refine j_iload_n S D_T_step_133 3 rfl rfl ?_
      refine j_if_eq S D_T_step_134 (fun c_134 => ?_) (fun c_134 => ?_)
      · have h := ifT c_134 h
        refine j_iload S D_T_step_152 4 rfl ?_
        refine j_if_eq S D_T_step_154 (fun c_154 => ?_) (fun c_154 => ?_)
        · have h := ifT c_154 h
          cases h
          exact j_locals [0, 1, 2, 3, 4] rfl hk
        · have h := ifF c_154 h
          refine j_aload_n S D_T_step_157 0 rfl rfl ?_
          refine j_getR S D_T_step_158 fl_R3_15 sh_Tape rfl ?_
          refine j_aload_n S D_T_step_161 0 rfl rfl ?_
          refine j_getI S D_T_step_162 fl_R3_22 sh_Tape rfl ?_
          obtain ⟨g_165, h⟩ := gdE h
          refine j_iald S D_T_step_165 sh_3 g_165 ?_
          obtain ⟨r_166, e_166, h⟩ := bpE h
          refine j_callSI (As := [.int (mem 3 (ix (mem 2 3)))]) S D_T_step_166 ms_R3_59 (c_T_isDigit (cxL X) E (mem 3 (ix (mem 2 3))) (mem := mem) e_166) (by decide) rfl rfl (Nat.le_of_ble_eq_true rfl) ?_
          refine j_if_eq S D_T_step_169 (fun c_169 => ?_) (fun c_169 => ?_)
          · have h := ifT c_169 h
            cases h
            exact j_locals [0, 1, 2, 3, 4] rfl hk
          · have h := ifF c_169 h
            refine j_aload_n S D_T_step_172 0 rfl rfl ?_
            refine j_dup S D_T_step_173 rfl ?_
            refine j_getI S D_T_step_174 fl_R3_22 sh_Tape rfl ?_
            refine j_iconst S D_T_step_177 ci_1 ?_
            refine j_iadd S D_T_step_178 ?_
            obtain ⟨m_179, hm_179, h⟩ := ltE h
            refine j_putI S D_T_step_179 fp_R3_22 sh_Tape rfl ?_
            refine j_mem hm_179 ?_
            refine j_goto S D_T_step_182 ?_
            refine j_locals [0, 1, 2, 3, 4] rfl (ih b1 b2 b3 b4 m_179 _ h hk)
      · have h := ifF c_134 h
        refine j_aload_n S D_T_step_137 0 rfl rfl ?_
        refine j_getR S D_T_step_138 fl_R3_15 sh_Tape rfl ?_
        refine j_aload_n S D_T_step_141 0 rfl rfl ?_
        refine j_getI S D_T_step_142 fl_R3_22 sh_Tape rfl ?_
        obtain ⟨g_145, h⟩ := gdE h
        refine j_iald S D_T_step_145 sh_3 g_145 ?_
        obtain ⟨r_146, e_146, h⟩ := bpE h
        refine j_callSI (As := [.int (mem 3 (ix (mem 2 3)))]) S D_T_step_146 ms_R3_55 (c_T_isLetter (cxL X) E (mem 3 (ix (mem 2 3))) (mem := mem) e_146) (by decide) rfl rfl (Nat.le_of_ble_eq_true rfl) ?_
        refine j_if_ne S D_T_step_149 (fun c_149 => ?_) (fun c_149 => ?_)
        · have h := ifF c_149 h
          refine j_aload_n S D_T_step_172 0 rfl rfl ?_
          refine j_dup S D_T_step_173 rfl ?_
          refine j_getI S D_T_step_174 fl_R3_22 sh_Tape rfl ?_
          refine j_iconst S D_T_step_177 ci_1 ?_
          refine j_iadd S D_T_step_178 ?_
          obtain ⟨m_179, hm_179, h⟩ := ltE h
          refine j_putI S D_T_step_179 fp_R3_22 sh_Tape rfl ?_
          refine j_mem hm_179 ?_
          refine j_goto S D_T_step_182 ?_
          refine j_locals [0, 1, 2, 3, 4] rfl (ih b1 b2 b3 b4 m_179 _ h hk)
        · have h := ifT c_149 h
          refine j_iload S D_T_step_152 4 rfl ?_
          refine j_if_eq S D_T_step_154 (fun c_154 => ?_) (fun c_154 => ?_)
          · have h := ifT c_154 h
            cases h
            exact j_locals [0, 1, 2, 3, 4] rfl hk
          · have h := ifF c_154 h
            refine j_aload_n S D_T_step_157 0 rfl rfl ?_
            refine j_getR S D_T_step_158 fl_R3_15 sh_Tape rfl ?_
            refine j_aload_n S D_T_step_161 0 rfl rfl ?_
            refine j_getI S D_T_step_162 fl_R3_22 sh_Tape rfl ?_
            refine j_iald S D_T_step_165 sh_3 g_145 ?_
            obtain ⟨r_166, e_166, h⟩ := bpE h
            refine j_callSI (As := [.int (mem 3 (ix (mem 2 3)))]) S D_T_step_166 ms_R3_59 (c_T_isDigit (cxL X) E (mem 3 (ix (mem 2 3))) (mem := mem) e_166) (by decide) rfl rfl (Nat.le_of_ble_eq_true rfl) ?_
            refine j_if_eq S D_T_step_169 (fun c_169 => ?_) (fun c_169 => ?_)
            · have h := ifT c_169 h
              cases h
              exact j_locals [0, 1, 2, 3, 4] rfl hk
            · have h := ifF c_169 h
              refine j_aload_n S D_T_step_172 0 rfl rfl ?_
              refine j_dup S D_T_step_173 rfl ?_
              refine j_getI S D_T_step_174 fl_R3_22 sh_Tape rfl ?_
              refine j_iconst S D_T_step_177 ci_1 ?_
              refine j_iadd S D_T_step_178 ?_
              obtain ⟨m_179, hm_179, h⟩ := ltE h
              refine j_putI S D_T_step_179 fp_R3_22 sh_Tape rfl ?_
              refine j_mem hm_179 ?_
              refine j_goto S D_T_step_182 ?_
              refine j_locals [0, 1, 2, 3, 4] rfl (ih b1 b2 b3 b4 m_179 _ h hk)
theorem c_T_step (l : Launch) (E : En) (N : Nat)  {mem : Mm} {m2 : Mm} (h : f_T_step N mem = some m2) : CtV l E 1 y_T_step prog_6_method_8_code 5 [.ref (eb E + 2)] SH mem m2 := by
  refine mk_CtV ⟨by decide, (Nat.le_of_ble_eq_true rfl)⟩ (fun X S hl hR => ?_)
  have S : Std X E prog_6_method_8_code R3 5 1 := S
  show J X E 5 0 [(0, .ref (eb E + 2))] [] SH mem
  unfold f_T_step at h
  refine j_aload_n S D_T_step_0 0 rfl rfl ?_
  refine j_getI S D_T_step_1 fl_R3_22 sh_Tape rfl ?_
  refine j_aload_n S D_T_step_4 0 rfl rfl ?_
  refine j_getI S D_T_step_5 fl_R3_19 sh_Tape rfl ?_
  refine j_icmp_le S D_T_step_8 (fun c_8 => ?_) (fun c_8 => ?_)
  · have h := ifT c_8 h
    refine j_iconst S D_T_step_35 ci_0 ?_
    refine j_istore_n S D_T_step_36 (lv := [(1, .int 0), (0, .ref (eb E + 2))]) rfl ⟨rfl, (Nat.le_of_ble_eq_true rfl)⟩ ?_
    refine j_aload_n S D_T_step_37 1 rfl rfl ?_
    refine j_getI S D_T_step_38 fl_R3_22 sh_Tape rfl ?_
    obtain ⟨x_41, hx_41, h⟩ := ltE h
    refine j_nm hx_41 ?_
    refine j_istore_n S D_T_step_41 (lv := [(2, .int x_41), (1, .int 0), (0, .ref (eb E + 2))]) rfl ⟨rfl, (Nat.le_of_ble_eq_true rfl)⟩ ?_
    refine j_aload_n S D_T_step_42 2 rfl rfl ?_
    refine j_aload_n S D_T_step_43 2 rfl rfl ?_
    refine j_getI S D_T_step_44 fl_R3_22 sh_Tape rfl ?_
    obtain ⟨m_47, hm_47, h⟩ := ltE h
    refine j_putI S D_T_step_47 fp_R3_19 sh_Tape rfl ?_
    refine j_mem hm_47 ?_
    refine j_locals [2, 1, 0] rfl ?_
    obtain ⟨m_50, e_50, h⟩ := bpE h
    refine L_T_step_50 S  N 0 x_41 m_47 _ e_50 ?_
    refine j_aload_n S D_T_step_88 0 rfl rfl ?_
    obtain ⟨r_89, e_89, h⟩ := bpE h
    refine j_callVI (As := []) S D_T_step_89 mv_R3_48 (c_T_here (cxL X) E e_89) (by decide) sh_Tape rfl rfl rfl rfl (Nat.le_of_ble_eq_true rfl) ?_
    obtain ⟨r_92, e_92, h⟩ := bpE h
    refine j_callSI (As := [.int r_89]) S D_T_step_92 ms_R3_55 (c_T_isLetter (cxL X) E r_89 (mem := m_50) e_92) (by decide) rfl rfl (Nat.le_of_ble_eq_true rfl) ?_
    refine j_istore_n S D_T_step_95 (lv := [(3, .int r_92), (0, .ref (eb E + 2)), (1, .int 0), (2, .int x_41)]) rfl ⟨rfl, (Nat.le_of_ble_eq_true rfl)⟩ ?_
    refine j_aload_n S D_T_step_96 1 rfl rfl ?_
    obtain ⟨r_97, e_97, h⟩ := bpE h
    refine j_callVI (As := []) S D_T_step_97 mv_R3_48 (c_T_here (cxL X) E e_97) (by decide) sh_Tape rfl rfl rfl rfl (Nat.le_of_ble_eq_true rfl) ?_
    obtain ⟨r_100, e_100, h⟩ := bpE h
    refine j_callSI (As := [.int r_97]) S D_T_step_100 ms_R3_59 (c_T_isDigit (cxL X) E r_97 (mem := m_50) e_100) (by decide) rfl rfl (Nat.le_of_ble_eq_true rfl) ?_
    refine j_istore S D_T_step_103 (lv := [(4, .int r_100), (3, .int r_92), (0, .ref (eb E + 2)), (1, .int 0), (2, .int x_41)]) rfl (Nat.le_of_ble_eq_true rfl) ?_
    refine j_aload_n S D_T_step_105 2 rfl rfl ?_
    refine j_aload_n S D_T_step_106 2 rfl rfl ?_
    refine j_getI S D_T_step_107 fl_R3_9 sh_Tape rfl ?_
    refine j_aload_n S D_T_step_110 2 rfl rfl ?_
    refine j_getI S D_T_step_111 fl_R3_19 sh_Tape rfl ?_
    refine j_iconst S D_T_step_114 ci_1 ?_
    refine j_iadd S D_T_step_115 ?_
    refine j_mmin S D_T_step_116 (by decide) mm_R3_62 (Nat.le_of_ble_eq_true rfl) ?_
    obtain ⟨m_119, hm_119, h⟩ := ltE h
    refine j_putI S D_T_step_119 fp_R3_22 sh_Tape rfl ?_
    refine j_mem hm_119 ?_
    refine j_locals [2, 3, 4, 1, 0] rfl ?_
    obtain ⟨m_122, e_122, h⟩ := bpE h
    refine L_T_step_122 S  N 0 x_41 r_92 r_100 m_119 _ e_122 ?_
    refine j_aload_n S D_T_step_185 0 rfl rfl ?_
    refine j_iload_n S D_T_step_186 1 rfl rfl ?_
    refine j_if_eq S D_T_step_187 (fun _ => ?_) (fun c_ => absurd c_ (by decide +kernel))
    refine j_iconst S D_T_step_211 ci_0 ?_
    obtain ⟨m_212, hm_212, h⟩ := ltE h
    refine j_put S D_T_step_212 fp_R3_25 sh_Tape rfl (isb_nf isb0) ?_
    refine j_mem hm_212 ?_
    exact rtV hR h _ _ D_T_step_215
  · have h := ifF c_8 h
    refine j_aload_n S D_T_step_11 0 rfl rfl ?_
    obtain ⟨r_12, e_12, h⟩ := bpE h
    refine j_callVI (As := []) S D_T_step_12 mv_R3_48 (c_T_here (cxL X) E e_12) (by decide) sh_Tape rfl rfl rfl rfl (Nat.le_of_ble_eq_true rfl) ?_
    obtain ⟨r_15, e_15, h⟩ := bpE h
    refine j_callSI (As := [.int r_12]) S D_T_step_15 ms_R3_55 (c_T_isLetter (cxL X) E r_12 (mem := mem) e_15) (by decide) rfl rfl (Nat.le_of_ble_eq_true rfl) ?_
    refine j_if_ne S D_T_step_18 (fun c_18 => ?_) (fun c_18 => ?_)
    · have h := ifF c_18 h
      refine j_iconst S D_T_step_31 ci_1 ?_
      refine j_goto S D_T_step_32 ?_
      refine j_istore_n S D_T_step_36 (lv := [(1, .int 1), (0, .ref (eb E + 2))]) rfl ⟨rfl, (Nat.le_of_ble_eq_true rfl)⟩ ?_
      refine j_aload_n S D_T_step_37 1 rfl rfl ?_
      refine j_getI S D_T_step_38 fl_R3_22 sh_Tape rfl ?_
      obtain ⟨x_41, hx_41, h⟩ := ltE h
      refine j_nm hx_41 ?_
      refine j_istore_n S D_T_step_41 (lv := [(2, .int x_41), (1, .int 1), (0, .ref (eb E + 2))]) rfl ⟨rfl, (Nat.le_of_ble_eq_true rfl)⟩ ?_
      refine j_aload_n S D_T_step_42 2 rfl rfl ?_
      refine j_aload_n S D_T_step_43 2 rfl rfl ?_
      refine j_getI S D_T_step_44 fl_R3_22 sh_Tape rfl ?_
      obtain ⟨m_47, hm_47, h⟩ := ltE h
      refine j_putI S D_T_step_47 fp_R3_19 sh_Tape rfl ?_
      refine j_mem hm_47 ?_
      refine j_locals [2, 1, 0] rfl ?_
      obtain ⟨m_50, e_50, h⟩ := bpE h
      refine L_T_step_50 S  N 1 x_41 m_47 _ e_50 ?_
      refine j_aload_n S D_T_step_88 0 rfl rfl ?_
      obtain ⟨r_89, e_89, h⟩ := bpE h
      refine j_callVI (As := []) S D_T_step_89 mv_R3_48 (c_T_here (cxL X) E e_89) (by decide) sh_Tape rfl rfl rfl rfl (Nat.le_of_ble_eq_true rfl) ?_
      obtain ⟨r_92, e_92, h⟩ := bpE h
      refine j_callSI (As := [.int r_89]) S D_T_step_92 ms_R3_55 (c_T_isLetter (cxL X) E r_89 (mem := m_50) e_92) (by decide) rfl rfl (Nat.le_of_ble_eq_true rfl) ?_
      refine j_istore_n S D_T_step_95 (lv := [(3, .int r_92), (0, .ref (eb E + 2)), (1, .int 1), (2, .int x_41)]) rfl ⟨rfl, (Nat.le_of_ble_eq_true rfl)⟩ ?_
      refine j_aload_n S D_T_step_96 1 rfl rfl ?_
      obtain ⟨r_97, e_97, h⟩ := bpE h
      refine j_callVI (As := []) S D_T_step_97 mv_R3_48 (c_T_here (cxL X) E e_97) (by decide) sh_Tape rfl rfl rfl rfl (Nat.le_of_ble_eq_true rfl) ?_
      obtain ⟨r_100, e_100, h⟩ := bpE h
      refine j_callSI (As := [.int r_97]) S D_T_step_100 ms_R3_59 (c_T_isDigit (cxL X) E r_97 (mem := m_50) e_100) (by decide) rfl rfl (Nat.le_of_ble_eq_true rfl) ?_
      refine j_istore S D_T_step_103 (lv := [(4, .int r_100), (3, .int r_92), (0, .ref (eb E + 2)), (1, .int 1), (2, .int x_41)]) rfl (Nat.le_of_ble_eq_true rfl) ?_
      refine j_aload_n S D_T_step_105 2 rfl rfl ?_
      refine j_aload_n S D_T_step_106 2 rfl rfl ?_
      refine j_getI S D_T_step_107 fl_R3_9 sh_Tape rfl ?_
      refine j_aload_n S D_T_step_110 2 rfl rfl ?_
      refine j_getI S D_T_step_111 fl_R3_19 sh_Tape rfl ?_
      refine j_iconst S D_T_step_114 ci_1 ?_
      refine j_iadd S D_T_step_115 ?_
      refine j_mmin S D_T_step_116 (by decide) mm_R3_62 (Nat.le_of_ble_eq_true rfl) ?_
      obtain ⟨m_119, hm_119, h⟩ := ltE h
      refine j_putI S D_T_step_119 fp_R3_22 sh_Tape rfl ?_
      refine j_mem hm_119 ?_
      refine j_locals [2, 3, 4, 1, 0] rfl ?_
      obtain ⟨m_122, e_122, h⟩ := bpE h
      refine L_T_step_122 S  N 1 x_41 r_92 r_100 m_119 _ e_122 ?_
      refine j_aload_n S D_T_step_185 0 rfl rfl ?_
      refine j_iload_n S D_T_step_186 1 rfl rfl ?_
      refine j_if_eq S D_T_step_187 (fun c_ => absurd c_ (by decide +kernel)) (fun _ => ?_)
      refine j_aload_n S D_T_step_190 0 rfl rfl ?_
      refine j_getI S D_T_step_191 fl_R3_19 sh_Tape rfl ?_
      refine j_iload_n S D_T_step_194 2 rfl rfl ?_
      refine j_dia (P := J X E 5 212 [(0, .ref (eb E + 2)), (1, .int 1), (2, .int x_41), (3, .int r_92), (4, .int r_100)] [.int (if m_122 2 2 = x_41 then if r_92 = 0 then if r_100 = 0 then (0 : Int32) else 1 else 1 else 0), .ref (eb E + 2)] SH m_122) (fun hj => ?_) ?_
      · refine j_icmp_ne S D_T_step_195 (fun c_195 => ?_) (fun c_195 => ?_)
        · refine j_iconst S D_T_step_211 ci_0 ?_
          exact j_jnF hj c_195
        · refine j_iload_n S D_T_step_198 3 rfl rfl ?_
          refine j_dia (P := J X E 5 212 [(0, .ref (eb E + 2)), (1, .int 1), (2, .int x_41), (3, .int r_92), (4, .int r_100)] [.int (if r_92 = 0 then if r_100 = 0 then (0 : Int32) else 1 else 1), .ref (eb E + 2)] SH m_122) (fun hj => ?_) ?_
          · refine j_if_ne S D_T_step_199 (fun c_199 => ?_) (fun c_199 => ?_)
            · refine j_iconst S D_T_step_207 ci_1 ?_
              refine j_goto S D_T_step_208 ?_
              exact j_jnF hj c_199
            · refine j_iload S D_T_step_202 4 rfl ?_
              refine j_dia (P := J X E 5 212 [(0, .ref (eb E + 2)), (1, .int 1), (2, .int x_41), (3, .int r_92), (4, .int r_100)] [.int (if r_100 = 0 then (0 : Int32) else 1), .ref (eb E + 2)] SH m_122) (fun hj => ?_) ?_
              · refine j_if_eq S D_T_step_204 (fun c_204 => ?_) (fun c_204 => ?_)
                · refine j_iconst S D_T_step_211 ci_0 ?_
                  exact j_jnT hj c_204
                · refine j_iconst S D_T_step_207 ci_1 ?_
                  refine j_goto S D_T_step_208 ?_
                  exact j_jnF hj c_204
              exact j_jnT hj c_199
          exact j_jnT hj c_195
      obtain ⟨m_212, hm_212, h⟩ := ltE h
      refine j_put S D_T_step_212 fp_R3_25 sh_Tape rfl (isb_nf (isb_ite (isb_ite (isb_ite isb0 isb1) isb1) isb0)) ?_
      refine j_mem hm_212 ?_
      exact rtV hR h _ _ D_T_step_215
    · have h := ifT c_18 h
      refine j_aload_n S D_T_step_21 0 rfl rfl ?_
      obtain ⟨r_22, e_22, h⟩ := bpE h
      refine j_callVI (As := []) S D_T_step_22 mv_R3_48 (c_T_here (cxL X) E e_22) (by decide) sh_Tape rfl rfl rfl rfl (Nat.le_of_ble_eq_true rfl) ?_
      obtain ⟨r_25, e_25, h⟩ := bpE h
      refine j_callSI (As := [.int r_22]) S D_T_step_25 ms_R3_59 (c_T_isDigit (cxL X) E r_22 (mem := mem) e_25) (by decide) rfl rfl (Nat.le_of_ble_eq_true rfl) ?_
      refine j_dia (P := J X E 5 36 [(0, .ref (eb E + 2))] [.int (if r_25 = 0 then (0 : Int32) else 1)] SH mem) (fun hj => ?_) ?_
      · refine j_if_eq S D_T_step_28 (fun c_28 => ?_) (fun c_28 => ?_)
        · refine j_iconst S D_T_step_35 ci_0 ?_
          exact j_jnT hj c_28
        · refine j_iconst S D_T_step_31 ci_1 ?_
          refine j_goto S D_T_step_32 ?_
          exact j_jnF hj c_28
      obtain ⟨x_36, hx_36, h⟩ := ltE h
      refine j_nm hx_36 ?_
      refine j_istore_n S D_T_step_36 (lv := [(1, .int x_36), (0, .ref (eb E + 2))]) rfl ⟨rfl, (Nat.le_of_ble_eq_true rfl)⟩ ?_
      refine j_aload_n S D_T_step_37 1 rfl rfl ?_
      refine j_getI S D_T_step_38 fl_R3_22 sh_Tape rfl ?_
      obtain ⟨x_41, hx_41, h⟩ := ltE h
      refine j_nm hx_41 ?_
      refine j_istore_n S D_T_step_41 (lv := [(2, .int x_41), (1, .int x_36), (0, .ref (eb E + 2))]) rfl ⟨rfl, (Nat.le_of_ble_eq_true rfl)⟩ ?_
      refine j_aload_n S D_T_step_42 2 rfl rfl ?_
      refine j_aload_n S D_T_step_43 2 rfl rfl ?_
      refine j_getI S D_T_step_44 fl_R3_22 sh_Tape rfl ?_
      obtain ⟨m_47, hm_47, h⟩ := ltE h
      refine j_putI S D_T_step_47 fp_R3_19 sh_Tape rfl ?_
      refine j_mem hm_47 ?_
      refine j_locals [2, 1, 0] rfl ?_
      obtain ⟨m_50, e_50, h⟩ := bpE h
      refine L_T_step_50 S  N x_36 x_41 m_47 _ e_50 ?_
      refine j_aload_n S D_T_step_88 0 rfl rfl ?_
      obtain ⟨r_89, e_89, h⟩ := bpE h
      refine j_callVI (As := []) S D_T_step_89 mv_R3_48 (c_T_here (cxL X) E e_89) (by decide) sh_Tape rfl rfl rfl rfl (Nat.le_of_ble_eq_true rfl) ?_
      obtain ⟨r_92, e_92, h⟩ := bpE h
      refine j_callSI (As := [.int r_89]) S D_T_step_92 ms_R3_55 (c_T_isLetter (cxL X) E r_89 (mem := m_50) e_92) (by decide) rfl rfl (Nat.le_of_ble_eq_true rfl) ?_
      refine j_istore_n S D_T_step_95 (lv := [(3, .int r_92), (0, .ref (eb E + 2)), (1, .int x_36), (2, .int x_41)]) rfl ⟨rfl, (Nat.le_of_ble_eq_true rfl)⟩ ?_
      refine j_aload_n S D_T_step_96 1 rfl rfl ?_
      obtain ⟨r_97, e_97, h⟩ := bpE h
      refine j_callVI (As := []) S D_T_step_97 mv_R3_48 (c_T_here (cxL X) E e_97) (by decide) sh_Tape rfl rfl rfl rfl (Nat.le_of_ble_eq_true rfl) ?_
      obtain ⟨r_100, e_100, h⟩ := bpE h
      refine j_callSI (As := [.int r_97]) S D_T_step_100 ms_R3_59 (c_T_isDigit (cxL X) E r_97 (mem := m_50) e_100) (by decide) rfl rfl (Nat.le_of_ble_eq_true rfl) ?_
      refine j_istore S D_T_step_103 (lv := [(4, .int r_100), (3, .int r_92), (0, .ref (eb E + 2)), (1, .int x_36), (2, .int x_41)]) rfl (Nat.le_of_ble_eq_true rfl) ?_
      refine j_aload_n S D_T_step_105 2 rfl rfl ?_
      refine j_aload_n S D_T_step_106 2 rfl rfl ?_
      refine j_getI S D_T_step_107 fl_R3_9 sh_Tape rfl ?_
      refine j_aload_n S D_T_step_110 2 rfl rfl ?_
      refine j_getI S D_T_step_111 fl_R3_19 sh_Tape rfl ?_
      refine j_iconst S D_T_step_114 ci_1 ?_
      refine j_iadd S D_T_step_115 ?_
      refine j_mmin S D_T_step_116 (by decide) mm_R3_62 (Nat.le_of_ble_eq_true rfl) ?_
      obtain ⟨m_119, hm_119, h⟩ := ltE h
      refine j_putI S D_T_step_119 fp_R3_22 sh_Tape rfl ?_
      refine j_mem hm_119 ?_
      refine j_locals [2, 3, 4, 1, 0] rfl ?_
      obtain ⟨m_122, e_122, h⟩ := bpE h
      refine L_T_step_122 S  N x_36 x_41 r_92 r_100 m_119 _ e_122 ?_
      refine j_aload_n S D_T_step_185 0 rfl rfl ?_
      refine j_iload_n S D_T_step_186 1 rfl rfl ?_
      refine j_dia (P := J X E 5 212 [(0, .ref (eb E + 2)), (1, .int x_36), (2, .int x_41), (3, .int r_92), (4, .int r_100)] [.int (if x_36 = 0 then (0 : Int32) else if m_122 2 2 = x_41 then if r_92 = 0 then if r_100 = 0 then (0 : Int32) else 1 else 1 else 0), .ref (eb E + 2)] SH m_122) (fun hj => ?_) ?_
      · refine j_if_eq S D_T_step_187 (fun c_187 => ?_) (fun c_187 => ?_)
        · refine j_iconst S D_T_step_211 ci_0 ?_
          exact j_jnT hj c_187
        · refine j_aload_n S D_T_step_190 0 rfl rfl ?_
          refine j_getI S D_T_step_191 fl_R3_19 sh_Tape rfl ?_
          refine j_iload_n S D_T_step_194 2 rfl rfl ?_
          refine j_dia (P := J X E 5 212 [(0, .ref (eb E + 2)), (1, .int x_36), (2, .int x_41), (3, .int r_92), (4, .int r_100)] [.int (if m_122 2 2 = x_41 then if r_92 = 0 then if r_100 = 0 then (0 : Int32) else 1 else 1 else 0), .ref (eb E + 2)] SH m_122) (fun hj => ?_) ?_
          · refine j_icmp_ne S D_T_step_195 (fun c_195 => ?_) (fun c_195 => ?_)
            · refine j_iconst S D_T_step_211 ci_0 ?_
              exact j_jnF hj c_195
            · refine j_iload_n S D_T_step_198 3 rfl rfl ?_
              refine j_dia (P := J X E 5 212 [(0, .ref (eb E + 2)), (1, .int x_36), (2, .int x_41), (3, .int r_92), (4, .int r_100)] [.int (if r_92 = 0 then if r_100 = 0 then (0 : Int32) else 1 else 1), .ref (eb E + 2)] SH m_122) (fun hj => ?_) ?_
              · refine j_if_ne S D_T_step_199 (fun c_199 => ?_) (fun c_199 => ?_)
                · refine j_iconst S D_T_step_207 ci_1 ?_
                  refine j_goto S D_T_step_208 ?_
                  exact j_jnF hj c_199
                · refine j_iload S D_T_step_202 4 rfl ?_
                  refine j_dia (P := J X E 5 212 [(0, .ref (eb E + 2)), (1, .int x_36), (2, .int x_41), (3, .int r_92), (4, .int r_100)] [.int (if r_100 = 0 then (0 : Int32) else 1), .ref (eb E + 2)] SH m_122) (fun hj => ?_) ?_
                  · refine j_if_eq S D_T_step_204 (fun c_204 => ?_) (fun c_204 => ?_)
                    · refine j_iconst S D_T_step_211 ci_0 ?_
                      exact j_jnT hj c_204
                    · refine j_iconst S D_T_step_207 ci_1 ?_
                      refine j_goto S D_T_step_208 ?_
                      exact j_jnF hj c_204
                  exact j_jnT hj c_199
              exact j_jnT hj c_195
          exact j_jnF hj c_187
      obtain ⟨m_212, hm_212, h⟩ := ltE h
      refine j_put S D_T_step_212 fp_R3_25 sh_Tape rfl (isb_nf (isb_ite isb0 (isb_ite (isb_ite (isb_ite isb0 isb1) isb1) isb0))) ?_
      refine j_mem hm_212 ?_
      exact rtV hR h _ _ D_T_step_215

def y_T_joins : MethodName := ⟨"SandPicture$Tape", "joins", "(II)Z"⟩
theorem D_T_joins_0 : decode prog_6_method_14_code 0 = .ok (.iload_n 0, 1) ∧ 0 + 1 = 1 := by decide +kernel
theorem D_T_joins_1 : decode prog_6_method_14_code 1 = .ok (.tableswitch 97 0 3 #[31, 43, 55, 79], 31) := by decide +kernel
theorem D_T_joins_32 : decode prog_6_method_14_code 32 = .ok (.iload_n 1, 1) ∧ 32 + 1 = 33 := by decide +kernel
theorem D_T_joins_33 : decode prog_6_method_14_code 33 = .ok (.bipush 124, 2) ∧ 33 + 2 = 35 := by decide +kernel
theorem D_T_joins_42 : decode prog_6_method_14_code 42 = .ok (.iconst 0, 1) ∧ 42 + 1 = 43 := by decide +kernel
theorem D_T_joins_38 : decode prog_6_method_14_code 38 = .ok (.iconst 1, 1) ∧ 38 + 1 = 39 := by decide +kernel
theorem D_T_joins_39 : decode prog_6_method_14_code 39 = .ok (.goto 4, 3) ∧ ((39 : Nat) : Int) + 4 = ((43 : Nat) : Int) := by decide +kernel
theorem D_T_joins_35 : decode prog_6_method_14_code 35 = .ok (.if_icmp .ne 7, 3) ∧ ((35 : Nat) : Int) + 7 = ((42 : Nat) : Int) ∧ 35 + 3 = 38 := by decide +kernel
theorem D_T_joins_43 : decode prog_6_method_14_code 43 = .ok (.ireturn, 1) := by decide +kernel
theorem D_T_joins_44 : decode prog_6_method_14_code 44 = .ok (.iload_n 1, 1) ∧ 44 + 1 = 45 := by decide +kernel
theorem D_T_joins_45 : decode prog_6_method_14_code 45 = .ok (.bipush 38, 2) ∧ 45 + 2 = 47 := by decide +kernel
theorem D_T_joins_54 : decode prog_6_method_14_code 54 = .ok (.iconst 0, 1) ∧ 54 + 1 = 55 := by decide +kernel
theorem D_T_joins_50 : decode prog_6_method_14_code 50 = .ok (.iconst 1, 1) ∧ 50 + 1 = 51 := by decide +kernel
theorem D_T_joins_51 : decode prog_6_method_14_code 51 = .ok (.goto 4, 3) ∧ ((51 : Nat) : Int) + 4 = ((55 : Nat) : Int) := by decide +kernel
theorem D_T_joins_47 : decode prog_6_method_14_code 47 = .ok (.if_icmp .ne 7, 3) ∧ ((47 : Nat) : Int) + 7 = ((54 : Nat) : Int) ∧ 47 + 3 = 50 := by decide +kernel
theorem D_T_joins_55 : decode prog_6_method_14_code 55 = .ok (.ireturn, 1) := by decide +kernel
theorem D_T_joins_56 : decode prog_6_method_14_code 56 = .ok (.iload_n 1, 1) ∧ 56 + 1 = 57 := by decide +kernel
theorem D_T_joins_57 : decode prog_6_method_14_code 57 = .ok (.bipush 60, 2) ∧ 57 + 2 = 59 := by decide +kernel
theorem D_T_joins_74 : decode prog_6_method_14_code 74 = .ok (.iconst 1, 1) ∧ 74 + 1 = 75 := by decide +kernel
theorem D_T_joins_75 : decode prog_6_method_14_code 75 = .ok (.goto 4, 3) ∧ ((75 : Nat) : Int) + 4 = ((79 : Nat) : Int) := by decide +kernel
theorem D_T_joins_62 : decode prog_6_method_14_code 62 = .ok (.iload_n 1, 1) ∧ 62 + 1 = 63 := by decide +kernel
theorem D_T_joins_63 : decode prog_6_method_14_code 63 = .ok (.bipush 61, 2) ∧ 63 + 2 = 65 := by decide +kernel
theorem D_T_joins_68 : decode prog_6_method_14_code 68 = .ok (.iload_n 1, 1) ∧ 68 + 1 = 69 := by decide +kernel
theorem D_T_joins_69 : decode prog_6_method_14_code 69 = .ok (.bipush 62, 2) ∧ 69 + 2 = 71 := by decide +kernel
theorem D_T_joins_78 : decode prog_6_method_14_code 78 = .ok (.iconst 0, 1) ∧ 78 + 1 = 79 := by decide +kernel
theorem D_T_joins_71 : decode prog_6_method_14_code 71 = .ok (.if_icmp .ne 7, 3) ∧ ((71 : Nat) : Int) + 7 = ((78 : Nat) : Int) ∧ 71 + 3 = 74 := by decide +kernel
theorem D_T_joins_65 : decode prog_6_method_14_code 65 = .ok (.if_icmp .eq 9, 3) ∧ ((65 : Nat) : Int) + 9 = ((74 : Nat) : Int) ∧ 65 + 3 = 68 := by decide +kernel
theorem D_T_joins_59 : decode prog_6_method_14_code 59 = .ok (.if_icmp .eq 15, 3) ∧ ((59 : Nat) : Int) + 15 = ((74 : Nat) : Int) ∧ 59 + 3 = 62 := by decide +kernel
theorem D_T_joins_79 : decode prog_6_method_14_code 79 = .ok (.ireturn, 1) := by decide +kernel
theorem D_T_joins_80 : decode prog_6_method_14_code 80 = .ok (.iload_n 1, 1) ∧ 80 + 1 = 81 := by decide +kernel
theorem D_T_joins_81 : decode prog_6_method_14_code 81 = .ok (.bipush 43, 2) ∧ 81 + 2 = 83 := by decide +kernel
theorem D_T_joins_92 : decode prog_6_method_14_code 92 = .ok (.iconst 1, 1) ∧ 92 + 1 = 93 := by decide +kernel
theorem D_T_joins_93 : decode prog_6_method_14_code 93 = .ok (.goto 4, 3) ∧ ((93 : Nat) : Int) + 4 = ((97 : Nat) : Int) := by decide +kernel
theorem D_T_joins_86 : decode prog_6_method_14_code 86 = .ok (.iload_n 1, 1) ∧ 86 + 1 = 87 := by decide +kernel
theorem D_T_joins_87 : decode prog_6_method_14_code 87 = .ok (.bipush 45, 2) ∧ 87 + 2 = 89 := by decide +kernel
theorem D_T_joins_96 : decode prog_6_method_14_code 96 = .ok (.iconst 0, 1) ∧ 96 + 1 = 97 := by decide +kernel
theorem D_T_joins_89 : decode prog_6_method_14_code 89 = .ok (.if_icmp .ne 7, 3) ∧ ((89 : Nat) : Int) + 7 = ((96 : Nat) : Int) ∧ 89 + 3 = 92 := by decide +kernel
theorem D_T_joins_83 : decode prog_6_method_14_code 83 = .ok (.if_icmp .eq 9, 3) ∧ ((83 : Nat) : Int) + 9 = ((92 : Nat) : Int) ∧ 83 + 3 = 86 := by decide +kernel
theorem D_T_joins_97 : decode prog_6_method_14_code 97 = .ok (.ireturn, 1) := by decide +kernel
theorem D_T_joins_98 : decode prog_6_method_14_code 98 = .ok (.iload_n 1, 1) ∧ 98 + 1 = 99 := by decide +kernel
theorem D_T_joins_99 : decode prog_6_method_14_code 99 = .ok (.bipush 42, 2) ∧ 99 + 2 = 101 := by decide +kernel
theorem D_T_joins_110 : decode prog_6_method_14_code 110 = .ok (.iconst 1, 1) ∧ 110 + 1 = 111 := by decide +kernel
theorem D_T_joins_111 : decode prog_6_method_14_code 111 = .ok (.goto 4, 3) ∧ ((111 : Nat) : Int) + 4 = ((115 : Nat) : Int) := by decide +kernel
theorem D_T_joins_104 : decode prog_6_method_14_code 104 = .ok (.iload_n 1, 1) ∧ 104 + 1 = 105 := by decide +kernel
theorem D_T_joins_105 : decode prog_6_method_14_code 105 = .ok (.bipush 47, 2) ∧ 105 + 2 = 107 := by decide +kernel
theorem D_T_joins_114 : decode prog_6_method_14_code 114 = .ok (.iconst 0, 1) ∧ 114 + 1 = 115 := by decide +kernel
theorem D_T_joins_107 : decode prog_6_method_14_code 107 = .ok (.if_icmp .ne 7, 3) ∧ ((107 : Nat) : Int) + 7 = ((114 : Nat) : Int) ∧ 107 + 3 = 110 := by decide +kernel
theorem D_T_joins_101 : decode prog_6_method_14_code 101 = .ok (.if_icmp .eq 9, 3) ∧ ((101 : Nat) : Int) + 9 = ((110 : Nat) : Int) ∧ 101 + 3 = 104 := by decide +kernel
theorem D_T_joins_115 : decode prog_6_method_14_code 115 = .ok (.ireturn, 1) := by decide +kernel
theorem D_T_joins_1o : decode prog_6_method_14_code 1 = .ok (.tableswitch 97 0 3 #[31, 43, 55, 79], 31) ∧ ((1 : Nat) : Int) + 97 = ((98 : Nat) : Int) := by decide +kernel
def f_T_joins (a1 : Int32) (a2 : Int32) : Option (Int32) := if a1 = 0 then some (if a2 = 124 then (1 : Int32) else 0) else if a1 = 1 then some (if a2 = 38 then (1 : Int32) else 0) else if a1 = 2 then some (if a2 = 60 then (1 : Int32) else if a2 = 61 then (1 : Int32) else if a2 = 62 then (1 : Int32) else 0) else if a1 = 3 then some (if a2 = 43 then (1 : Int32) else if a2 = 45 then (1 : Int32) else 0) else some (if a2 = 42 then (1 : Int32) else if a2 = 47 then (1 : Int32) else 0)
theorem c_T_joins (l : Launch) (E : En) (a1 : Int32) (a2 : Int32) {mem : Mm} {r : Int32} (h : f_T_joins a1 a2 = some r) : CtI l E 0 y_T_joins prog_6_method_14_code 2 (some .boolean) [.int a1, .int a2] SH mem r mem := by
  refine mk_CtZ ⟨by decide, (Nat.le_of_ble_eq_true rfl)⟩ (fun X S hl hR => ?_)
  have S : Std X E prog_6_method_14_code R3 2 0 := S
  show J X E 2 0 [(0, .int a1), (1, .int a2)] [] SH mem
  unfold f_T_joins at h
  refine j_iload_n S D_T_joins_0 0 rfl rfl ?_
  by_cases c_1_0 : a1 = 0
  · have h := ifT c_1_0 h
    refine j_tabIn (tg := 32) (off := 31) S D_T_joins_1 0 c_1_0 (by decide +kernel) ?_
    refine j_iload_n S D_T_joins_32 1 rfl rfl ?_
    refine j_bipush S D_T_joins_33 cb_124 ?_
    refine j_dia (P := J X E 2 43 [(0, .int a1), (1, .int a2)] [.int (if a2 = 124 then (1 : Int32) else 0)] SH mem) (fun hj => ?_) ?_
    · refine j_icmp_ne S D_T_joins_35 (fun c_35 => ?_) (fun c_35 => ?_)
      · refine j_iconst S D_T_joins_42 ci_0 ?_
        exact j_jnF hj c_35
      · refine j_iconst S D_T_joins_38 ci_1 ?_
        refine j_goto S D_T_joins_39 ?_
        exact j_jnT hj c_35
    exact rtIZ hR h (isb_ite isb1 isb0) _ _ D_T_joins_43
  · have h := ifF c_1_0 h
    by_cases c_1_1 : a1 = 1
    · have h := ifT c_1_1 h
      refine j_tabIn (tg := 44) (off := 43) S D_T_joins_1 1 c_1_1 (by decide +kernel) ?_
      refine j_iload_n S D_T_joins_44 1 rfl rfl ?_
      refine j_bipush S D_T_joins_45 cb_38 ?_
      refine j_dia (P := J X E 2 55 [(0, .int a1), (1, .int a2)] [.int (if a2 = 38 then (1 : Int32) else 0)] SH mem) (fun hj => ?_) ?_
      · refine j_icmp_ne S D_T_joins_47 (fun c_47 => ?_) (fun c_47 => ?_)
        · refine j_iconst S D_T_joins_54 ci_0 ?_
          exact j_jnF hj c_47
        · refine j_iconst S D_T_joins_50 ci_1 ?_
          refine j_goto S D_T_joins_51 ?_
          exact j_jnT hj c_47
      exact rtIZ hR h (isb_ite isb1 isb0) _ _ D_T_joins_55
    · have h := ifF c_1_1 h
      by_cases c_1_2 : a1 = 2
      · have h := ifT c_1_2 h
        refine j_tabIn (tg := 56) (off := 55) S D_T_joins_1 2 c_1_2 (by decide +kernel) ?_
        refine j_iload_n S D_T_joins_56 1 rfl rfl ?_
        refine j_bipush S D_T_joins_57 cb_60 ?_
        refine j_dia (P := J X E 2 79 [(0, .int a1), (1, .int a2)] [.int (if a2 = 60 then (1 : Int32) else if a2 = 61 then (1 : Int32) else if a2 = 62 then (1 : Int32) else 0)] SH mem) (fun hj => ?_) ?_
        · refine j_icmp_eq S D_T_joins_59 (fun c_59 => ?_) (fun c_59 => ?_)
          · refine j_iconst S D_T_joins_74 ci_1 ?_
            refine j_goto S D_T_joins_75 ?_
            exact j_jnT hj c_59
          · refine j_iload_n S D_T_joins_62 1 rfl rfl ?_
            refine j_bipush S D_T_joins_63 cb_61 ?_
            refine j_dia (P := J X E 2 79 [(0, .int a1), (1, .int a2)] [.int (if a2 = 61 then (1 : Int32) else if a2 = 62 then (1 : Int32) else 0)] SH mem) (fun hj => ?_) ?_
            · refine j_icmp_eq S D_T_joins_65 (fun c_65 => ?_) (fun c_65 => ?_)
              · refine j_iconst S D_T_joins_74 ci_1 ?_
                refine j_goto S D_T_joins_75 ?_
                exact j_jnT hj c_65
              · refine j_iload_n S D_T_joins_68 1 rfl rfl ?_
                refine j_bipush S D_T_joins_69 cb_62 ?_
                refine j_dia (P := J X E 2 79 [(0, .int a1), (1, .int a2)] [.int (if a2 = 62 then (1 : Int32) else 0)] SH mem) (fun hj => ?_) ?_
                · refine j_icmp_ne S D_T_joins_71 (fun c_71 => ?_) (fun c_71 => ?_)
                  · refine j_iconst S D_T_joins_78 ci_0 ?_
                    exact j_jnF hj c_71
                  · refine j_iconst S D_T_joins_74 ci_1 ?_
                    refine j_goto S D_T_joins_75 ?_
                    exact j_jnT hj c_71
                exact j_jnF hj c_65
            exact j_jnF hj c_59
        exact rtIZ hR h (isb_ite isb1 (isb_ite isb1 (isb_ite isb1 isb0))) _ _ D_T_joins_79
      · have h := ifF c_1_2 h
        by_cases c_1_3 : a1 = 3
        · have h := ifT c_1_3 h
          refine j_tabIn (tg := 80) (off := 79) S D_T_joins_1 3 c_1_3 (by decide +kernel) ?_
          refine j_iload_n S D_T_joins_80 1 rfl rfl ?_
          refine j_bipush S D_T_joins_81 cb_43 ?_
          refine j_dia (P := J X E 2 97 [(0, .int a1), (1, .int a2)] [.int (if a2 = 43 then (1 : Int32) else if a2 = 45 then (1 : Int32) else 0)] SH mem) (fun hj => ?_) ?_
          · refine j_icmp_eq S D_T_joins_83 (fun c_83 => ?_) (fun c_83 => ?_)
            · refine j_iconst S D_T_joins_92 ci_1 ?_
              refine j_goto S D_T_joins_93 ?_
              exact j_jnT hj c_83
            · refine j_iload_n S D_T_joins_86 1 rfl rfl ?_
              refine j_bipush S D_T_joins_87 cb_45 ?_
              refine j_dia (P := J X E 2 97 [(0, .int a1), (1, .int a2)] [.int (if a2 = 45 then (1 : Int32) else 0)] SH mem) (fun hj => ?_) ?_
              · refine j_icmp_ne S D_T_joins_89 (fun c_89 => ?_) (fun c_89 => ?_)
                · refine j_iconst S D_T_joins_96 ci_0 ?_
                  exact j_jnF hj c_89
                · refine j_iconst S D_T_joins_92 ci_1 ?_
                  refine j_goto S D_T_joins_93 ?_
                  exact j_jnT hj c_89
              exact j_jnF hj c_83
          exact rtIZ hR h (isb_ite isb1 (isb_ite isb1 isb0)) _ _ D_T_joins_97
        · have h := ifF c_1_3 h
          refine j_tabOut S D_T_joins_1o (tout_0_3 c_1_0 c_1_1 c_1_2 c_1_3) ?_
          refine j_iload_n S D_T_joins_98 1 rfl rfl ?_
          refine j_bipush S D_T_joins_99 cb_42 ?_
          refine j_dia (P := J X E 2 115 [(0, .int a1), (1, .int a2)] [.int (if a2 = 42 then (1 : Int32) else if a2 = 47 then (1 : Int32) else 0)] SH mem) (fun hj => ?_) ?_
          · refine j_icmp_eq S D_T_joins_101 (fun c_101 => ?_) (fun c_101 => ?_)
            · refine j_iconst S D_T_joins_110 ci_1 ?_
              refine j_goto S D_T_joins_111 ?_
              exact j_jnT hj c_101
            · refine j_iload_n S D_T_joins_104 1 rfl rfl ?_
              refine j_bipush S D_T_joins_105 cb_47 ?_
              refine j_dia (P := J X E 2 115 [(0, .int a1), (1, .int a2)] [.int (if a2 = 47 then (1 : Int32) else 0)] SH mem) (fun hj => ?_) ?_
              · refine j_icmp_ne S D_T_joins_107 (fun c_107 => ?_) (fun c_107 => ?_)
                · refine j_iconst S D_T_joins_114 ci_0 ?_
                  exact j_jnF hj c_107
                · refine j_iconst S D_T_joins_110 ci_1 ?_
                  refine j_goto S D_T_joins_111 ?_
                  exact j_jnT hj c_107
              exact j_jnF hj c_101
          exact rtIZ hR h (isb_ite isb1 (isb_ite isb1 isb0)) _ _ D_T_joins_115

def y_T_readClosing : MethodName := ⟨"SandPicture$Tape", "readClosing", "()V"⟩
theorem D_T_readClosing_0 : decode prog_6_method_16_code 0 = .ok (.aload_n 0, 1) ∧ 0 + 1 = 1 := by decide +kernel
theorem D_T_readClosing_1 : decode prog_6_method_16_code 1 = .ok (.getfield 29, 3) ∧ 1 + 3 = 4 := by decide +kernel
theorem D_T_readClosing_4 : decode prog_6_method_16_code 4 = .ok (.iconst (-1), 1) ∧ 4 + 1 = 5 := by decide +kernel
theorem D_T_readClosing_5 : decode prog_6_method_16_code 5 = .ok (.if_icmp .eq 4, 3) ∧ ((5 : Nat) : Int) + 4 = ((9 : Nat) : Int) ∧ 5 + 3 = 8 := by decide +kernel
theorem D_T_readClosing_9 : decode prog_6_method_16_code 9 = .ok (.aload_n 0, 1) ∧ 9 + 1 = 10 := by decide +kernel
theorem D_T_readClosing_10 : decode prog_6_method_16_code 10 = .ok (.invokevirtual 48, 3) ∧ 10 + 3 = 13 := by decide +kernel
theorem D_T_readClosing_13 : decode prog_6_method_16_code 13 = .ok (.bipush 41, 2) ∧ 13 + 2 = 15 := by decide +kernel
theorem D_T_readClosing_15 : decode prog_6_method_16_code 15 = .ok (.if_icmp .ne 10, 3) ∧ ((15 : Nat) : Int) + 10 = ((25 : Nat) : Int) ∧ 15 + 3 = 18 := by decide +kernel
theorem D_T_readClosing_25 : decode prog_6_method_16_code 25 = .ok (.aload_n 0, 1) ∧ 25 + 1 = 26 := by decide +kernel
theorem D_T_readClosing_26 : decode prog_6_method_16_code 26 = .ok (.invokevirtual 52, 3) ∧ 26 + 3 = 29 := by decide +kernel
theorem D_T_readClosing_29 : decode prog_6_method_16_code 29 = .ok (.return_, 1) := by decide +kernel
theorem D_T_readClosing_18 : decode prog_6_method_16_code 18 = .ok (.aload_n 0, 1) ∧ 18 + 1 = 19 := by decide +kernel
theorem D_T_readClosing_19 : decode prog_6_method_16_code 19 = .ok (.invokevirtual 37, 3) ∧ 19 + 3 = 22 := by decide +kernel
theorem D_T_readClosing_22 : decode prog_6_method_16_code 22 = .ok (.goto 7, 3) ∧ ((22 : Nat) : Int) + 7 = ((29 : Nat) : Int) := by decide +kernel
theorem D_T_readClosing_8 : decode prog_6_method_16_code 8 = .ok (.return_, 1) := by decide +kernel
def f_T_readClosing (N : Nat)  (mem : Mm) : Option (Mm) := if mem 2 5 = (-1) then bp (f_T_here mem) fun r_10 => if r_10 = 41 then bp (f_T_step N mem) fun m_19 => some m_19 else bp (f_T_fail mem) fun m_26 => some m_26 else some mem
theorem c_T_readClosing (l : Launch) (E : En) (N : Nat)  {mem : Mm} {m2 : Mm} (h : f_T_readClosing N mem = some m2) : CtV l E 2 y_T_readClosing prog_6_method_16_code 1 [.ref (eb E + 2)] SH mem m2 := by
  refine mk_CtV ⟨by decide, (Nat.le_of_ble_eq_true rfl)⟩ (fun X S hl hR => ?_)
  have S : Std X E prog_6_method_16_code R3 1 2 := S
  show J X E 1 0 [(0, .ref (eb E + 2))] [] SH mem
  unfold f_T_readClosing at h
  refine j_aload_n S D_T_readClosing_0 0 rfl rfl ?_
  refine j_getI S D_T_readClosing_1 fl_R3_29 sh_Tape rfl ?_
  refine j_iconst S D_T_readClosing_4 ci_m1 ?_
  refine j_icmp_eq S D_T_readClosing_5 (fun c_5 => ?_) (fun c_5 => ?_)
  · have h := ifT c_5 h
    refine j_aload_n S D_T_readClosing_9 0 rfl rfl ?_
    obtain ⟨r_10, e_10, h⟩ := bpE h
    refine j_callVI (As := []) S D_T_readClosing_10 mv_R3_48 (c_T_here (cxL X) E e_10) (by decide) sh_Tape rfl rfl rfl rfl (Nat.le_of_ble_eq_true rfl) ?_
    refine j_bipush S D_T_readClosing_13 cb_41 ?_
    refine j_icmp_ne S D_T_readClosing_15 (fun c_15 => ?_) (fun c_15 => ?_)
    · have h := ifF c_15 h
      refine j_aload_n S D_T_readClosing_25 0 rfl rfl ?_
      obtain ⟨m_26, e_26, h⟩ := bpE h
      refine j_callVV (As := []) S D_T_readClosing_26 mv_R3_52 (c_T_fail (cxL X) E e_26) (by decide) sh_Tape rfl rfl rfl rfl (Nat.le_of_ble_eq_true rfl) ?_
      exact rtV hR h _ _ D_T_readClosing_29
    · have h := ifT c_15 h
      refine j_aload_n S D_T_readClosing_18 0 rfl rfl ?_
      obtain ⟨m_19, e_19, h⟩ := bpE h
      refine j_callVV (As := []) S D_T_readClosing_19 mv_R3_37 (c_T_step (cxL X) E N e_19) (by decide) sh_Tape rfl rfl rfl rfl (Nat.le_of_ble_eq_true rfl) ?_
      refine j_goto S D_T_readClosing_22 ?_
      exact rtV hR h _ _ D_T_readClosing_29
  · have h := ifF c_5 h
    exact rtV hR h _ _ D_T_readClosing_8

def y_T_readNumber : MethodName := ⟨"SandPicture$Tape", "readNumber", "(LSandPicture$Text;)V"⟩
theorem D_T_readNumber_0 : decode prog_6_method_18_code 0 = .ok (.aload_n 0, 1) ∧ 0 + 1 = 1 := by decide +kernel
theorem D_T_readNumber_1 : decode prog_6_method_18_code 1 = .ok (.getfield 25, 3) ∧ 1 + 3 = 4 := by decide +kernel
theorem D_T_readNumber_4 : decode prog_6_method_18_code 4 = .ok (.ifCond .ne 16, 3) ∧ ((4 : Nat) : Int) + 16 = ((20 : Nat) : Int) ∧ 4 + 3 = 7 := by decide +kernel
theorem D_T_readNumber_20 : decode prog_6_method_18_code 20 = .ok (.aload_n 0, 1) ∧ 20 + 1 = 21 := by decide +kernel
theorem D_T_readNumber_21 : decode prog_6_method_18_code 21 = .ok (.invokevirtual 52, 3) ∧ 21 + 3 = 24 := by decide +kernel
theorem D_T_readNumber_24 : decode prog_6_method_18_code 24 = .ok (.return_, 1) := by decide +kernel
theorem D_T_readNumber_7 : decode prog_6_method_18_code 7 = .ok (.aload_n 0, 1) ∧ 7 + 1 = 8 := by decide +kernel
theorem D_T_readNumber_8 : decode prog_6_method_18_code 8 = .ok (.getfield 22, 3) ∧ 8 + 3 = 11 := by decide +kernel
theorem D_T_readNumber_11 : decode prog_6_method_18_code 11 = .ok (.aload_n 0, 1) ∧ 11 + 1 = 12 := by decide +kernel
theorem D_T_readNumber_12 : decode prog_6_method_18_code 12 = .ok (.getfield 19, 3) ∧ 12 + 3 = 15 := by decide +kernel
theorem D_T_readNumber_15 : decode prog_6_method_18_code 15 = .ok (.isub, 1) ∧ 15 + 1 = 16 := by decide +kernel
theorem D_T_readNumber_16 : decode prog_6_method_18_code 16 = .ok (.iconst 4, 1) ∧ 16 + 1 = 17 := by decide +kernel
theorem D_T_readNumber_17 : decode prog_6_method_18_code 17 = .ok (.if_icmp .le 8, 3) ∧ ((17 : Nat) : Int) + 8 = ((25 : Nat) : Int) ∧ 17 + 3 = 20 := by decide +kernel
theorem D_T_readNumber_25 : decode prog_6_method_18_code 25 = .ok (.iconst 0, 1) ∧ 25 + 1 = 26 := by decide +kernel
theorem D_T_readNumber_26 : decode prog_6_method_18_code 26 = .ok (.istore_n 2, 1) ∧ 26 + 1 = 27 := by decide +kernel
theorem D_T_readNumber_27 : decode prog_6_method_18_code 27 = .ok (.aload_n 0, 1) ∧ 27 + 1 = 28 := by decide +kernel
theorem D_T_readNumber_28 : decode prog_6_method_18_code 28 = .ok (.getfield 19, 3) ∧ 28 + 3 = 31 := by decide +kernel
theorem D_T_readNumber_31 : decode prog_6_method_18_code 31 = .ok (.istore_n 3, 1) ∧ 31 + 1 = 32 := by decide +kernel
theorem D_T_readNumber_32 : decode prog_6_method_18_code 32 = .ok (.iload_n 3, 1) ∧ 32 + 1 = 33 := by decide +kernel
theorem D_T_readNumber_33 : decode prog_6_method_18_code 33 = .ok (.aload_n 0, 1) ∧ 33 + 1 = 34 := by decide +kernel
theorem D_T_readNumber_34 : decode prog_6_method_18_code 34 = .ok (.getfield 22, 3) ∧ 34 + 3 = 37 := by decide +kernel
theorem D_T_readNumber_37 : decode prog_6_method_18_code 37 = .ok (.if_icmp .ge 24, 3) ∧ ((37 : Nat) : Int) + 24 = ((61 : Nat) : Int) ∧ 37 + 3 = 40 := by decide +kernel
theorem D_T_readNumber_40 : decode prog_6_method_18_code 40 = .ok (.iload_n 2, 1) ∧ 40 + 1 = 41 := by decide +kernel
theorem D_T_readNumber_41 : decode prog_6_method_18_code 41 = .ok (.bipush 10, 2) ∧ 41 + 2 = 43 := by decide +kernel
theorem D_T_readNumber_43 : decode prog_6_method_18_code 43 = .ok (.imul, 1) ∧ 43 + 1 = 44 := by decide +kernel
theorem D_T_readNumber_44 : decode prog_6_method_18_code 44 = .ok (.aload_n 0, 1) ∧ 44 + 1 = 45 := by decide +kernel
theorem D_T_readNumber_45 : decode prog_6_method_18_code 45 = .ok (.getfield 15, 3) ∧ 45 + 3 = 48 := by decide +kernel
theorem D_T_readNumber_48 : decode prog_6_method_18_code 48 = .ok (.iload_n 3, 1) ∧ 48 + 1 = 49 := by decide +kernel
theorem D_T_readNumber_49 : decode prog_6_method_18_code 49 = .ok (.iaload, 1) ∧ 49 + 1 = 50 := by decide +kernel
theorem D_T_readNumber_50 : decode prog_6_method_18_code 50 = .ok (.iadd, 1) ∧ 50 + 1 = 51 := by decide +kernel
theorem D_T_readNumber_51 : decode prog_6_method_18_code 51 = .ok (.bipush 48, 2) ∧ 51 + 2 = 53 := by decide +kernel
theorem D_T_readNumber_53 : decode prog_6_method_18_code 53 = .ok (.isub, 1) ∧ 53 + 1 = 54 := by decide +kernel
theorem D_T_readNumber_54 : decode prog_6_method_18_code 54 = .ok (.istore_n 2, 1) ∧ 54 + 1 = 55 := by decide +kernel
theorem D_T_readNumber_55 : decode prog_6_method_18_code 55 = .ok (.iinc 3 1, 3) ∧ 55 + 3 = 58 := by decide +kernel
theorem D_T_readNumber_58 : decode prog_6_method_18_code 58 = .ok (.goto (-26), 3) ∧ ((58 : Nat) : Int) + (-26) = ((32 : Nat) : Int) := by decide +kernel
theorem D_T_readNumber_61 : decode prog_6_method_18_code 61 = .ok (.aload_n 1, 1) ∧ 61 + 1 = 62 := by decide +kernel
theorem D_T_readNumber_62 : decode prog_6_method_18_code 62 = .ok (.iload_n 2, 1) ∧ 62 + 1 = 63 := by decide +kernel
theorem D_T_readNumber_63 : decode prog_6_method_18_code 63 = .ok (.invokevirtual 131, 3) ∧ 63 + 3 = 66 := by decide +kernel
theorem D_T_readNumber_66 : decode prog_6_method_18_code 66 = .ok (.aload_n 0, 1) ∧ 66 + 1 = 67 := by decide +kernel
theorem D_T_readNumber_67 : decode prog_6_method_18_code 67 = .ok (.invokevirtual 37, 3) ∧ 67 + 3 = 70 := by decide +kernel
theorem D_T_readNumber_70 : decode prog_6_method_18_code 70 = .ok (.return_, 1) := by decide +kernel
def f_T_readNumber_L32 (o1 : Nat) : Nat → Int32 → Int32 → Mm → Option (Int32 × Int32)
  | 0, _, _, _ => none
  | n + 1, b2, b3, mem => if mem 2 3 ≤ b3 then some (b2, b3) else if inb b3 96 = true then lt (((b2 * 10) + (mem 3 (ix b3))) - 48) fun x_54 => f_T_readNumber_L32 o1 n x_54 (b3 + 1) mem else none
def f_T_readNumber (N : Nat) (o1 : Nat) (mem : Mm) : Option (Mm) := if mem 2 4 = 0 then if (mem 2 3) - (mem 2 2) ≤ 4 then lt (mem 2 2) fun x_31 => bp (f_T_readNumber_L32 o1 N 0 x_31 mem) fun y_32 => bp (f_X_addNumber o1 y_32.1 mem) fun m_63 => bp (f_T_step N m_63) fun m_67 => some m_67 else bp (f_T_fail mem) fun m_21 => some m_21 else bp (f_T_fail mem) fun m_21 => some m_21
theorem L_T_readNumber_32 {X : Cx} {E : En} (S : Std X E prog_6_method_18_code R3 4 2) (o1 : Nat) (ho1 : isTxt o1) {mem : Mm} : ∀ (n : Nat) (b2 : Int32) (b3 : Int32) (z : Int32 × Int32), f_T_readNumber_L32 o1 n b2 b3 mem = some z → J X E 4 61 [(0, .ref (eb E + 2)), (1, .ref (eb E + o1)), (2, .int z.1), (3, .int z.2)] [] SH mem → J X E 4 32 [(0, .ref (eb E + 2)), (1, .ref (eb E + o1)), (2, .int b2), (3, .int b3)] [] SH mem := by
  intro n
  induction n with
  | zero =>
    intro b2 b3 z h hk; cases h
  | succ n ih =>
    intro b2 b3 z h hk
    rw [f_T_readNumber_L32] at h
    refine j_iload_n S D_T_readNumber_32 3 rfl rfl ?_
    refine j_aload_n S D_T_readNumber_33 0 rfl rfl ?_
    refine j_getI S D_T_readNumber_34 fl_R3_22 sh_Tape rfl ?_
    refine j_icmp_ge S D_T_readNumber_37 (fun c_37 => ?_) (fun c_37 => ?_)
    · have h := ifT c_37 h
      cases h
      exact j_locals [0, 1, 2, 3] rfl hk
    · have h := ifF c_37 h
      refine j_iload_n S D_T_readNumber_40 2 rfl rfl ?_
      refine j_bipush S D_T_readNumber_41 cb_10 ?_
      refine j_imul S D_T_readNumber_43 ?_
      refine j_aload_n S D_T_readNumber_44 0 rfl rfl ?_
      refine j_getR S D_T_readNumber_45 fl_R3_15 sh_Tape rfl ?_
      refine j_iload_n S D_T_readNumber_48 3 rfl rfl ?_
      obtain ⟨g_49, h⟩ := gdE h
      refine j_iald S D_T_readNumber_49 sh_3 g_49 ?_
      refine j_iadd S D_T_readNumber_50 ?_
      refine j_bipush S D_T_readNumber_51 cb_48 ?_
      refine j_isub S D_T_readNumber_53 ?_
      obtain ⟨x_54, hx_54, h⟩ := ltE h
      refine j_nm hx_54 ?_
      refine j_istore_n S D_T_readNumber_54 (lv := [(2, .int x_54), (0, .ref (eb E + 2)), (1, .ref (eb E + o1)), (3, .int b3)]) rfl ⟨rfl, (Nat.le_of_ble_eq_true rfl)⟩ ?_
      refine j_iinc S D_T_readNumber_55 3 rfl (congrArg (fun z => b3 + z) ci_1) (lv := [(3, .int (b3 + 1)), (2, .int x_54), (0, .ref (eb E + 2)), (1, .ref (eb E + o1))]) rfl (Nat.le_of_ble_eq_true rfl) ?_
      refine j_goto S D_T_readNumber_58 ?_
      refine j_locals [2, 3, 1, 0] rfl (ih x_54 (b3 + 1) _ h hk)
theorem c_T_readNumber (l : Launch) (E : En) (N : Nat) (o1 : Nat) (ho1 : isTxt o1) {mem : Mm} {m2 : Mm} (h : f_T_readNumber N o1 mem = some m2) : CtV l E 2 y_T_readNumber prog_6_method_18_code 4 [.ref (eb E + 2), .ref (eb E + o1)] SH mem m2 := by
  refine mk_CtV ⟨by decide, (Nat.le_of_ble_eq_true rfl)⟩ (fun X S hl hR => ?_)
  have S : Std X E prog_6_method_18_code R3 4 2 := S
  show J X E 4 0 [(0, .ref (eb E + 2)), (1, .ref (eb E + o1))] [] SH mem
  unfold f_T_readNumber at h
  refine j_aload_n S D_T_readNumber_0 0 rfl rfl ?_
  refine j_getI S D_T_readNumber_1 fl_R3_25 sh_Tape rfl ?_
  refine j_if_ne S D_T_readNumber_4 (fun c_4 => ?_) (fun c_4 => ?_)
  · have h := ifF c_4 h
    refine j_aload_n S D_T_readNumber_20 0 rfl rfl ?_
    obtain ⟨m_21, e_21, h⟩ := bpE h
    refine j_callVV (As := []) S D_T_readNumber_21 mv_R3_52 (c_T_fail (cxL X) E e_21) (by decide) sh_Tape rfl rfl rfl rfl (Nat.le_of_ble_eq_true rfl) ?_
    exact rtV hR h _ _ D_T_readNumber_24
  · have h := ifT c_4 h
    refine j_aload_n S D_T_readNumber_7 0 rfl rfl ?_
    refine j_getI S D_T_readNumber_8 fl_R3_22 sh_Tape rfl ?_
    refine j_aload_n S D_T_readNumber_11 0 rfl rfl ?_
    refine j_getI S D_T_readNumber_12 fl_R3_19 sh_Tape rfl ?_
    refine j_isub S D_T_readNumber_15 ?_
    refine j_iconst S D_T_readNumber_16 ci_4 ?_
    refine j_icmp_le S D_T_readNumber_17 (fun c_17 => ?_) (fun c_17 => ?_)
    · have h := ifT c_17 h
      refine j_iconst S D_T_readNumber_25 ci_0 ?_
      refine j_istore_n S D_T_readNumber_26 (lv := [(2, .int 0), (0, .ref (eb E + 2)), (1, .ref (eb E + o1))]) rfl ⟨rfl, (Nat.le_of_ble_eq_true rfl)⟩ ?_
      refine j_aload_n S D_T_readNumber_27 1 rfl rfl ?_
      refine j_getI S D_T_readNumber_28 fl_R3_19 sh_Tape rfl ?_
      obtain ⟨x_31, hx_31, h⟩ := ltE h
      refine j_nm hx_31 ?_
      refine j_istore_n S D_T_readNumber_31 (lv := [(3, .int x_31), (2, .int 0), (0, .ref (eb E + 2)), (1, .ref (eb E + o1))]) rfl ⟨rfl, (Nat.le_of_ble_eq_true rfl)⟩ ?_
      refine j_locals [2, 3, 1, 0] rfl ?_
      obtain ⟨y_32, e_32, h⟩ := bpE h
      refine L_T_readNumber_32 S o1 ho1 N 0 x_31 _ e_32 ?_
      refine j_aload_n S D_T_readNumber_61 1 rfl rfl ?_
      refine j_iload_n S D_T_readNumber_62 2 rfl rfl ?_
      obtain ⟨m_63, e_63, h⟩ := bpE h
      refine j_callVV (As := [.int y_32.1]) S D_T_readNumber_63 mv_R3_131 (c_X_addNumber (cxL X) E o1 ho1 y_32.1 e_63) (by decide) (sh_txt ho1) rfl rfl rfl rfl (Nat.le_of_ble_eq_true rfl) ?_
      refine j_aload_n S D_T_readNumber_66 0 rfl rfl ?_
      obtain ⟨m_67, e_67, h⟩ := bpE h
      refine j_callVV (As := []) S D_T_readNumber_67 mv_R3_37 (c_T_step (cxL X) E N e_67) (by decide) sh_Tape rfl rfl rfl rfl (Nat.le_of_ble_eq_true rfl) ?_
      exact rtV hR h _ _ D_T_readNumber_70
    · have h := ifF c_17 h
      refine j_aload_n S D_T_readNumber_20 0 rfl rfl ?_
      obtain ⟨m_21, e_21, h⟩ := bpE h
      refine j_callVV (As := []) S D_T_readNumber_21 mv_R3_52 (c_T_fail (cxL X) E e_21) (by decide) sh_Tape rfl rfl rfl rfl (Nat.le_of_ble_eq_true rfl) ?_
      exact rtV hR h _ _ D_T_readNumber_24
