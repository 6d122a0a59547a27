def y_T_readLevel : MethodName := ⟨"SandPicture$Tape", "readLevel", "(LSandPicture$Text;III)V"⟩
def y_T_readPiece : MethodName := ⟨"SandPicture$Tape", "readPiece", "(LSandPicture$Text;II)V"⟩
def y_T_readLevelF : MethodName := ⟨"SandPicture$Tape", "readLevel", "(LSandPicture$Text;III)V"⟩
theorem D_T_readLevelF_0 : decode prog_6_method_13_code 0 = .ok (.iload_n 2, 1) ∧ 0 + 1 = 1 := by decide +kernel
theorem D_T_readLevelF_1 : decode prog_6_method_13_code 1 = .ok (.iconst 4, 1) ∧ 1 + 1 = 2 := by decide +kernel
theorem D_T_readLevelF_2 : decode prog_6_method_13_code 2 = .ok (.if_icmp .le 12, 3) ∧ ((2 : Nat) : Int) + 12 = ((14 : Nat) : Int) ∧ 2 + 3 = 5 := by decide +kernel
theorem D_T_readLevelF_14 : decode prog_6_method_13_code 14 = .ok (.aload_n 0, 1) ∧ 14 + 1 = 15 := by decide +kernel
theorem D_T_readLevelF_15 : decode prog_6_method_13_code 15 = .ok (.aload_n 1, 1) ∧ 15 + 1 = 16 := by decide +kernel
theorem D_T_readLevelF_16 : decode prog_6_method_13_code 16 = .ok (.iload_n 2, 1) ∧ 16 + 1 = 17 := by decide +kernel
theorem D_T_readLevelF_17 : decode prog_6_method_13_code 17 = .ok (.iconst 1, 1) ∧ 17 + 1 = 18 := by decide +kernel
theorem D_T_readLevelF_18 : decode prog_6_method_13_code 18 = .ok (.iadd, 1) ∧ 18 + 1 = 19 := by decide +kernel
theorem D_T_readLevelF_19 : decode prog_6_method_13_code 19 = .ok (.iload_n 3, 1) ∧ 19 + 1 = 20 := by decide +kernel
theorem D_T_readLevelF_20 : decode prog_6_method_13_code 20 = .ok (.iload 4, 2) ∧ 20 + 2 = 22 := by decide +kernel
theorem D_T_readLevelF_22 : decode prog_6_method_13_code 22 = .ok (.invokevirtual 44, 3) ∧ 22 + 3 = 25 := by decide +kernel
theorem D_T_readLevelF_25 : decode prog_6_method_13_code 25 = .ok (.iload_n 2, 1) ∧ 25 + 1 = 26 := by decide +kernel
theorem D_T_readLevelF_26 : decode prog_6_method_13_code 26 = .ok (.iconst 2, 1) ∧ 26 + 1 = 27 := by decide +kernel
theorem D_T_readLevelF_34 : decode prog_6_method_13_code 34 = .ok (.bipush 96, 2) ∧ 34 + 2 = 36 := by decide +kernel
theorem D_T_readLevelF_30 : decode prog_6_method_13_code 30 = .ok (.iconst 1, 1) ∧ 30 + 1 = 31 := by decide +kernel
theorem D_T_readLevelF_31 : decode prog_6_method_13_code 31 = .ok (.goto 5, 3) ∧ ((31 : Nat) : Int) + 5 = ((36 : Nat) : Int) := by decide +kernel
theorem D_T_readLevelF_27 : decode prog_6_method_13_code 27 = .ok (.if_icmp .ne 7, 3) ∧ ((27 : Nat) : Int) + 7 = ((34 : Nat) : Int) ∧ 27 + 3 = 30 := by decide +kernel
theorem D_T_readLevelF_36 : decode prog_6_method_13_code 36 = .ok (.istore 5, 2) ∧ 36 + 2 = 38 := by decide +kernel
theorem D_T_readLevelF_38 : decode prog_6_method_13_code 38 = .ok (.iconst 0, 1) ∧ 38 + 1 = 39 := by decide +kernel
theorem D_T_readLevelF_39 : decode prog_6_method_13_code 39 = .ok (.istore 6, 2) ∧ 39 + 2 = 41 := by decide +kernel
theorem D_T_readLevelF_41 : decode prog_6_method_13_code 41 = .ok (.iload 6, 2) ∧ 41 + 2 = 43 := by decide +kernel
theorem D_T_readLevelF_43 : decode prog_6_method_13_code 43 = .ok (.iload 5, 2) ∧ 43 + 2 = 45 := by decide +kernel
theorem D_T_readLevelF_45 : decode prog_6_method_13_code 45 = .ok (.if_icmp .ge 55, 3) ∧ ((45 : Nat) : Int) + 55 = ((100 : Nat) : Int) ∧ 45 + 3 = 48 := by decide +kernel
theorem D_T_readLevelF_48 : decode prog_6_method_13_code 48 = .ok (.aload_n 0, 1) ∧ 48 + 1 = 49 := by decide +kernel
theorem D_T_readLevelF_49 : decode prog_6_method_13_code 49 = .ok (.getfield 29, 3) ∧ 49 + 3 = 52 := by decide +kernel
theorem D_T_readLevelF_52 : decode prog_6_method_13_code 52 = .ok (.iconst (-1), 1) ∧ 52 + 1 = 53 := by decide +kernel
theorem D_T_readLevelF_53 : decode prog_6_method_13_code 53 = .ok (.if_icmp .ne 47, 3) ∧ ((53 : Nat) : Int) + 47 = ((100 : Nat) : Int) ∧ 53 + 3 = 56 := by decide +kernel
theorem D_T_readLevelF_56 : decode prog_6_method_13_code 56 = .ok (.iload_n 2, 1) ∧ 56 + 1 = 57 := by decide +kernel
theorem D_T_readLevelF_57 : decode prog_6_method_13_code 57 = .ok (.aload_n 0, 1) ∧ 57 + 1 = 58 := by decide +kernel
theorem D_T_readLevelF_58 : decode prog_6_method_13_code 58 = .ok (.invokevirtual 48, 3) ∧ 58 + 3 = 61 := by decide +kernel
theorem D_T_readLevelF_61 : decode prog_6_method_13_code 61 = .ok (.invokestatic 104, 3) ∧ 61 + 3 = 64 := by decide +kernel
theorem D_T_readLevelF_64 : decode prog_6_method_13_code 64 = .ok (.ifCond .eq 36, 3) ∧ ((64 : Nat) : Int) + 36 = ((100 : Nat) : Int) ∧ 64 + 3 = 67 := by decide +kernel
theorem D_T_readLevelF_67 : decode prog_6_method_13_code 67 = .ok (.aload_n 0, 1) ∧ 67 + 1 = 68 := by decide +kernel
theorem D_T_readLevelF_68 : decode prog_6_method_13_code 68 = .ok (.invokevirtual 48, 3) ∧ 68 + 3 = 71 := by decide +kernel
theorem D_T_readLevelF_71 : decode prog_6_method_13_code 71 = .ok (.istore 7, 2) ∧ 71 + 2 = 73 := by decide +kernel
theorem D_T_readLevelF_73 : decode prog_6_method_13_code 73 = .ok (.aload_n 0, 1) ∧ 73 + 1 = 74 := by decide +kernel
theorem D_T_readLevelF_74 : decode prog_6_method_13_code 74 = .ok (.invokevirtual 37, 3) ∧ 74 + 3 = 77 := by decide +kernel
theorem D_T_readLevelF_77 : decode prog_6_method_13_code 77 = .ok (.aload_n 0, 1) ∧ 77 + 1 = 78 := by decide +kernel
theorem D_T_readLevelF_78 : decode prog_6_method_13_code 78 = .ok (.aload_n 1, 1) ∧ 78 + 1 = 79 := by decide +kernel
theorem D_T_readLevelF_79 : decode prog_6_method_13_code 79 = .ok (.iload_n 2, 1) ∧ 79 + 1 = 80 := by decide +kernel
theorem D_T_readLevelF_80 : decode prog_6_method_13_code 80 = .ok (.iconst 1, 1) ∧ 80 + 1 = 81 := by decide +kernel
theorem D_T_readLevelF_81 : decode prog_6_method_13_code 81 = .ok (.iadd, 1) ∧ 81 + 1 = 82 := by decide +kernel
theorem D_T_readLevelF_82 : decode prog_6_method_13_code 82 = .ok (.iload_n 3, 1) ∧ 82 + 1 = 83 := by decide +kernel
theorem D_T_readLevelF_83 : decode prog_6_method_13_code 83 = .ok (.iload 4, 2) ∧ 83 + 2 = 85 := by decide +kernel
theorem D_T_readLevelF_85 : decode prog_6_method_13_code 85 = .ok (.invokevirtual 44, 3) ∧ 85 + 3 = 88 := by decide +kernel
theorem D_T_readLevelF_88 : decode prog_6_method_13_code 88 = .ok (.aload_n 1, 1) ∧ 88 + 1 = 89 := by decide +kernel
theorem D_T_readLevelF_89 : decode prog_6_method_13_code 89 = .ok (.iload 7, 2) ∧ 89 + 2 = 91 := by decide +kernel
theorem D_T_readLevelF_91 : decode prog_6_method_13_code 91 = .ok (.invokevirtual 108, 3) ∧ 91 + 3 = 94 := by decide +kernel
theorem D_T_readLevelF_94 : decode prog_6_method_13_code 94 = .ok (.iinc 6 1, 3) ∧ 94 + 3 = 97 := by decide +kernel
theorem D_T_readLevelF_97 : decode prog_6_method_13_code 97 = .ok (.goto (-56), 3) ∧ ((97 : Nat) : Int) + (-56) = ((41 : Nat) : Int) := by decide +kernel
theorem D_T_readLevelF_100 : decode prog_6_method_13_code 100 = .ok (.return_, 1) := by decide +kernel
theorem D_T_readLevelF_5 : decode prog_6_method_13_code 5 = .ok (.aload_n 0, 1) ∧ 5 + 1 = 6 := by decide +kernel
theorem D_T_readLevelF_6 : decode prog_6_method_13_code 6 = .ok (.aload_n 1, 1) ∧ 6 + 1 = 7 := by decide +kernel
theorem D_T_readLevelF_7 : decode prog_6_method_13_code 7 = .ok (.iload_n 3, 1) ∧ 7 + 1 = 8 := by decide +kernel
theorem D_T_readLevelF_8 : decode prog_6_method_13_code 8 = .ok (.iload 4, 2) ∧ 8 + 2 = 10 := by decide +kernel
theorem D_T_readLevelF_10 : decode prog_6_method_13_code 10 = .ok (.invokevirtual 100, 3) ∧ 10 + 3 = 13 := by decide +kernel
theorem D_T_readLevelF_13 : decode prog_6_method_13_code 13 = .ok (.return_, 1) := by decide +kernel
def f_T_readLevelF_L41 (rl : Nat → Int32 → Int32 → Int32 → Mm → Option Mm) (rp : Nat → Int32 → Int32 → Mm → Option Mm) (N : Nat) (o1 : Nat) : Nat → Int32 → Int32 → Int32 → Int32 → Int32 → Mm → Option (Int32 × Mm)
  | 0, _, _, _, _, _, _ => none
  | n + 1, b2, b3, b4, b5, b6, mem => if b5 ≤ b6 then some (b6, mem) else if mem 2 5 = (-1) then bp (f_T_here mem) fun r_58 => bp (f_T_joins b2 r_58) fun r_61 => if r_61 = 0 then some (b6, mem) else bp (f_T_here mem) fun r_68 => bp (f_T_step N mem) fun m_74 => bp (rl o1 (b2 + 1) b3 b4 m_74) fun m_85 => bp (f_X_addSign o1 r_68 m_85) fun m_91 => f_T_readLevelF_L41 rl rp N o1 n b2 b3 b4 b5 (b6 + 1) m_91 else some (b6, mem)
def f_T_readLevelF (rl : Nat → Int32 → Int32 → Int32 → Mm → Option Mm) (rp : Nat → Int32 → Int32 → Mm → Option Mm) (N : Nat) (o1 : Nat) (a2 : Int32) (a3 : Int32) (a4 : Int32) (mem : Mm) : Option (Mm) := if a2 ≤ 4 then bp (rl o1 (a2 + 1) a3 a4 mem) fun m_22 => lt (if a2 = 2 then (1 : Int32) else 96) fun x_36 => bd (f_T_readLevelF_L41 rl rp N o1 N a2 a3 a4 x_36 0 m_22) fun y_41 m_41 => some m_41 else bp (rp o1 a3 a4 mem) fun m_10 => some m_10
theorem L_T_readLevelF_41 {X : Cx} {E : En} (rl : Nat → Int32 → Int32 → Int32 → Mm → Option Mm) (rp : Nat → Int32 → Int32 → Mm → Option Mm) (d : Nat) (hd : 6 ≤ d) (hrl : ∀ (l : Launch) (o1 : Nat) (_ : isTxt o1) (a2 a3 a4 : Int32) {mem m2 : Mm}, rl o1 a2 a3 a4 mem = some m2 → CtV l E d y_T_readLevel prog_6_method_13_code 8 [.ref (eb E + 2), .ref (eb E + o1), .int a2, .int a3, .int a4] SH mem m2) (hrp : ∀ (l : Launch) (o1 : Nat) (_ : isTxt o1) (a2 a3 : Int32) {mem m2 : Mm}, rp o1 a2 a3 mem = some m2 → CtV l E d y_T_readPiece prog_6_method_15_code 5 [.ref (eb E + 2), .ref (eb E + o1), .int a2, .int a3] SH mem m2) (S : Std X E prog_6_method_13_code R3 8 (d + 1)) (N : Nat) (o1 : Nat) (ho1 : isTxt o1) : ∀ (n : Nat) (b2 : Int32) (b3 : Int32) (b4 : Int32) (b5 : Int32) (b6 : Int32) (mem : Mm) (z : Int32) (m2 : Mm), f_T_readLevelF_L41 rl rp N o1 n b2 b3 b4 b5 b6 mem = some (z, m2) → J X E 8 100 [(0, .ref (eb E + 2)), (1, .ref (eb E + o1)), (2, .int b2), (3, .int b3), (4, .int b4), (5, .int b5), (6, .int z)] [] SH m2 → J X E 8 41 [(0, .ref (eb E + 2)), (1, .ref (eb E + o1)), (2, .int b2), (3, .int b3), (4, .int b4), (5, .int b5), (6, .int b6)] [] SH mem := by
  intro n
  induction n with
  | zero =>
    intro b2 b3 b4 b5 b6 mem z m2 h hk; cases h
  | succ n ih =>
    intro b2 b3 b4 b5 b6 mem z m2 h hk
    rw [f_T_readLevelF_L41] at h
    refine j_iload S D_T_readLevelF_41 6 rfl ?_
    refine j_iload S D_T_readLevelF_43 5 rfl ?_
    refine j_icmp_ge S D_T_readLevelF_45 (fun c_45 => ?_) (fun c_45 => ?_)
    · have h := ifT c_45 h
      cases h
      exact j_locals [0, 1, 2, 3, 4, 5, 6] rfl hk
    · have h := ifF c_45 h
      refine j_aload_n S D_T_readLevelF_48 0 rfl rfl ?_
      refine j_getI S D_T_readLevelF_49 fl_R3_29 sh_Tape rfl ?_
      refine j_iconst S D_T_readLevelF_52 ci_m1 ?_
      refine j_icmp_ne S D_T_readLevelF_53 (fun c_53 => ?_) (fun c_53 => ?_)
      · have h := ifF c_53 h
        cases h
        exact j_locals [0, 1, 2, 3, 4, 5, 6] rfl hk
      · have h := ifT c_53 h
        refine j_iload_n S D_T_readLevelF_56 2 rfl rfl ?_
        refine j_aload_n S D_T_readLevelF_57 0 rfl rfl ?_
        obtain ⟨r_58, e_58, h⟩ := bpE h
        refine j_callVI (As := []) S D_T_readLevelF_58 mv_R3_48 (c_T_here (cxL X) E e_58) (by omega) sh_Tape rfl rfl rfl rfl (Nat.le_of_ble_eq_true rfl) ?_
        obtain ⟨r_61, e_61, h⟩ := bpE h
        refine j_callSI (As := [.int b2, .int r_58]) S D_T_readLevelF_61 ms_R3_104 (c_T_joins (cxL X) E b2 r_58 (mem := mem) e_61) (by omega) rfl rfl (Nat.le_of_ble_eq_true rfl) ?_
        refine j_if_eq S D_T_readLevelF_64 (fun c_64 => ?_) (fun c_64 => ?_)
        · have h := ifT c_64 h
          cases h
          exact j_locals [0, 1, 2, 3, 4, 5, 6] rfl hk
        · have h := ifF c_64 h
          refine j_aload_n S D_T_readLevelF_67 0 rfl rfl ?_
          obtain ⟨r_68, e_68, h⟩ := bpE h
          refine j_callVI (As := []) S D_T_readLevelF_68 mv_R3_48 (c_T_here (cxL X) E e_68) (by omega) sh_Tape rfl rfl rfl rfl (Nat.le_of_ble_eq_true rfl) ?_
          refine j_istore S D_T_readLevelF_71 (lv := [(7, .int r_68), (0, .ref (eb E + 2)), (1, .ref (eb E + o1)), (2, .int b2), (3, .int b3), (4, .int b4), (5, .int b5), (6, .int b6)]) rfl (Nat.le_of_ble_eq_true rfl) ?_
          refine j_aload_n S D_T_readLevelF_73 1 rfl rfl ?_
          obtain ⟨m_74, e_74, h⟩ := bpE h
          refine j_callVV (As := []) S D_T_readLevelF_74 mv_R3_37 (c_T_step (cxL X) E N e_74) (by omega) sh_Tape rfl rfl rfl rfl (Nat.le_of_ble_eq_true rfl) ?_
          refine j_aload_n S D_T_readLevelF_77 1 rfl rfl ?_
          refine j_aload_n S D_T_readLevelF_78 2 rfl rfl ?_
          refine j_iload_n S D_T_readLevelF_79 3 rfl rfl ?_
          refine j_iconst S D_T_readLevelF_80 ci_1 ?_
          refine j_iadd S D_T_readLevelF_81 ?_
          refine j_iload_n S D_T_readLevelF_82 4 rfl rfl ?_
          refine j_iload S D_T_readLevelF_83 5 rfl ?_
          obtain ⟨m_85, e_85, h⟩ := bpE h
          refine j_callVV (As := [.ref (eb E + o1), .int (b2 + 1), .int b3, .int b4]) S D_T_readLevelF_85 mv_R3_44 (hrl (cxL X) o1 ho1 (b2 + 1) b3 b4 e_85) (by omega) sh_Tape rfl rfl rfl rfl (Nat.le_of_ble_eq_true rfl) ?_
          refine j_aload_n S D_T_readLevelF_88 2 rfl rfl ?_
          refine j_iload S D_T_readLevelF_89 0 rfl ?_
          obtain ⟨m_91, e_91, h⟩ := bpE h
          refine j_callVV (As := [.int r_68]) S D_T_readLevelF_91 mv_R3_108 (c_X_addSign (cxL X) E o1 ho1 r_68 e_91) (by omega) (sh_txt ho1) rfl rfl rfl rfl (Nat.le_of_ble_eq_true rfl) ?_
          refine j_iinc S D_T_readLevelF_94 7 rfl (congrArg (fun z => b6 + z) ci_1) (lv := [(6, .int (b6 + 1)), (7, .int r_68), (0, .ref (eb E + 2)), (1, .ref (eb E + o1)), (2, .int b2), (3, .int b3), (4, .int b4), (5, .int b5)]) rfl (Nat.le_of_ble_eq_true rfl) ?_
          refine j_goto S D_T_readLevelF_97 ?_
          refine j_locals [2, 3, 4, 5, 6, 7, 0] rfl (ih b2 b3 b4 b5 (b6 + 1) m_91 _ _ h hk)
theorem c_T_readLevelF (l : Launch) (E : En) (rl : Nat → Int32 → Int32 → Int32 → Mm → Option Mm) (rp : Nat → Int32 → Int32 → Mm → Option Mm) (d : Nat) (hd : 6 ≤ d) (hrl : ∀ (l : Launch) (o1 : Nat) (_ : isTxt o1) (a2 a3 a4 : Int32) {mem m2 : Mm}, rl o1 a2 a3 a4 mem = some m2 → CtV l E d y_T_readLevel prog_6_method_13_code 8 [.ref (eb E + 2), .ref (eb E + o1), .int a2, .int a3, .int a4] SH mem m2) (hrp : ∀ (l : Launch) (o1 : Nat) (_ : isTxt o1) (a2 a3 : Int32) {mem m2 : Mm}, rp o1 a2 a3 mem = some m2 → CtV l E d y_T_readPiece prog_6_method_15_code 5 [.ref (eb E + 2), .ref (eb E + o1), .int a2, .int a3] SH mem m2) (N : Nat) (o1 : Nat) (ho1 : isTxt o1) (a2 : Int32) (a3 : Int32) (a4 : Int32) {mem : Mm} {m2 : Mm} (h : f_T_readLevelF rl rp N o1 a2 a3 a4 mem = some m2) : CtV l E (d + 1) y_T_readLevelF prog_6_method_13_code 8 [.ref (eb E + 2), .ref (eb E + o1), .int a2, .int a3, .int a4] SH mem m2 := by
  refine mk_CtV ⟨by decide, (Nat.le_of_ble_eq_true rfl)⟩ (fun X S hl hR => ?_)
  have S : Std X E prog_6_method_13_code R3 8 (d + 1) := S
  show J X E 8 0 [(0, .ref (eb E + 2)), (1, .ref (eb E + o1)), (2, .int a2), (3, .int a3), (4, .int a4)] [] SH mem
  unfold f_T_readLevelF at h
  refine j_iload_n S D_T_readLevelF_0 2 rfl rfl ?_
  refine j_iconst S D_T_readLevelF_1 ci_4 ?_
  refine j_icmp_le S D_T_readLevelF_2 (fun c_2 => ?_) (fun c_2 => ?_)
  · have h := ifT c_2 h
    refine j_aload_n S D_T_readLevelF_14 0 rfl rfl ?_
    refine j_aload_n S D_T_readLevelF_15 1 rfl rfl ?_
    refine j_iload_n S D_T_readLevelF_16 2 rfl rfl ?_
    refine j_iconst S D_T_readLevelF_17 ci_1 ?_
    refine j_iadd S D_T_readLevelF_18 ?_
    refine j_iload_n S D_T_readLevelF_19 3 rfl rfl ?_
    refine j_iload S D_T_readLevelF_20 4 rfl ?_
    obtain ⟨m_22, e_22, h⟩ := bpE h
    refine j_callVV (As := [.ref (eb E + o1), .int (a2 + 1), .int a3, .int a4]) S D_T_readLevelF_22 mv_R3_44 (hrl (cxL X) o1 ho1 (a2 + 1) a3 a4 e_22) (by omega) sh_Tape rfl rfl rfl rfl (Nat.le_of_ble_eq_true rfl) ?_
    refine j_iload_n S D_T_readLevelF_25 2 rfl rfl ?_
    refine j_iconst S D_T_readLevelF_26 ci_2 ?_
    refine j_dia (P := J X E 8 36 [(0, .ref (eb E + 2)), (1, .ref (eb E + o1)), (2, .int a2), (3, .int a3), (4, .int a4)] [.int (if a2 = 2 then (1 : Int32) else 96)] SH m_22) (fun hj => ?_) ?_
    · refine j_icmp_ne S D_T_readLevelF_27 (fun c_27 => ?_) (fun c_27 => ?_)
      · refine j_bipush S D_T_readLevelF_34 cb_96 ?_
        exact j_jnF hj c_27
      · refine j_iconst S D_T_readLevelF_30 ci_1 ?_
        refine j_goto S D_T_readLevelF_31 ?_
        exact j_jnT hj c_27
    obtain ⟨x_36, hx_36, h⟩ := ltE h
    refine j_nm hx_36 ?_
    refine j_istore S D_T_readLevelF_36 (lv := [(5, .int x_36), (0, .ref (eb E + 2)), (1, .ref (eb E + o1)), (2, .int a2), (3, .int a3), (4, .int a4)]) rfl (Nat.le_of_ble_eq_true rfl) ?_
    refine j_iconst S D_T_readLevelF_38 ci_0 ?_
    refine j_istore S D_T_readLevelF_39 (lv := [(6, .int 0), (5, .int x_36), (0, .ref (eb E + 2)), (1, .ref (eb E + o1)), (2, .int a2), (3, .int a3), (4, .int a4)]) rfl (Nat.le_of_ble_eq_true rfl) ?_
    refine j_locals [2, 3, 4, 5, 6, 1, 0] rfl ?_
    obtain ⟨y_41, m_41, e_41, h⟩ := bdE h
    refine L_T_readLevelF_41 rl rp d hd hrl hrp S N o1 ho1 N a2 a3 a4 x_36 0 m_22 _ _ e_41 ?_
    exact rtV hR h _ _ D_T_readLevelF_100
  · have h := ifF c_2 h
    refine j_aload_n S D_T_readLevelF_5 0 rfl rfl ?_
    refine j_aload_n S D_T_readLevelF_6 1 rfl rfl ?_
    refine j_iload_n S D_T_readLevelF_7 3 rfl rfl ?_
    refine j_iload S D_T_readLevelF_8 4 rfl ?_
    obtain ⟨m_10, e_10, h⟩ := bpE h
    refine j_callVV (As := [.ref (eb E + o1), .int a3, .int a4]) S D_T_readLevelF_10 mv_R3_100 (hrp (cxL X) o1 ho1 a3 a4 e_10) (by omega) sh_Tape rfl rfl rfl rfl (Nat.le_of_ble_eq_true rfl) ?_
    exact rtV hR h _ _ D_T_readLevelF_13

def y_T_readPieceF : MethodName := ⟨"SandPicture$Tape", "readPiece", "(LSandPicture$Text;II)V"⟩
theorem D_T_readPieceF_0 : decode prog_6_method_15_code 0 = .ok (.aload_n 0, 1) ∧ 0 + 1 = 1 := by decide +kernel
theorem D_T_readPieceF_1 : decode prog_6_method_15_code 1 = .ok (.getfield 29, 3) ∧ 1 + 3 = 4 := by decide +kernel
theorem D_T_readPieceF_4 : decode prog_6_method_15_code 4 = .ok (.iconst (-1), 1) ∧ 4 + 1 = 5 := by decide +kernel
theorem D_T_readPieceF_5 : decode prog_6_method_15_code 5 = .ok (.if_icmp .eq 4, 3) ∧ ((5 : Nat) : Int) + 4 = ((9 : Nat) : Int) ∧ 5 + 3 = 8 := by decide +kernel
theorem D_T_readPieceF_9 : decode prog_6_method_15_code 9 = .ok (.aload_n 0, 1) ∧ 9 + 1 = 10 := by decide +kernel
theorem D_T_readPieceF_10 : decode prog_6_method_15_code 10 = .ok (.invokevirtual 48, 3) ∧ 10 + 3 = 13 := by decide +kernel
theorem D_T_readPieceF_13 : decode prog_6_method_15_code 13 = .ok (.istore 4, 2) ∧ 13 + 2 = 15 := by decide +kernel
theorem D_T_readPieceF_15 : decode prog_6_method_15_code 15 = .ok (.iload 4, 2) ∧ 15 + 2 = 17 := by decide +kernel
theorem D_T_readPieceF_17 : decode prog_6_method_15_code 17 = .ok (.invokestatic 55, 3) ∧ 17 + 3 = 20 := by decide +kernel
theorem D_T_readPieceF_20 : decode prog_6_method_15_code 20 = .ok (.ifCond .eq 11, 3) ∧ ((20 : Nat) : Int) + 11 = ((31 : Nat) : Int) ∧ 20 + 3 = 23 := by decide +kernel
theorem D_T_readPieceF_31 : decode prog_6_method_15_code 31 = .ok (.iload 4, 2) ∧ 31 + 2 = 33 := by decide +kernel
theorem D_T_readPieceF_33 : decode prog_6_method_15_code 33 = .ok (.invokestatic 59, 3) ∧ 33 + 3 = 36 := by decide +kernel
theorem D_T_readPieceF_36 : decode prog_6_method_15_code 36 = .ok (.ifCond .eq 11, 3) ∧ ((36 : Nat) : Int) + 11 = ((47 : Nat) : Int) ∧ 36 + 3 = 39 := by decide +kernel
theorem D_T_readPieceF_47 : decode prog_6_method_15_code 47 = .ok (.iload 4, 2) ∧ 47 + 2 = 49 := by decide +kernel
theorem D_T_readPieceF_49 : decode prog_6_method_15_code 49 = .ok (.bipush 33, 2) ∧ 49 + 2 = 51 := by decide +kernel
theorem D_T_readPieceF_51 : decode prog_6_method_15_code 51 = .ok (.if_icmp .ne 31, 3) ∧ ((51 : Nat) : Int) + 31 = ((82 : Nat) : Int) ∧ 51 + 3 = 54 := by decide +kernel
theorem D_T_readPieceF_82 : decode prog_6_method_15_code 82 = .ok (.iload 4, 2) ∧ 82 + 2 = 84 := by decide +kernel
theorem D_T_readPieceF_84 : decode prog_6_method_15_code 84 = .ok (.bipush 40, 2) ∧ 84 + 2 = 86 := by decide +kernel
theorem D_T_readPieceF_86 : decode prog_6_method_15_code 86 = .ok (.if_icmp .ne 30, 3) ∧ ((86 : Nat) : Int) + 30 = ((116 : Nat) : Int) ∧ 86 + 3 = 89 := by decide +kernel
theorem D_T_readPieceF_116 : decode prog_6_method_15_code 116 = .ok (.aload_n 0, 1) ∧ 116 + 1 = 117 := by decide +kernel
theorem D_T_readPieceF_117 : decode prog_6_method_15_code 117 = .ok (.invokevirtual 52, 3) ∧ 117 + 3 = 120 := by decide +kernel
theorem D_T_readPieceF_120 : decode prog_6_method_15_code 120 = .ok (.return_, 1) := by decide +kernel
theorem D_T_readPieceF_89 : decode prog_6_method_15_code 89 = .ok (.iload_n 2, 1) ∧ 89 + 1 = 90 := by decide +kernel
theorem D_T_readPieceF_90 : decode prog_6_method_15_code 90 = .ok (.bipush 8, 2) ∧ 90 + 2 = 92 := by decide +kernel
theorem D_T_readPieceF_92 : decode prog_6_method_15_code 92 = .ok (.if_icmp .ge 24, 3) ∧ ((92 : Nat) : Int) + 24 = ((116 : Nat) : Int) ∧ 92 + 3 = 95 := by decide +kernel
theorem D_T_readPieceF_95 : decode prog_6_method_15_code 95 = .ok (.aload_n 0, 1) ∧ 95 + 1 = 96 := by decide +kernel
theorem D_T_readPieceF_96 : decode prog_6_method_15_code 96 = .ok (.invokevirtual 37, 3) ∧ 96 + 3 = 99 := by decide +kernel
theorem D_T_readPieceF_99 : decode prog_6_method_15_code 99 = .ok (.aload_n 0, 1) ∧ 99 + 1 = 100 := by decide +kernel
theorem D_T_readPieceF_100 : decode prog_6_method_15_code 100 = .ok (.aload_n 1, 1) ∧ 100 + 1 = 101 := by decide +kernel
theorem D_T_readPieceF_101 : decode prog_6_method_15_code 101 = .ok (.iconst 0, 1) ∧ 101 + 1 = 102 := by decide +kernel
theorem D_T_readPieceF_102 : decode prog_6_method_15_code 102 = .ok (.iload_n 2, 1) ∧ 102 + 1 = 103 := by decide +kernel
theorem D_T_readPieceF_103 : decode prog_6_method_15_code 103 = .ok (.iconst 1, 1) ∧ 103 + 1 = 104 := by decide +kernel
theorem D_T_readPieceF_104 : decode prog_6_method_15_code 104 = .ok (.iadd, 1) ∧ 104 + 1 = 105 := by decide +kernel
theorem D_T_readPieceF_105 : decode prog_6_method_15_code 105 = .ok (.iload_n 3, 1) ∧ 105 + 1 = 106 := by decide +kernel
theorem D_T_readPieceF_106 : decode prog_6_method_15_code 106 = .ok (.invokevirtual 44, 3) ∧ 106 + 3 = 109 := by decide +kernel
theorem D_T_readPieceF_109 : decode prog_6_method_15_code 109 = .ok (.aload_n 0, 1) ∧ 109 + 1 = 110 := by decide +kernel
theorem D_T_readPieceF_110 : decode prog_6_method_15_code 110 = .ok (.invokevirtual 118, 3) ∧ 110 + 3 = 113 := by decide +kernel
theorem D_T_readPieceF_113 : decode prog_6_method_15_code 113 = .ok (.goto 7, 3) ∧ ((113 : Nat) : Int) + 7 = ((120 : Nat) : Int) := by decide +kernel
theorem D_T_readPieceF_54 : decode prog_6_method_15_code 54 = .ok (.iload_n 3, 1) ∧ 54 + 1 = 55 := by decide +kernel
theorem D_T_readPieceF_55 : decode prog_6_method_15_code 55 = .ok (.bipush 8, 2) ∧ 55 + 2 = 57 := by decide +kernel
theorem D_T_readPieceF_57 : decode prog_6_method_15_code 57 = .ok (.if_icmp .ge 25, 3) ∧ ((57 : Nat) : Int) + 25 = ((82 : Nat) : Int) ∧ 57 + 3 = 60 := by decide +kernel
theorem D_T_readPieceF_60 : decode prog_6_method_15_code 60 = .ok (.aload_n 0, 1) ∧ 60 + 1 = 61 := by decide +kernel
theorem D_T_readPieceF_61 : decode prog_6_method_15_code 61 = .ok (.invokevirtual 37, 3) ∧ 61 + 3 = 64 := by decide +kernel
theorem D_T_readPieceF_64 : decode prog_6_method_15_code 64 = .ok (.aload_n 0, 1) ∧ 64 + 1 = 65 := by decide +kernel
theorem D_T_readPieceF_65 : decode prog_6_method_15_code 65 = .ok (.aload_n 1, 1) ∧ 65 + 1 = 66 := by decide +kernel
theorem D_T_readPieceF_66 : decode prog_6_method_15_code 66 = .ok (.iload_n 2, 1) ∧ 66 + 1 = 67 := by decide +kernel
theorem D_T_readPieceF_67 : decode prog_6_method_15_code 67 = .ok (.iload_n 3, 1) ∧ 67 + 1 = 68 := by decide +kernel
theorem D_T_readPieceF_68 : decode prog_6_method_15_code 68 = .ok (.iconst 1, 1) ∧ 68 + 1 = 69 := by decide +kernel
theorem D_T_readPieceF_69 : decode prog_6_method_15_code 69 = .ok (.iadd, 1) ∧ 69 + 1 = 70 := by decide +kernel
theorem D_T_readPieceF_70 : decode prog_6_method_15_code 70 = .ok (.invokevirtual 100, 3) ∧ 70 + 3 = 73 := by decide +kernel
theorem D_T_readPieceF_73 : decode prog_6_method_15_code 73 = .ok (.aload_n 1, 1) ∧ 73 + 1 = 74 := by decide +kernel
theorem D_T_readPieceF_74 : decode prog_6_method_15_code 74 = .ok (.bipush 33, 2) ∧ 74 + 2 = 76 := by decide +kernel
theorem D_T_readPieceF_76 : decode prog_6_method_15_code 76 = .ok (.invokevirtual 108, 3) ∧ 76 + 3 = 79 := by decide +kernel
theorem D_T_readPieceF_79 : decode prog_6_method_15_code 79 = .ok (.goto 41, 3) ∧ ((79 : Nat) : Int) + 41 = ((120 : Nat) : Int) := by decide +kernel
theorem D_T_readPieceF_39 : decode prog_6_method_15_code 39 = .ok (.aload_n 0, 1) ∧ 39 + 1 = 40 := by decide +kernel
theorem D_T_readPieceF_40 : decode prog_6_method_15_code 40 = .ok (.aload_n 1, 1) ∧ 40 + 1 = 41 := by decide +kernel
theorem D_T_readPieceF_41 : decode prog_6_method_15_code 41 = .ok (.invokevirtual 115, 3) ∧ 41 + 3 = 44 := by decide +kernel
theorem D_T_readPieceF_44 : decode prog_6_method_15_code 44 = .ok (.goto 76, 3) ∧ ((44 : Nat) : Int) + 76 = ((120 : Nat) : Int) := by decide +kernel
theorem D_T_readPieceF_23 : decode prog_6_method_15_code 23 = .ok (.aload_n 0, 1) ∧ 23 + 1 = 24 := by decide +kernel
theorem D_T_readPieceF_24 : decode prog_6_method_15_code 24 = .ok (.aload_n 1, 1) ∧ 24 + 1 = 25 := by decide +kernel
theorem D_T_readPieceF_25 : decode prog_6_method_15_code 25 = .ok (.invokevirtual 112, 3) ∧ 25 + 3 = 28 := by decide +kernel
theorem D_T_readPieceF_28 : decode prog_6_method_15_code 28 = .ok (.goto 92, 3) ∧ ((28 : Nat) : Int) + 92 = ((120 : Nat) : Int) := by decide +kernel
theorem D_T_readPieceF_8 : decode prog_6_method_15_code 8 = .ok (.return_, 1) := by decide +kernel
def f_T_readPieceF (rl : Nat → Int32 → Int32 → Int32 → Mm → Option Mm) (rp : Nat → Int32 → Int32 → Mm → Option Mm) (N : Nat) (o1 : Nat) (a2 : Int32) (a3 : Int32) (mem : Mm) : Option (Mm) := if mem 2 5 = (-1) then bp (f_T_here mem) fun r_10 => bp (f_T_isLetter r_10) fun r_17 => if r_17 = 0 then bp (f_T_isDigit r_10) fun r_33 => if r_33 = 0 then if r_10 = 33 then if 8 ≤ a3 then if r_10 = 40 then if 8 ≤ a2 then bp (f_T_fail mem) fun m_117 => some m_117 else bp (f_T_step N mem) fun m_96 => bp (rl o1 0 (a2 + 1) a3 m_96) fun m_106 => bp (f_T_readClosing N m_106) fun m_110 => some m_110 else bp (f_T_fail mem) fun m_117 => some m_117 else bp (f_T_step N mem) fun m_61 => bp (rp o1 a2 (a3 + 1) m_61) fun m_70 => bp (f_X_addSign o1 33 m_70) fun m_76 => some m_76 else if r_10 = 40 then if 8 ≤ a2 then bp (f_T_fail mem) fun m_117 => some m_117 else bp (f_T_step N mem) fun m_96 => bp (rl o1 0 (a2 + 1) a3 m_96) fun m_106 => bp (f_T_readClosing N m_106) fun m_110 => some m_110 else bp (f_T_fail mem) fun m_117 => some m_117 else bp (f_T_readNumber N o1 mem) fun m_41 => some m_41 else bp (f_T_readName N o1 mem) fun m_25 => some m_25 else some mem
theorem c_T_readPieceF (l : Launch) (E : En) (rl : Nat → Int32 → Int32 → Int32 → Mm → Option Mm) (rp : Nat → Int32 → Int32 → Mm → Option Mm) (d : Nat) (hd : 6 ≤ d) (hrl : ∀ (l : Launch) (o1 : Nat) (_ : isTxt o1) (a2 a3 a4 : Int32) {mem m2 : Mm}, rl o1 a2 a3 a4 mem = some m2 → CtV l E d y_T_readLevel prog_6_method_13_code 8 [.ref (eb E + 2), .ref (eb E + o1), .int a2, .int a3, .int a4] SH mem m2) (hrp : ∀ (l : Launch) (o1 : Nat) (_ : isTxt o1) (a2 a3 : Int32) {mem m2 : Mm}, rp o1 a2 a3 mem = some m2 → CtV l E d y_T_readPiece prog_6_method_15_code 5 [.ref (eb E + 2), .ref (eb E + o1), .int a2, .int a3] SH mem m2) (N : Nat) (o1 : Nat) (ho1 : isTxt o1) (a2 : Int32) (a3 : Int32) {mem : Mm} {m2 : Mm} (h : f_T_readPieceF rl rp N o1 a2 a3 mem = some m2) : CtV l E (d + 1) y_T_readPieceF prog_6_method_15_code 5 [.ref (eb E + 2), .ref (eb E + o1), .int a2, .int a3] SH mem m2 := by
  refine mk_CtV ⟨by decide, (Nat.le_of_ble_eq_true rfl)⟩ (fun X S hl hR => ?_)
  have S : Std X E prog_6_method_15_code R3 5 (d + 1) := S
  show J X E 5 0 [(0, .ref (eb E + 2)), (1, .ref (eb E + o1)), (2, .int a2), (3, .int a3)] [] SH mem
  unfold f_T_readPieceF at h
  refine j_aload_n S D_T_readPieceF_0 0 rfl rfl ?_
  refine j_getI S D_T_readPieceF_1 fl_R3_29 sh_Tape rfl ?_
  refine j_iconst S D_T_readPieceF_4 ci_m1 ?_
  refine j_icmp_eq S D_T_readPieceF_5 (fun c_5 => ?_) (fun c_5 => ?_)
  · have h := ifT c_5 h
    refine j_aload_n S D_T_readPieceF_9 0 rfl rfl ?_
    obtain ⟨r_10, e_10, h⟩ := bpE h
    refine j_callVI (As := []) S D_T_readPieceF_10 mv_R3_48 (c_T_here (cxL X) E e_10) (by omega) sh_Tape rfl rfl rfl rfl (Nat.le_of_ble_eq_true rfl) ?_
    refine j_istore S D_T_readPieceF_13 (lv := [(4, .int r_10), (0, .ref (eb E + 2)), (1, .ref (eb E + o1)), (2, .int a2), (3, .int a3)]) rfl (Nat.le_of_ble_eq_true rfl) ?_
    refine j_iload S D_T_readPieceF_15 0 rfl ?_
    obtain ⟨r_17, e_17, h⟩ := bpE h
    refine j_callSI (As := [.int r_10]) S D_T_readPieceF_17 ms_R3_55 (c_T_isLetter (cxL X) E r_10 (mem := mem) e_17) (by omega) rfl rfl (Nat.le_of_ble_eq_true rfl) ?_
    refine j_if_eq S D_T_readPieceF_20 (fun c_20 => ?_) (fun c_20 => ?_)
    · have h := ifT c_20 h
      refine j_iload S D_T_readPieceF_31 0 rfl ?_
      obtain ⟨r_33, e_33, h⟩ := bpE h
      refine j_callSI (As := [.int r_10]) S D_T_readPieceF_33 ms_R3_59 (c_T_isDigit (cxL X) E r_10 (mem := mem) e_33) (by omega) rfl rfl (Nat.le_of_ble_eq_true rfl) ?_
      refine j_if_eq S D_T_readPieceF_36 (fun c_36 => ?_) (fun c_36 => ?_)
      · have h := ifT c_36 h
        refine j_iload S D_T_readPieceF_47 0 rfl ?_
        refine j_bipush S D_T_readPieceF_49 cb_33 ?_
        refine j_icmp_ne S D_T_readPieceF_51 (fun c_51 => ?_) (fun c_51 => ?_)
        · have h := ifF c_51 h
          refine j_iload S D_T_readPieceF_82 0 rfl ?_
          refine j_bipush S D_T_readPieceF_84 cb_40 ?_
          refine j_icmp_ne S D_T_readPieceF_86 (fun c_86 => ?_) (fun c_86 => ?_)
          · have h := ifF c_86 h
            refine j_aload_n S D_T_readPieceF_116 1 rfl rfl ?_
            obtain ⟨m_117, e_117, h⟩ := bpE h
            refine j_callVV (As := []) S D_T_readPieceF_117 mv_R3_52 (c_T_fail (cxL X) E e_117) (by omega) sh_Tape rfl rfl rfl rfl (Nat.le_of_ble_eq_true rfl) ?_
            exact rtV hR h _ _ D_T_readPieceF_120
          · have h := ifT c_86 h
            refine j_iload_n S D_T_readPieceF_89 3 rfl rfl ?_
            refine j_bipush S D_T_readPieceF_90 cb_8 ?_
            refine j_icmp_ge S D_T_readPieceF_92 (fun c_92 => ?_) (fun c_92 => ?_)
            · have h := ifT c_92 h
              refine j_aload_n S D_T_readPieceF_116 1 rfl rfl ?_
              obtain ⟨m_117, e_117, h⟩ := bpE h
              refine j_callVV (As := []) S D_T_readPieceF_117 mv_R3_52 (c_T_fail (cxL X) E e_117) (by omega) sh_Tape rfl rfl rfl rfl (Nat.le_of_ble_eq_true rfl) ?_
              exact rtV hR h _ _ D_T_readPieceF_120
            · have h := ifF c_92 h
              refine j_aload_n S D_T_readPieceF_95 1 rfl rfl ?_
              obtain ⟨m_96, e_96, h⟩ := bpE h
              refine j_callVV (As := []) S D_T_readPieceF_96 mv_R3_37 (c_T_step (cxL X) E N e_96) (by omega) sh_Tape rfl rfl rfl rfl (Nat.le_of_ble_eq_true rfl) ?_
              refine j_aload_n S D_T_readPieceF_99 1 rfl rfl ?_
              refine j_aload_n S D_T_readPieceF_100 2 rfl rfl ?_
              refine j_iconst S D_T_readPieceF_101 ci_0 ?_
              refine j_iload_n S D_T_readPieceF_102 3 rfl rfl ?_
              refine j_iconst S D_T_readPieceF_103 ci_1 ?_
              refine j_iadd S D_T_readPieceF_104 ?_
              refine j_iload_n S D_T_readPieceF_105 4 rfl rfl ?_
              obtain ⟨m_106, e_106, h⟩ := bpE h
              refine j_callVV (As := [.ref (eb E + o1), .int 0, .int (a2 + 1), .int a3]) S D_T_readPieceF_106 mv_R3_44 (hrl (cxL X) o1 ho1 0 (a2 + 1) a3 e_106) (by omega) sh_Tape rfl rfl rfl rfl (Nat.le_of_ble_eq_true rfl) ?_
              refine j_aload_n S D_T_readPieceF_109 1 rfl rfl ?_
              obtain ⟨m_110, e_110, h⟩ := bpE h
              refine j_callVV (As := []) S D_T_readPieceF_110 mv_R3_118 (c_T_readClosing (cxL X) E N e_110) (by omega) sh_Tape rfl rfl rfl rfl (Nat.le_of_ble_eq_true rfl) ?_
              refine j_goto S D_T_readPieceF_113 ?_
              exact rtV hR h _ _ D_T_readPieceF_120
        · have h := ifT c_51 h
          refine j_iload_n S D_T_readPieceF_54 4 rfl rfl ?_
          refine j_bipush S D_T_readPieceF_55 cb_8 ?_
          refine j_icmp_ge S D_T_readPieceF_57 (fun c_57 => ?_) (fun c_57 => ?_)
          · have h := ifT c_57 h
            refine j_iload S D_T_readPieceF_82 0 rfl ?_
            refine j_bipush S D_T_readPieceF_84 cb_40 ?_
            refine j_icmp_ne S D_T_readPieceF_86 (fun c_86 => ?_) (fun c_86 => ?_)
            · have h := ifF c_86 h
              refine j_aload_n S D_T_readPieceF_116 1 rfl rfl ?_
              obtain ⟨m_117, e_117, h⟩ := bpE h
              refine j_callVV (As := []) S D_T_readPieceF_117 mv_R3_52 (c_T_fail (cxL X) E e_117) (by omega) sh_Tape rfl rfl rfl rfl (Nat.le_of_ble_eq_true rfl) ?_
              exact rtV hR h _ _ D_T_readPieceF_120
            · have h := ifT c_86 h
              refine j_iload_n S D_T_readPieceF_89 3 rfl rfl ?_
              refine j_bipush S D_T_readPieceF_90 cb_8 ?_
              refine j_icmp_ge S D_T_readPieceF_92 (fun c_92 => ?_) (fun c_92 => ?_)
              · have h := ifT c_92 h
                refine j_aload_n S D_T_readPieceF_116 1 rfl rfl ?_
                obtain ⟨m_117, e_117, h⟩ := bpE h
                refine j_callVV (As := []) S D_T_readPieceF_117 mv_R3_52 (c_T_fail (cxL X) E e_117) (by omega) sh_Tape rfl rfl rfl rfl (Nat.le_of_ble_eq_true rfl) ?_
                exact rtV hR h _ _ D_T_readPieceF_120
              · have h := ifF c_92 h
                refine j_aload_n S D_T_readPieceF_95 1 rfl rfl ?_
                obtain ⟨m_96, e_96, h⟩ := bpE h
                refine j_callVV (As := []) S D_T_readPieceF_96 mv_R3_37 (c_T_step (cxL X) E N e_96) (by omega) sh_Tape rfl rfl rfl rfl (Nat.le_of_ble_eq_true rfl) ?_
                refine j_aload_n S D_T_readPieceF_99 1 rfl rfl ?_
                refine j_aload_n S D_T_readPieceF_100 2 rfl rfl ?_
                refine j_iconst S D_T_readPieceF_101 ci_0 ?_
                refine j_iload_n S D_T_readPieceF_102 3 rfl rfl ?_
                refine j_iconst S D_T_readPieceF_103 ci_1 ?_
                refine j_iadd S D_T_readPieceF_104 ?_
                refine j_iload_n S D_T_readPieceF_105 4 rfl rfl ?_
                obtain ⟨m_106, e_106, h⟩ := bpE h
                refine j_callVV (As := [.ref (eb E + o1), .int 0, .int (a2 + 1), .int a3]) S D_T_readPieceF_106 mv_R3_44 (hrl (cxL X) o1 ho1 0 (a2 + 1) a3 e_106) (by omega) sh_Tape rfl rfl rfl rfl (Nat.le_of_ble_eq_true rfl) ?_
                refine j_aload_n S D_T_readPieceF_109 1 rfl rfl ?_
                obtain ⟨m_110, e_110, h⟩ := bpE h
                refine j_callVV (As := []) S D_T_readPieceF_110 mv_R3_118 (c_T_readClosing (cxL X) E N e_110) (by omega) sh_Tape rfl rfl rfl rfl (Nat.le_of_ble_eq_true rfl) ?_
                refine j_goto S D_T_readPieceF_113 ?_
                exact rtV hR h _ _ D_T_readPieceF_120
          · have h := ifF c_57 h
            refine j_aload_n S D_T_readPieceF_60 1 rfl rfl ?_
            obtain ⟨m_61, e_61, h⟩ := bpE h
            refine j_callVV (As := []) S D_T_readPieceF_61 mv_R3_37 (c_T_step (cxL X) E N e_61) (by omega) sh_Tape rfl rfl rfl rfl (Nat.le_of_ble_eq_true rfl) ?_
            refine j_aload_n S D_T_readPieceF_64 1 rfl rfl ?_
            refine j_aload_n S D_T_readPieceF_65 2 rfl rfl ?_
            refine j_iload_n S D_T_readPieceF_66 3 rfl rfl ?_
            refine j_iload_n S D_T_readPieceF_67 4 rfl rfl ?_
            refine j_iconst S D_T_readPieceF_68 ci_1 ?_
            refine j_iadd S D_T_readPieceF_69 ?_
            obtain ⟨m_70, e_70, h⟩ := bpE h
            refine j_callVV (As := [.ref (eb E + o1), .int a2, .int (a3 + 1)]) S D_T_readPieceF_70 mv_R3_100 (hrp (cxL X) o1 ho1 a2 (a3 + 1) e_70) (by omega) sh_Tape rfl rfl rfl rfl (Nat.le_of_ble_eq_true rfl) ?_
            refine j_aload_n S D_T_readPieceF_73 2 rfl rfl ?_
            refine j_bipush S D_T_readPieceF_74 cb_33 ?_
            obtain ⟨m_76, e_76, h⟩ := bpE h
            refine j_callVV (As := [.int 33]) S D_T_readPieceF_76 mv_R3_108 (c_X_addSign (cxL X) E o1 ho1 33 e_76) (by omega) (sh_txt ho1) rfl rfl rfl rfl (Nat.le_of_ble_eq_true rfl) ?_
            refine j_goto S D_T_readPieceF_79 ?_
            exact rtV hR h _ _ D_T_readPieceF_120
      · have h := ifF c_36 h
        refine j_aload_n S D_T_readPieceF_39 1 rfl rfl ?_
        refine j_aload_n S D_T_readPieceF_40 2 rfl rfl ?_
        obtain ⟨m_41, e_41, h⟩ := bpE h
        refine j_callVV (As := [.ref (eb E + o1)]) S D_T_readPieceF_41 mv_R3_115 (c_T_readNumber (cxL X) E N o1 ho1 e_41) (by omega) sh_Tape rfl rfl rfl rfl (Nat.le_of_ble_eq_true rfl) ?_
        refine j_goto S D_T_readPieceF_44 ?_
        exact rtV hR h _ _ D_T_readPieceF_120
    · have h := ifF c_20 h
      refine j_aload_n S D_T_readPieceF_23 1 rfl rfl ?_
      refine j_aload_n S D_T_readPieceF_24 2 rfl rfl ?_
      obtain ⟨m_25, e_25, h⟩ := bpE h
      refine j_callVV (As := [.ref (eb E + o1)]) S D_T_readPieceF_25 mv_R3_112 (c_T_readName (cxL X) E N o1 ho1 e_25) (by omega) sh_Tape rfl rfl rfl rfl (Nat.le_of_ble_eq_true rfl) ?_
      refine j_goto S D_T_readPieceF_28 ?_
      exact rtV hR h _ _ D_T_readPieceF_120
  · have h := ifF c_5 h
    exact rtV hR h _ _ D_T_readPieceF_8

/-- the knot: n calls deep -/
def f_rd (N : Nat) : Nat → (Nat → Int32 → Int32 → Int32 → Mm → Option Mm) × (Nat → Int32 → Int32 → Mm → Option Mm)
  | 0 => (fun _ _ _ _ _ => none, fun _ _ _ _ => none)
  | n + 1 => (f_T_readLevelF (f_rd N n).1 (f_rd N n).2 N, f_T_readPieceF (f_rd N n).1 (f_rd N n).2 N)
theorem c_rd (E : En) (N : Nat) : ∀ n : Nat, (∀ (l : Launch) (o1 : Nat) (_ : isTxt o1) (a2 a3 a4 : Int32) {mem m2 : Mm}, (f_rd N n).1 o1 a2 a3 a4 mem = some m2 → CtV l E (n + 6) y_T_readLevel prog_6_method_13_code 8 [.ref (eb E + 2), .ref (eb E + o1), .int a2, .int a3, .int a4] SH mem m2) ∧ (∀ (l : Launch) (o1 : Nat) (_ : isTxt o1) (a2 a3 : Int32) {mem m2 : Mm}, (f_rd N n).2 o1 a2 a3 mem = some m2 → CtV l E (n + 6) y_T_readPiece prog_6_method_15_code 5 [.ref (eb E + 2), .ref (eb E + o1), .int a2, .int a3] SH mem m2)
  | 0 => ⟨fun _ _ _ _ _ _ _ _ h => (by cases h), fun _ _ _ _ _ _ _ h => (by cases h)⟩
  | n + 1 => ⟨fun l o1 ho1 a2 a3 a4 _ _ h => c_T_readLevelF l E (f_rd N n).1 (f_rd N n).2 (n + 6) (by omega) (c_rd E N n).1 (c_rd E N n).2 N o1 ho1 a2 a3 a4 h, fun l o1 ho1 a2 a3 _ _ h => c_T_readPieceF l E (f_rd N n).1 (f_rd N n).2 (n + 6) (by omega) (c_rd E N n).1 (c_rd E N n).2 N o1 ho1 a2 a3 h⟩
def MD : Nat := 100
def f_T_readLevel (N o1 : Nat) (a2 a3 a4 : Int32) (mem : Mm) : Option Mm := (f_rd N MD).1 o1 a2 a3 a4 mem
theorem c_T_readLevel (l : Launch) (E : En) (N o1 : Nat) (ho1 : isTxt o1) (a2 a3 a4 : Int32) {mem m2 : Mm} (h : f_T_readLevel N o1 a2 a3 a4 mem = some m2) : CtV l E (MD + 6) y_T_readLevel prog_6_method_13_code 8 [.ref (eb E + 2), .ref (eb E + o1), .int a2, .int a3, .int a4] SH mem m2 := (c_rd E N MD).1 l o1 ho1 a2 a3 a4 h

def y_T_readInto : MethodName := ⟨"SandPicture$Tape", "readInto", "(LSandPicture$Text;)I"⟩
theorem D_T_readInto_0 : decode prog_6_method_3_code 0 = .ok (.aload_n 1, 1) ∧ 0 + 1 = 1 := by decide +kernel
theorem D_T_readInto_1 : decode prog_6_method_3_code 1 = .ok (.invokevirtual 32, 3) ∧ 1 + 3 = 4 := by decide +kernel
theorem D_T_readInto_4 : decode prog_6_method_3_code 4 = .ok (.aload_n 0, 1) ∧ 4 + 1 = 5 := by decide +kernel
theorem D_T_readInto_5 : decode prog_6_method_3_code 5 = .ok (.iconst 0, 1) ∧ 5 + 1 = 6 := by decide +kernel
theorem D_T_readInto_6 : decode prog_6_method_3_code 6 = .ok (.putfield 19, 3) ∧ 6 + 3 = 9 := by decide +kernel
theorem D_T_readInto_9 : decode prog_6_method_3_code 9 = .ok (.aload_n 0, 1) ∧ 9 + 1 = 10 := by decide +kernel
theorem D_T_readInto_10 : decode prog_6_method_3_code 10 = .ok (.iconst 0, 1) ∧ 10 + 1 = 11 := by decide +kernel
theorem D_T_readInto_11 : decode prog_6_method_3_code 11 = .ok (.putfield 22, 3) ∧ 11 + 3 = 14 := by decide +kernel
theorem D_T_readInto_14 : decode prog_6_method_3_code 14 = .ok (.aload_n 0, 1) ∧ 14 + 1 = 15 := by decide +kernel
theorem D_T_readInto_15 : decode prog_6_method_3_code 15 = .ok (.iconst (-1), 1) ∧ 15 + 1 = 16 := by decide +kernel
theorem D_T_readInto_16 : decode prog_6_method_3_code 16 = .ok (.putfield 29, 3) ∧ 16 + 3 = 19 := by decide +kernel
theorem D_T_readInto_19 : decode prog_6_method_3_code 19 = .ok (.aload_n 0, 1) ∧ 19 + 1 = 20 := by decide +kernel
theorem D_T_readInto_20 : decode prog_6_method_3_code 20 = .ok (.invokevirtual 37, 3) ∧ 20 + 3 = 23 := by decide +kernel
theorem D_T_readInto_23 : decode prog_6_method_3_code 23 = .ok (.aload_n 0, 1) ∧ 23 + 1 = 24 := by decide +kernel
theorem D_T_readInto_24 : decode prog_6_method_3_code 24 = .ok (.aload_n 1, 1) ∧ 24 + 1 = 25 := by decide +kernel
theorem D_T_readInto_25 : decode prog_6_method_3_code 25 = .ok (.invokevirtual 40, 3) ∧ 25 + 3 = 28 := by decide +kernel
theorem D_T_readInto_28 : decode prog_6_method_3_code 28 = .ok (.aload_n 0, 1) ∧ 28 + 1 = 29 := by decide +kernel
theorem D_T_readInto_29 : decode prog_6_method_3_code 29 = .ok (.aload_n 1, 1) ∧ 29 + 1 = 30 := by decide +kernel
theorem D_T_readInto_30 : decode prog_6_method_3_code 30 = .ok (.iconst 0, 1) ∧ 30 + 1 = 31 := by decide +kernel
theorem D_T_readInto_31 : decode prog_6_method_3_code 31 = .ok (.iconst 0, 1) ∧ 31 + 1 = 32 := by decide +kernel
theorem D_T_readInto_32 : decode prog_6_method_3_code 32 = .ok (.iconst 0, 1) ∧ 32 + 1 = 33 := by decide +kernel
theorem D_T_readInto_33 : decode prog_6_method_3_code 33 = .ok (.invokevirtual 44, 3) ∧ 33 + 3 = 36 := by decide +kernel
theorem D_T_readInto_36 : decode prog_6_method_3_code 36 = .ok (.aload_n 0, 1) ∧ 36 + 1 = 37 := by decide +kernel
theorem D_T_readInto_37 : decode prog_6_method_3_code 37 = .ok (.invokevirtual 48, 3) ∧ 37 + 3 = 40 := by decide +kernel
theorem D_T_readInto_40 : decode prog_6_method_3_code 40 = .ok (.iconst (-1), 1) ∧ 40 + 1 = 41 := by decide +kernel
theorem D_T_readInto_41 : decode prog_6_method_3_code 41 = .ok (.if_icmp .eq 7, 3) ∧ ((41 : Nat) : Int) + 7 = ((48 : Nat) : Int) ∧ 41 + 3 = 44 := by decide +kernel
theorem D_T_readInto_48 : decode prog_6_method_3_code 48 = .ok (.aload_n 0, 1) ∧ 48 + 1 = 49 := by decide +kernel
theorem D_T_readInto_49 : decode prog_6_method_3_code 49 = .ok (.iconst 0, 1) ∧ 49 + 1 = 50 := by decide +kernel
theorem D_T_readInto_50 : decode prog_6_method_3_code 50 = .ok (.putfield 9, 3) ∧ 50 + 3 = 53 := by decide +kernel
theorem D_T_readInto_53 : decode prog_6_method_3_code 53 = .ok (.aload_n 0, 1) ∧ 53 + 1 = 54 := by decide +kernel
theorem D_T_readInto_54 : decode prog_6_method_3_code 54 = .ok (.getfield 29, 3) ∧ 54 + 3 = 57 := by decide +kernel
theorem D_T_readInto_57 : decode prog_6_method_3_code 57 = .ok (.ireturn, 1) := by decide +kernel
theorem D_T_readInto_44 : decode prog_6_method_3_code 44 = .ok (.aload_n 0, 1) ∧ 44 + 1 = 45 := by decide +kernel
theorem D_T_readInto_45 : decode prog_6_method_3_code 45 = .ok (.invokevirtual 52, 3) ∧ 45 + 3 = 48 := by decide +kernel
def f_T_readInto (N : Nat) (o1 : Nat) (mem : Mm) : Option (Int32 × Mm) := bp (f_X_clear o1 mem) fun m_1 => lt (mst m_1 2 2 0) fun m_6 => lt (mst m_6 2 3 0) fun m_11 => lt (mst m_11 2 5 (-1)) fun m_16 => bp (f_T_step N m_16) fun m_20 => bp (f_T_readKey N o1 m_20) fun m_25 => bp (f_T_readLevel N o1 0 0 0 m_25) fun m_33 => bp (f_T_here m_33) fun r_37 => if r_37 = (-1) then lt (mst m_33 2 0 0) fun m_50 => some (m_50 2 5, m_50) else bp (f_T_fail m_33) fun m_45 => lt (mst m_45 2 0 0) fun m_50 => some (m_50 2 5, m_50)
theorem c_T_readInto (l : Launch) (E : En) (N : Nat) (o1 : Nat) (ho1 : isTxt o1) {mem : Mm} {r : Int32} {m2 : Mm} (h : f_T_readInto N o1 mem = some (r, m2)) : CtI l E (MD + 7) y_T_readInto prog_6_method_3_code 2 (some .int) [.ref (eb E + 2), .ref (eb E + o1)] SH mem r m2 := by
  refine mk_CtI ⟨by decide, (Nat.le_of_ble_eq_true rfl)⟩ (fun X S hl hR => ?_)
  have S : Std X E prog_6_method_3_code R3 2 (MD + 7) := S
  show J X E 2 0 [(0, .ref (eb E + 2)), (1, .ref (eb E + o1))] [] SH mem
  unfold f_T_readInto at h
  refine j_aload_n S D_T_readInto_0 1 rfl rfl ?_
  obtain ⟨m_1, e_1, h⟩ := bpE h
  refine j_callVV (As := []) S D_T_readInto_1 mv_R3_32 (c_X_clear (cxL X) E o1 ho1 e_1) (by decide) (sh_txt ho1) rfl rfl rfl rfl (Nat.le_of_ble_eq_true rfl) ?_
  refine j_aload_n S D_T_readInto_4 0 rfl rfl ?_
  refine j_iconst S D_T_readInto_5 ci_0 ?_
  obtain ⟨m_6, hm_6, h⟩ := ltE h
  refine j_putI S D_T_readInto_6 fp_R3_19 sh_Tape rfl ?_
  refine j_mem hm_6 ?_
  refine j_aload_n S D_T_readInto_9 0 rfl rfl ?_
  refine j_iconst S D_T_readInto_10 ci_0 ?_
  obtain ⟨m_11, hm_11, h⟩ := ltE h
  refine j_putI S D_T_readInto_11 fp_R3_22 sh_Tape rfl ?_
  refine j_mem hm_11 ?_
  refine j_aload_n S D_T_readInto_14 0 rfl rfl ?_
  refine j_iconst S D_T_readInto_15 ci_m1 ?_
  obtain ⟨m_16, hm_16, h⟩ := ltE h
  refine j_putI S D_T_readInto_16 fp_R3_29 sh_Tape rfl ?_
  refine j_mem hm_16 ?_
  refine j_aload_n S D_T_readInto_19 0 rfl rfl ?_
  obtain ⟨m_20, e_20, h⟩ := bpE h
  refine j_callVV (As := []) S D_T_readInto_20 mv_R3_37 (c_T_step (cxL X) E N e_20) (by decide) sh_Tape rfl rfl rfl rfl (Nat.le_of_ble_eq_true rfl) ?_
  refine j_aload_n S D_T_readInto_23 0 rfl rfl ?_
  refine j_aload_n S D_T_readInto_24 1 rfl rfl ?_
  obtain ⟨m_25, e_25, h⟩ := bpE h
  refine j_callVV (As := [.ref (eb E + o1)]) S D_T_readInto_25 mv_R3_40 (c_T_readKey (cxL X) E N o1 ho1 e_25) (by decide) sh_Tape rfl rfl rfl rfl (Nat.le_of_ble_eq_true rfl) ?_
  refine j_aload_n S D_T_readInto_28 0 rfl rfl ?_
  refine j_aload_n S D_T_readInto_29 1 rfl rfl ?_
  refine j_iconst S D_T_readInto_30 ci_0 ?_
  refine j_iconst S D_T_readInto_31 ci_0 ?_
  refine j_iconst S D_T_readInto_32 ci_0 ?_
  obtain ⟨m_33, e_33, h⟩ := bpE h
  refine j_callVV (As := [.ref (eb E + o1), .int 0, .int 0, .int 0]) S D_T_readInto_33 mv_R3_44 (c_T_readLevel (cxL X) E N o1 ho1 0 0 0 e_33) (by decide) sh_Tape rfl rfl rfl rfl (Nat.le_of_ble_eq_true rfl) ?_
  refine j_aload_n S D_T_readInto_36 0 rfl rfl ?_
  obtain ⟨r_37, e_37, h⟩ := bpE h
  refine j_callVI (As := []) S D_T_readInto_37 mv_R3_48 (c_T_here (cxL X) E e_37) (by decide) sh_Tape rfl rfl rfl rfl (Nat.le_of_ble_eq_true rfl) ?_
  refine j_iconst S D_T_readInto_40 ci_m1 ?_
  refine j_icmp_eq S D_T_readInto_41 (fun c_41 => ?_) (fun c_41 => ?_)
  · have h := ifT c_41 h
    refine j_aload_n S D_T_readInto_48 0 rfl rfl ?_
    refine j_iconst S D_T_readInto_49 ci_0 ?_
    obtain ⟨m_50, hm_50, h⟩ := ltE h
    refine j_putI S D_T_readInto_50 fp_R3_9 sh_Tape rfl ?_
    refine j_mem hm_50 ?_
    refine j_aload_n S D_T_readInto_53 0 rfl rfl ?_
    refine j_getI S D_T_readInto_54 fl_R3_29 sh_Tape rfl ?_
    exact rtM hR h _ _ D_T_readInto_57
  · have h := ifF c_41 h
    refine j_aload_n S D_T_readInto_44 0 rfl rfl ?_
    obtain ⟨m_45, e_45, h⟩ := bpE h
    refine j_callVV (As := []) S D_T_readInto_45 mv_R3_52 (c_T_fail (cxL X) E e_45) (by decide) sh_Tape rfl rfl rfl rfl (Nat.le_of_ble_eq_true rfl) ?_
    refine j_aload_n S D_T_readInto_48 0 rfl rfl ?_
    refine j_iconst S D_T_readInto_49 ci_0 ?_
    obtain ⟨m_50, hm_50, h⟩ := ltE h
    refine j_putI S D_T_readInto_50 fp_R3_9 sh_Tape rfl ?_
    refine j_mem hm_50 ?_
    refine j_aload_n S D_T_readInto_53 0 rfl rfl ?_
    refine j_getI S D_T_readInto_54 fl_R3_29 sh_Tape rfl ?_
    exact rtM hR h _ _ D_T_readInto_57

def y_S_text : MethodName := ⟨"SandPicture", "text", "()I"⟩
theorem D_S_text_0 : decode prog_1_method_28_code 0 = .ok (.aload_n 0, 1) ∧ 0 + 1 = 1 := by decide +kernel
theorem D_S_text_1 : decode prog_1_method_28_code 1 = .ok (.getfield 52, 3) ∧ 1 + 3 = 4 := by decide +kernel
theorem D_S_text_4 : decode prog_1_method_28_code 4 = .ok (.getfield 199, 3) ∧ 4 + 3 = 7 := by decide +kernel
theorem D_S_text_7 : decode prog_1_method_28_code 7 = .ok (.bipush 14, 2) ∧ 7 + 2 = 9 := by decide +kernel
theorem D_S_text_9 : decode prog_1_method_28_code 9 = .ok (.invokestatic 138, 3) ∧ 9 + 3 = 12 := by decide +kernel
theorem D_S_text_12 : decode prog_1_method_28_code 12 = .ok (.istore_n 1, 1) ∧ 12 + 1 = 13 := by decide +kernel
theorem D_S_text_13 : decode prog_1_method_28_code 13 = .ok (.aload_n 0, 1) ∧ 13 + 1 = 14 := by decide +kernel
theorem D_S_text_14 : decode prog_1_method_28_code 14 = .ok (.getfield 18, 3) ∧ 14 + 3 = 17 := by decide +kernel
theorem D_S_text_17 : decode prog_1_method_28_code 17 = .ok (.aload_n 0, 1) ∧ 17 + 1 = 18 := by decide +kernel
theorem D_S_text_18 : decode prog_1_method_28_code 18 = .ok (.getfield 11, 3) ∧ 18 + 3 = 21 := by decide +kernel
theorem D_S_text_21 : decode prog_1_method_28_code 21 = .ok (.iload_n 1, 1) ∧ 21 + 1 = 22 := by decide +kernel
theorem D_S_text_22 : decode prog_1_method_28_code 22 = .ok (.aaload, 1) ∧ 22 + 1 = 23 := by decide +kernel
theorem D_S_text_23 : decode prog_1_method_28_code 23 = .ok (.invokevirtual 202, 3) ∧ 23 + 3 = 26 := by decide +kernel
theorem D_S_text_26 : decode prog_1_method_28_code 26 = .ok (.istore_n 2, 1) ∧ 26 + 1 = 27 := by decide +kernel
theorem D_S_text_27 : decode prog_1_method_28_code 27 = .ok (.iload_n 2, 1) ∧ 27 + 1 = 28 := by decide +kernel
theorem D_S_text_28 : decode prog_1_method_28_code 28 = .ok (.ifCond .lt 8, 3) ∧ ((28 : Nat) : Int) + 8 = ((36 : Nat) : Int) ∧ 28 + 3 = 31 := by decide +kernel
theorem D_S_text_36 : decode prog_1_method_28_code 36 = .ok (.iload_n 1, 1) ∧ 36 + 1 = 37 := by decide +kernel
theorem D_S_text_37 : decode prog_1_method_28_code 37 = .ok (.bipush 14, 2) ∧ 37 + 2 = 39 := by decide +kernel
theorem D_S_text_39 : decode prog_1_method_28_code 39 = .ok (.if_icmp .lt 6, 3) ∧ ((39 : Nat) : Int) + 6 = ((45 : Nat) : Int) ∧ 39 + 3 = 42 := by decide +kernel
theorem D_S_text_45 : decode prog_1_method_28_code 45 = .ok (.aload_n 0, 1) ∧ 45 + 1 = 46 := by decide +kernel
theorem D_S_text_46 : decode prog_1_method_28_code 46 = .ok (.getfield 52, 3) ∧ 46 + 3 = 49 := by decide +kernel
theorem D_S_text_49 : decode prog_1_method_28_code 49 = .ok (.iload_n 1, 1) ∧ 49 + 1 = 50 := by decide +kernel
theorem D_S_text_50 : decode prog_1_method_28_code 50 = .ok (.iconst 1, 1) ∧ 50 + 1 = 51 := by decide +kernel
theorem D_S_text_51 : decode prog_1_method_28_code 51 = .ok (.iadd, 1) ∧ 51 + 1 = 52 := by decide +kernel
theorem D_S_text_52 : decode prog_1_method_28_code 52 = .ok (.putfield 199, 3) ∧ 52 + 3 = 55 := by decide +kernel
theorem D_S_text_55 : decode prog_1_method_28_code 55 = .ok (.aload_n 0, 1) ∧ 55 + 1 = 56 := by decide +kernel
theorem D_S_text_56 : decode prog_1_method_28_code 56 = .ok (.getfield 52, 3) ∧ 56 + 3 = 59 := by decide +kernel
theorem D_S_text_59 : decode prog_1_method_28_code 59 = .ok (.getfield 206, 3) ∧ 59 + 3 = 62 := by decide +kernel
theorem D_S_text_62 : decode prog_1_method_28_code 62 = .ok (.aload_n 0, 1) ∧ 62 + 1 = 63 := by decide +kernel
theorem D_S_text_63 : decode prog_1_method_28_code 63 = .ok (.getfield 11, 3) ∧ 63 + 3 = 66 := by decide +kernel
theorem D_S_text_66 : decode prog_1_method_28_code 66 = .ok (.iload_n 1, 1) ∧ 66 + 1 = 67 := by decide +kernel
theorem D_S_text_67 : decode prog_1_method_28_code 67 = .ok (.aaload, 1) ∧ 67 + 1 = 68 := by decide +kernel
theorem D_S_text_68 : decode prog_1_method_28_code 68 = .ok (.getfield 209, 3) ∧ 68 + 3 = 71 := by decide +kernel
theorem D_S_text_71 : decode prog_1_method_28_code 71 = .ok (.iload_n 1, 1) ∧ 71 + 1 = 72 := by decide +kernel
theorem D_S_text_72 : decode prog_1_method_28_code 72 = .ok (.iastore, 1) ∧ 72 + 1 = 73 := by decide +kernel
theorem D_S_text_73 : decode prog_1_method_28_code 73 = .ok (.iload_n 1, 1) ∧ 73 + 1 = 74 := by decide +kernel
theorem D_S_text_74 : decode prog_1_method_28_code 74 = .ok (.ireturn, 1) := by decide +kernel
theorem D_S_text_42 : decode prog_1_method_28_code 42 = .ok (.ldc 81, 2) ∧ 42 + 2 = 44 := by decide +kernel
theorem D_S_text_44 : decode prog_1_method_28_code 44 = .ok (.ireturn, 1) := by decide +kernel
theorem D_S_text_31 : decode prog_1_method_28_code 31 = .ok (.bipush (-100), 2) ∧ 31 + 2 = 33 := by decide +kernel
theorem D_S_text_33 : decode prog_1_method_28_code 33 = .ok (.iload_n 2, 1) ∧ 33 + 1 = 34 := by decide +kernel
theorem D_S_text_34 : decode prog_1_method_28_code 34 = .ok (.isub, 1) ∧ 34 + 1 = 35 := by decide +kernel
theorem D_S_text_35 : decode prog_1_method_28_code 35 = .ok (.ireturn, 1) := by decide +kernel
def f_S_text (N : Nat)  (mem : Mm) : Option (Int32 × Mm) := lt (if 14 < (mem 38 2) then 14 else mem 38 2) fun x_12 => if inb x_12 15 = true then bd (f_T_readInto N (7 + 2 * ix x_12) mem) fun r_23 m_23 => if r_23 < 0 then if x_12 < 14 then lt (mst m_23 38 2 (x_12 + 1)) fun m_52 => if inb (m_52 (7 + 2 * ix x_12) 0) 3 = true then lt (mst m_52 39 (ix (m_52 (7 + 2 * ix x_12) 0)) x_12) fun m_72 => some (x_12, m_72) else none else some ((-1000000003), m_23) else some ((-100) - r_23, m_23) else none
theorem c_S_text (l : Launch) (E : En) (N : Nat)  {mem : Mm} {r : Int32} {m2 : Mm} (h : f_S_text N mem = some (r, m2)) : CtI l E (MD + 8) y_S_text prog_1_method_28_code 3 (some .int) [.ref (eb E + 0)] SH mem r m2 := by
  refine mk_CtI ⟨by decide, (Nat.le_of_ble_eq_true rfl)⟩ (fun X S hl hR => ?_)
  have S : Std X E prog_1_method_28_code R5 3 (MD + 8) := S
  show J X E 3 0 [(0, .ref (eb E + 0))] [] SH mem
  unfold f_S_text at h
  refine j_aload_n S D_S_text_0 0 rfl rfl ?_
  refine j_getR S D_S_text_1 fl_R5_52 sh_Sand rfl ?_
  refine j_getI S D_S_text_4 fl_R5_199 sh_P38 rfl ?_
  refine j_bipush S D_S_text_7 cb_14 ?_
  refine j_mmin S D_S_text_9 (by decide) mm_R5_138 (Nat.le_of_ble_eq_true rfl) ?_
  obtain ⟨x_12, hx_12, h⟩ := ltE h
  refine j_nm hx_12 ?_
  refine j_istore_n S D_S_text_12 (lv := [(1, .int x_12), (0, .ref (eb E + 0))]) rfl ⟨rfl, (Nat.le_of_ble_eq_true rfl)⟩ ?_
  refine j_aload_n S D_S_text_13 1 rfl rfl ?_
  refine j_getR S D_S_text_14 fl_R5_18 sh_Sand rfl ?_
  refine j_aload_n S D_S_text_17 1 rfl rfl ?_
  refine j_getR S D_S_text_18 fl_R5_11 sh_Sand rfl ?_
  refine j_iload_n S D_S_text_21 0 rfl rfl ?_
  obtain ⟨g_22, h⟩ := gdE h
  refine j_aald S D_S_text_22 sh_1 rfl g_22 (el_txt g_22) ?_
  obtain ⟨r_23, m_23, e_23, h⟩ := bdE h
  refine j_callVI (As := [.ref (eb E + (7 + 2 * ix x_12))]) S D_S_text_23 mv_R5_202 (c_T_readInto (cxL X) E N (7 + 2 * ix x_12) (ro_txt g_22) e_23) (by decide) sh_Tape rfl rfl rfl rfl (Nat.le_of_ble_eq_true rfl) ?_
  refine j_istore_n S D_S_text_26 (lv := [(2, .int r_23), (1, .int x_12), (0, .ref (eb E + 0))]) rfl ⟨rfl, (Nat.le_of_ble_eq_true rfl)⟩ ?_
  refine j_iload_n S D_S_text_27 0 rfl rfl ?_
  refine j_if_lt S D_S_text_28 (fun c_28 => ?_) (fun c_28 => ?_)
  · have h := ifT c_28 h
    refine j_iload_n S D_S_text_36 1 rfl rfl ?_
    refine j_bipush S D_S_text_37 cb_14 ?_
    refine j_icmp_lt S D_S_text_39 (fun c_39 => ?_) (fun c_39 => ?_)
    · have h := ifT c_39 h
      refine j_aload_n S D_S_text_45 2 rfl rfl ?_
      refine j_getR S D_S_text_46 fl_R5_52 sh_Sand rfl ?_
      refine j_iload_n S D_S_text_49 1 rfl rfl ?_
      refine j_iconst S D_S_text_50 ci_1 ?_
      refine j_iadd S D_S_text_51 ?_
      obtain ⟨m_52, hm_52, h⟩ := ltE h
      refine j_putI S D_S_text_52 fp_R5_199 sh_P38 rfl ?_
      refine j_mem hm_52 ?_
      refine j_aload_n S D_S_text_55 2 rfl rfl ?_
      refine j_getR S D_S_text_56 fl_R5_52 sh_Sand rfl ?_
      refine j_getR S D_S_text_59 fl_R5_206 sh_P38 rfl ?_
      refine j_aload_n S D_S_text_62 2 rfl rfl ?_
      refine j_getR S D_S_text_63 fl_R5_11 sh_Sand rfl ?_
      refine j_iload_n S D_S_text_66 1 rfl rfl ?_
      refine j_aald S D_S_text_67 sh_1 rfl g_22 (el_txt g_22) ?_
      refine j_getI S D_S_text_68 fl_R5_209 (sh_txt (ro_txt g_22)) rfl ?_
      refine j_iload_n S D_S_text_71 1 rfl rfl ?_
      obtain ⟨g_72, h⟩ := gdE h
      obtain ⟨m_72, hm_72, h⟩ := ltE h
      refine j_iast S D_S_text_72 sh_39 g_72 ?_
      refine j_mem hm_72 ?_
      refine j_iload_n S D_S_text_73 1 rfl rfl ?_
      exact rtM hR h _ _ D_S_text_74
    · have h := ifF c_39 h
      refine j_ldc S D_S_text_42 co_R5_81 ?_
      exact rtM hR h _ _ D_S_text_44
  · have h := ifF c_28 h
    refine j_bipush S D_S_text_31 cb_m100 ?_
    refine j_iload_n S D_S_text_33 0 rfl rfl ?_
    refine j_isub S D_S_text_34 ?_
    exact rtM hR h _ _ D_S_text_35
