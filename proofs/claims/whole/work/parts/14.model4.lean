def y_M_notsOpen : MethodName := ⟨"SandPictureModel", "notsOpen", "()I"⟩
theorem D_M_notsOpen_0 : decode prog_9_method_63_code 0 = .ok (.iconst 0, 1) ∧ 0 + 1 = 1 := by decide +kernel
theorem D_M_notsOpen_1 : decode prog_9_method_63_code 1 = .ok (.istore_n 1, 1) ∧ 1 + 1 = 2 := by decide +kernel
theorem D_M_notsOpen_2 : decode prog_9_method_63_code 2 = .ok (.iconst 0, 1) ∧ 2 + 1 = 3 := by decide +kernel
theorem D_M_notsOpen_3 : decode prog_9_method_63_code 3 = .ok (.istore_n 2, 1) ∧ 3 + 1 = 4 := by decide +kernel
theorem D_M_notsOpen_4 : decode prog_9_method_63_code 4 = .ok (.iload_n 2, 1) ∧ 4 + 1 = 5 := by decide +kernel
theorem D_M_notsOpen_5 : decode prog_9_method_63_code 5 = .ok (.aload_n 0, 1) ∧ 5 + 1 = 6 := by decide +kernel
theorem D_M_notsOpen_6 : decode prog_9_method_63_code 6 = .ok (.getfield 207, 3) ∧ 6 + 3 = 9 := by decide +kernel
theorem D_M_notsOpen_9 : decode prog_9_method_63_code 9 = .ok (.if_icmp .ge 28, 3) ∧ ((9 : Nat) : Int) + 28 = ((37 : Nat) : Int) ∧ 9 + 3 = 12 := by decide +kernel
theorem D_M_notsOpen_12 : decode prog_9_method_63_code 12 = .ok (.iload_n 1, 1) ∧ 12 + 1 = 13 := by decide +kernel
theorem D_M_notsOpen_13 : decode prog_9_method_63_code 13 = .ok (.aload_n 0, 1) ∧ 13 + 1 = 14 := by decide +kernel
theorem D_M_notsOpen_14 : decode prog_9_method_63_code 14 = .ok (.getfield 39, 3) ∧ 14 + 3 = 17 := by decide +kernel
theorem D_M_notsOpen_17 : decode prog_9_method_63_code 17 = .ok (.iload_n 2, 1) ∧ 17 + 1 = 18 := by decide +kernel
theorem D_M_notsOpen_18 : decode prog_9_method_63_code 18 = .ok (.iaload, 1) ∧ 18 + 1 = 19 := by decide +kernel
theorem D_M_notsOpen_19 : decode prog_9_method_63_code 19 = .ok (.bipush (-10), 2) ∧ 19 + 2 = 21 := by decide +kernel
theorem D_M_notsOpen_28 : decode prog_9_method_63_code 28 = .ok (.iconst 0, 1) ∧ 28 + 1 = 29 := by decide +kernel
theorem D_M_notsOpen_24 : decode prog_9_method_63_code 24 = .ok (.iconst 1, 1) ∧ 24 + 1 = 25 := by decide +kernel
theorem D_M_notsOpen_25 : decode prog_9_method_63_code 25 = .ok (.goto 4, 3) ∧ ((25 : Nat) : Int) + 4 = ((29 : Nat) : Int) := by decide +kernel
theorem D_M_notsOpen_21 : decode prog_9_method_63_code 21 = .ok (.if_icmp .ne 7, 3) ∧ ((21 : Nat) : Int) + 7 = ((28 : Nat) : Int) ∧ 21 + 3 = 24 := by decide +kernel
theorem D_M_notsOpen_29 : decode prog_9_method_63_code 29 = .ok (.iadd, 1) ∧ 29 + 1 = 30 := by decide +kernel
theorem D_M_notsOpen_30 : decode prog_9_method_63_code 30 = .ok (.istore_n 1, 1) ∧ 30 + 1 = 31 := by decide +kernel
theorem D_M_notsOpen_31 : decode prog_9_method_63_code 31 = .ok (.iinc 2 1, 3) ∧ 31 + 3 = 34 := by decide +kernel
theorem D_M_notsOpen_34 : decode prog_9_method_63_code 34 = .ok (.goto (-30), 3) ∧ ((34 : Nat) : Int) + (-30) = ((4 : Nat) : Int) := by decide +kernel
theorem D_M_notsOpen_37 : decode prog_9_method_63_code 37 = .ok (.iload_n 1, 1) ∧ 37 + 1 = 38 := by decide +kernel
theorem D_M_notsOpen_38 : decode prog_9_method_63_code 38 = .ok (.ireturn, 1) := by decide +kernel
def f_M_notsOpen_L4  : Nat → Int32 → Int32 → Mm → Option (Int32 × Int32)
  | 0, _, _, _ => none
  | n + 1, b1, b2, mem => if mem 91 20 ≤ b2 then some (b1, b2) else if inb b2 96 = true then lt (b1 + (if mem 100 (ix b2) = (-10) then (1 : Int32) else 0)) fun x_30 => f_M_notsOpen_L4 n x_30 (b2 + 1) mem else none
def f_M_notsOpen (N : Nat)  (mem : Mm) : Option (Int32) := bp (f_M_notsOpen_L4 N 0 0 mem) fun y_4 => some y_4.1
theorem L_M_notsOpen_4 {X : Cx} {E : En} (S : Std X E prog_9_method_63_code R6 3 0)  {mem : Mm} : ∀ (n : Nat) (b1 : Int32) (b2 : Int32) (z : Int32 × Int32), f_M_notsOpen_L4 n b1 b2 mem = some z → J X E 3 37 [(0, .ref (eb E + 91)), (1, .int z.1), (2, .int z.2)] [] SH mem → J X E 3 4 [(0, .ref (eb E + 91)), (1, .int b1), (2, .int b2)] [] SH mem := by
  intro n
  induction n with
  | zero =>
    intro b1 b2 z h hk; cases h
  | succ n ih =>
    intro b1 b2 z h hk
    rw [f_M_notsOpen_L4] at h
    refine j_iload_n S D_M_notsOpen_4 2 rfl rfl ?_
    refine j_aload_n S D_M_notsOpen_5 0 rfl rfl ?_
    refine j_getI S D_M_notsOpen_6 fl_R6_207 sh_Mod rfl ?_
    refine j_icmp_ge S D_M_notsOpen_9 (fun c_9 => ?_) (fun c_9 => ?_)
    · have h := ifT c_9 h
      cases h
      exact j_locals [0, 1, 2] rfl hk
    · have h := ifF c_9 h
      refine j_iload_n S D_M_notsOpen_12 1 rfl rfl ?_
      refine j_aload_n S D_M_notsOpen_13 0 rfl rfl ?_
      refine j_getR S D_M_notsOpen_14 fl_R6_39 sh_Mod rfl ?_
      refine j_iload_n S D_M_notsOpen_17 2 rfl rfl ?_
      obtain ⟨g_18, h⟩ := gdE h
      refine j_iald S D_M_notsOpen_18 sh_100 g_18 ?_
      refine j_bipush S D_M_notsOpen_19 cb_m10 ?_
      refine j_dia (P := J X E 3 29 [(0, .ref (eb E + 91)), (1, .int b1), (2, .int b2)] [.int (if mem 100 (ix b2) = (-10) then (1 : Int32) else 0), .int b1] SH mem) (fun hj => ?_) ?_
      · refine j_icmp_ne S D_M_notsOpen_21 (fun c_21 => ?_) (fun c_21 => ?_)
        · refine j_iconst S D_M_notsOpen_28 ci_0 ?_
          exact j_jnF hj c_21
        · refine j_iconst S D_M_notsOpen_24 ci_1 ?_
          refine j_goto S D_M_notsOpen_25 ?_
          exact j_jnT hj c_21
      refine j_iadd S D_M_notsOpen_29 ?_
      obtain ⟨x_30, hx_30, h⟩ := ltE h
      refine j_nm hx_30 ?_
      refine j_istore_n S D_M_notsOpen_30 (lv := [(1, .int x_30), (0, .ref (eb E + 91)), (2, .int b2)]) rfl ⟨rfl, (Nat.le_of_ble_eq_true rfl)⟩ ?_
      refine j_iinc S D_M_notsOpen_31 2 rfl (congrArg (fun z => b2 + z) ci_1) (lv := [(2, .int (b2 + 1)), (1, .int x_30), (0, .ref (eb E + 91))]) rfl (Nat.le_of_ble_eq_true rfl) ?_
      refine j_goto S D_M_notsOpen_34 ?_
      refine j_locals [2, 1, 0] rfl (ih x_30 (b2 + 1) _ h hk)
theorem c_M_notsOpen (l : Launch) (E : En) (N : Nat)  {mem : Mm} {r : Int32} (h : f_M_notsOpen N mem = some r) : CtI l E 0 y_M_notsOpen prog_9_method_63_code 3 (some .int) [.ref (eb E + 91)] SH mem r mem := by
  refine mk_CtI ⟨by decide, (Nat.le_of_ble_eq_true rfl)⟩ (fun X S hl hR => ?_)
  have S : Std X E prog_9_method_63_code R6 3 0 := S
  show J X E 3 0 [(0, .ref (eb E + 91))] [] SH mem
  unfold f_M_notsOpen at h
  refine j_iconst S D_M_notsOpen_0 ci_0 ?_
  refine j_istore_n S D_M_notsOpen_1 (lv := [(1, .int 0), (0, .ref (eb E + 91))]) rfl ⟨rfl, (Nat.le_of_ble_eq_true rfl)⟩ ?_
  refine j_iconst S D_M_notsOpen_2 ci_0 ?_
  refine j_istore_n S D_M_notsOpen_3 (lv := [(2, .int 0), (1, .int 0), (0, .ref (eb E + 91))]) rfl ⟨rfl, (Nat.le_of_ble_eq_true rfl)⟩ ?_
  refine j_locals [2, 1, 0] rfl ?_
  obtain ⟨y_4, e_4, h⟩ := bpE h
  refine L_M_notsOpen_4 S  N 0 0 _ e_4 ?_
  refine j_iload_n S D_M_notsOpen_37 1 rfl rfl ?_
  exact rtI hR h _ _ D_M_notsOpen_38

def y_M_takesE : MethodName := ⟨"SandPictureModel", "takesE", "()Z"⟩
theorem D_M_takesE_0 : decode prog_9_method_62_code 0 = .ok (.iconst 0, 1) ∧ 0 + 1 = 1 := by decide +kernel
theorem D_M_takesE_1 : decode prog_9_method_62_code 1 = .ok (.istore_n 1, 1) ∧ 1 + 1 = 2 := by decide +kernel
theorem D_M_takesE_2 : decode prog_9_method_62_code 2 = .ok (.iconst 0, 1) ∧ 2 + 1 = 3 := by decide +kernel
theorem D_M_takesE_3 : decode prog_9_method_62_code 3 = .ok (.istore_n 2, 1) ∧ 3 + 1 = 4 := by decide +kernel
theorem D_M_takesE_4 : decode prog_9_method_62_code 4 = .ok (.iconst 1, 1) ∧ 4 + 1 = 5 := by decide +kernel
theorem D_M_takesE_5 : decode prog_9_method_62_code 5 = .ok (.istore_n 3, 1) ∧ 5 + 1 = 6 := by decide +kernel
theorem D_M_takesE_6 : decode prog_9_method_62_code 6 = .ok (.aload_n 0, 1) ∧ 6 + 1 = 7 := by decide +kernel
theorem D_M_takesE_7 : decode prog_9_method_62_code 7 = .ok (.iconst 0, 1) ∧ 7 + 1 = 8 := by decide +kernel
theorem D_M_takesE_8 : decode prog_9_method_62_code 8 = .ok (.putfield 213, 3) ∧ 8 + 3 = 11 := by decide +kernel
theorem D_M_takesE_11 : decode prog_9_method_62_code 11 = .ok (.aload_n 0, 1) ∧ 11 + 1 = 12 := by decide +kernel
theorem D_M_takesE_12 : decode prog_9_method_62_code 12 = .ok (.iconst 0, 1) ∧ 12 + 1 = 13 := by decide +kernel
theorem D_M_takesE_13 : decode prog_9_method_62_code 13 = .ok (.putfield 219, 3) ∧ 13 + 3 = 16 := by decide +kernel
theorem D_M_takesE_16 : decode prog_9_method_62_code 16 = .ok (.aload_n 0, 1) ∧ 16 + 1 = 17 := by decide +kernel
theorem D_M_takesE_17 : decode prog_9_method_62_code 17 = .ok (.iconst 0, 1) ∧ 17 + 1 = 18 := by decide +kernel
theorem D_M_takesE_18 : decode prog_9_method_62_code 18 = .ok (.putfield 207, 3) ∧ 18 + 3 = 21 := by decide +kernel
theorem D_M_takesE_21 : decode prog_9_method_62_code 21 = .ok (.aload_n 0, 1) ∧ 21 + 1 = 22 := by decide +kernel
theorem D_M_takesE_22 : decode prog_9_method_62_code 22 = .ok (.getfield 42, 3) ∧ 22 + 3 = 25 := by decide +kernel
theorem D_M_takesE_25 : decode prog_9_method_62_code 25 = .ok (.iconst 0, 1) ∧ 25 + 1 = 26 := by decide +kernel
theorem D_M_takesE_26 : decode prog_9_method_62_code 26 = .ok (.iconst 0, 1) ∧ 26 + 1 = 27 := by decide +kernel
theorem D_M_takesE_27 : decode prog_9_method_62_code 27 = .ok (.bastore, 1) ∧ 27 + 1 = 28 := by decide +kernel
theorem D_M_takesE_28 : decode prog_9_method_62_code 28 = .ok (.iload_n 3, 1) ∧ 28 + 1 = 29 := by decide +kernel
theorem D_M_takesE_29 : decode prog_9_method_62_code 29 = .ok (.ifCond .ne 10, 3) ∧ ((29 : Nat) : Int) + 10 = ((39 : Nat) : Int) ∧ 29 + 3 = 32 := by decide +kernel
theorem D_M_takesE_39 : decode prog_9_method_62_code 39 = .ok (.iload_n 3, 1) ∧ 39 + 1 = 40 := by decide +kernel
theorem D_M_takesE_40 : decode prog_9_method_62_code 40 = .ok (.ifCond .eq 140, 3) ∧ ((40 : Nat) : Int) + 140 = ((180 : Nat) : Int) ∧ 40 + 3 = 43 := by decide +kernel
theorem D_M_takesE_180 : decode prog_9_method_62_code 180 = .ok (.aload_n 0, 1) ∧ 180 + 1 = 181 := by decide +kernel
theorem D_M_takesE_181 : decode prog_9_method_62_code 181 = .ok (.getfield 189, 3) ∧ 181 + 3 = 184 := by decide +kernel
theorem D_M_takesE_184 : decode prog_9_method_62_code 184 = .ok (.iconst 3, 1) ∧ 184 + 1 = 185 := by decide +kernel
theorem D_M_takesE_185 : decode prog_9_method_62_code 185 = .ok (.if_icmp .ne 52, 3) ∧ ((185 : Nat) : Int) + 52 = ((237 : Nat) : Int) ∧ 185 + 3 = 188 := by decide +kernel
theorem D_M_takesE_237 : decode prog_9_method_62_code 237 = .ok (.aload_n 0, 1) ∧ 237 + 1 = 238 := by decide +kernel
theorem D_M_takesE_238 : decode prog_9_method_62_code 238 = .ok (.invokevirtual 232, 3) ∧ 238 + 3 = 241 := by decide +kernel
theorem D_M_takesE_241 : decode prog_9_method_62_code 241 = .ok (.istore 4, 2) ∧ 241 + 2 = 243 := by decide +kernel
theorem D_M_takesE_243 : decode prog_9_method_62_code 243 = .ok (.iload 4, 2) ∧ 243 + 2 = 245 := by decide +kernel
theorem D_M_takesE_245 : decode prog_9_method_62_code 245 = .ok (.ifCond .eq 21, 3) ∧ ((245 : Nat) : Int) + 21 = ((266 : Nat) : Int) ∧ 245 + 3 = 248 := by decide +kernel
theorem D_M_takesE_266 : decode prog_9_method_62_code 266 = .ok (.iconst 0, 1) ∧ 266 + 1 = 267 := by decide +kernel
theorem D_M_takesE_267 : decode prog_9_method_62_code 267 = .ok (.ireturn, 1) := by decide +kernel
theorem D_M_takesE_248 : decode prog_9_method_62_code 248 = .ok (.iload 4, 2) ∧ 248 + 2 = 250 := by decide +kernel
theorem D_M_takesE_250 : decode prog_9_method_62_code 250 = .ok (.invokestatic 210, 3) ∧ 250 + 3 = 253 := by decide +kernel
theorem D_M_takesE_253 : decode prog_9_method_62_code 253 = .ok (.iconst 3, 1) ∧ 253 + 1 = 254 := by decide +kernel
theorem D_M_takesE_254 : decode prog_9_method_62_code 254 = .ok (.if_icmp .ne 14, 3) ∧ ((254 : Nat) : Int) + 14 = ((268 : Nat) : Int) ∧ 254 + 3 = 257 := by decide +kernel
theorem D_M_takesE_268 : decode prog_9_method_62_code 268 = .ok (.aload_n 0, 1) ∧ 268 + 1 = 269 := by decide +kernel
theorem D_M_takesE_269 : decode prog_9_method_62_code 269 = .ok (.getfield 42, 3) ∧ 269 + 3 = 272 := by decide +kernel
theorem D_M_takesE_272 : decode prog_9_method_62_code 272 = .ok (.iload_n 1, 1) ∧ 272 + 1 = 273 := by decide +kernel
theorem D_M_takesE_273 : decode prog_9_method_62_code 273 = .ok (.iload 4, 2) ∧ 273 + 2 = 275 := by decide +kernel
theorem D_M_takesE_275 : decode prog_9_method_62_code 275 = .ok (.invokestatic 210, 3) ∧ 275 + 3 = 278 := by decide +kernel
theorem D_M_takesE_278 : decode prog_9_method_62_code 278 = .ok (.iconst 3, 1) ∧ 278 + 1 = 279 := by decide +kernel
theorem D_M_takesE_279 : decode prog_9_method_62_code 279 = .ok (.if_icmp .eq 21, 3) ∧ ((279 : Nat) : Int) + 21 = ((300 : Nat) : Int) ∧ 279 + 3 = 282 := by decide +kernel
theorem D_M_takesE_300 : decode prog_9_method_62_code 300 = .ok (.iconst 1, 1) ∧ 300 + 1 = 301 := by decide +kernel
theorem D_M_takesE_301 : decode prog_9_method_62_code 301 = .ok (.goto 4, 3) ∧ ((301 : Nat) : Int) + 4 = ((305 : Nat) : Int) := by decide +kernel
theorem D_M_takesE_305 : decode prog_9_method_62_code 305 = .ok (.bastore, 1) ∧ 305 + 1 = 306 := by decide +kernel
theorem D_M_takesE_306 : decode prog_9_method_62_code 306 = .ok (.aload_n 0, 1) ∧ 306 + 1 = 307 := by decide +kernel
theorem D_M_takesE_307 : decode prog_9_method_62_code 307 = .ok (.iload 4, 2) ∧ 307 + 2 = 309 := by decide +kernel
theorem D_M_takesE_309 : decode prog_9_method_62_code 309 = .ok (.invokestatic 210, 3) ∧ 309 + 3 = 312 := by decide +kernel
theorem D_M_takesE_312 : decode prog_9_method_62_code 312 = .ok (.invokevirtual 222, 3) ∧ 312 + 3 = 315 := by decide +kernel
theorem D_M_takesE_315 : decode prog_9_method_62_code 315 = .ok (.aload_n 0, 1) ∧ 315 + 1 = 316 := by decide +kernel
theorem D_M_takesE_316 : decode prog_9_method_62_code 316 = .ok (.getfield 39, 3) ∧ 316 + 3 = 319 := by decide +kernel
theorem D_M_takesE_319 : decode prog_9_method_62_code 319 = .ok (.aload_n 0, 1) ∧ 319 + 1 = 320 := by decide +kernel
theorem D_M_takesE_320 : decode prog_9_method_62_code 320 = .ok (.getfield 207, 3) ∧ 320 + 3 = 323 := by decide +kernel
theorem D_M_takesE_323 : decode prog_9_method_62_code 323 = .ok (.iload 4, 2) ∧ 323 + 2 = 325 := by decide +kernel
theorem D_M_takesE_325 : decode prog_9_method_62_code 325 = .ok (.iastore, 1) ∧ 325 + 1 = 326 := by decide +kernel
theorem D_M_takesE_326 : decode prog_9_method_62_code 326 = .ok (.aload_n 0, 1) ∧ 326 + 1 = 327 := by decide +kernel
theorem D_M_takesE_327 : decode prog_9_method_62_code 327 = .ok (.dup, 1) ∧ 327 + 1 = 328 := by decide +kernel
theorem D_M_takesE_328 : decode prog_9_method_62_code 328 = .ok (.getfield 207, 3) ∧ 328 + 3 = 331 := by decide +kernel
theorem D_M_takesE_331 : decode prog_9_method_62_code 331 = .ok (.iconst 1, 1) ∧ 331 + 1 = 332 := by decide +kernel
theorem D_M_takesE_332 : decode prog_9_method_62_code 332 = .ok (.iadd, 1) ∧ 332 + 1 = 333 := by decide +kernel
theorem D_M_takesE_333 : decode prog_9_method_62_code 333 = .ok (.putfield 207, 3) ∧ 333 + 3 = 336 := by decide +kernel
theorem D_M_takesE_336 : decode prog_9_method_62_code 336 = .ok (.iconst 1, 1) ∧ 336 + 1 = 337 := by decide +kernel
theorem D_M_takesE_337 : decode prog_9_method_62_code 337 = .ok (.istore_n 3, 1) ∧ 337 + 1 = 338 := by decide +kernel
theorem D_M_takesE_338 : decode prog_9_method_62_code 338 = .ok (.aload_n 0, 1) ∧ 338 + 1 = 339 := by decide +kernel
theorem D_M_takesE_339 : decode prog_9_method_62_code 339 = .ok (.invokevirtual 204, 3) ∧ 339 + 3 = 342 := by decide +kernel
theorem D_M_takesE_342 : decode prog_9_method_62_code 342 = .ok (.goto (-314), 3) ∧ ((342 : Nat) : Int) + (-314) = ((28 : Nat) : Int) := by decide +kernel
theorem D_M_takesE_282 : decode prog_9_method_62_code 282 = .ok (.iload 4, 2) ∧ 282 + 2 = 284 := by decide +kernel
theorem D_M_takesE_284 : decode prog_9_method_62_code 284 = .ok (.invokestatic 210, 3) ∧ 284 + 3 = 287 := by decide +kernel
theorem D_M_takesE_287 : decode prog_9_method_62_code 287 = .ok (.iconst 3, 1) ∧ 287 + 1 = 288 := by decide +kernel
theorem D_M_takesE_288 : decode prog_9_method_62_code 288 = .ok (.if_icmp .le 16, 3) ∧ ((288 : Nat) : Int) + 16 = ((304 : Nat) : Int) ∧ 288 + 3 = 291 := by decide +kernel
theorem D_M_takesE_304 : decode prog_9_method_62_code 304 = .ok (.iconst 0, 1) ∧ 304 + 1 = 305 := by decide +kernel
theorem D_M_takesE_291 : decode prog_9_method_62_code 291 = .ok (.aload_n 0, 1) ∧ 291 + 1 = 292 := by decide +kernel
theorem D_M_takesE_292 : decode prog_9_method_62_code 292 = .ok (.getfield 42, 3) ∧ 292 + 3 = 295 := by decide +kernel
theorem D_M_takesE_295 : decode prog_9_method_62_code 295 = .ok (.iload_n 1, 1) ∧ 295 + 1 = 296 := by decide +kernel
theorem D_M_takesE_296 : decode prog_9_method_62_code 296 = .ok (.baload, 1) ∧ 296 + 1 = 297 := by decide +kernel
theorem D_M_takesE_297 : decode prog_9_method_62_code 297 = .ok (.ifCond .eq 7, 3) ∧ ((297 : Nat) : Int) + 7 = ((304 : Nat) : Int) ∧ 297 + 3 = 300 := by decide +kernel
theorem D_M_takesE_257 : decode prog_9_method_62_code 257 = .ok (.aload_n 0, 1) ∧ 257 + 1 = 258 := by decide +kernel
theorem D_M_takesE_258 : decode prog_9_method_62_code 258 = .ok (.getfield 42, 3) ∧ 258 + 3 = 261 := by decide +kernel
theorem D_M_takesE_261 : decode prog_9_method_62_code 261 = .ok (.iload_n 1, 1) ∧ 261 + 1 = 262 := by decide +kernel
theorem D_M_takesE_262 : decode prog_9_method_62_code 262 = .ok (.baload, 1) ∧ 262 + 1 = 263 := by decide +kernel
theorem D_M_takesE_263 : decode prog_9_method_62_code 263 = .ok (.ifCond .eq 5, 3) ∧ ((263 : Nat) : Int) + 5 = ((268 : Nat) : Int) ∧ 263 + 3 = 266 := by decide +kernel
theorem D_M_takesE_188 : decode prog_9_method_62_code 188 = .ok (.aload_n 0, 1) ∧ 188 + 1 = 189 := by decide +kernel
theorem D_M_takesE_189 : decode prog_9_method_62_code 189 = .ok (.getfield 195, 3) ∧ 189 + 3 = 192 := by decide +kernel
theorem D_M_takesE_192 : decode prog_9_method_62_code 192 = .ok (.bipush 41, 2) ∧ 192 + 2 = 194 := by decide +kernel
theorem D_M_takesE_194 : decode prog_9_method_62_code 194 = .ok (.if_icmp .ne 43, 3) ∧ ((194 : Nat) : Int) + 43 = ((237 : Nat) : Int) ∧ 194 + 3 = 197 := by decide +kernel
theorem D_M_takesE_197 : decode prog_9_method_62_code 197 = .ok (.iload_n 1, 1) ∧ 197 + 1 = 198 := by decide +kernel
theorem D_M_takesE_198 : decode prog_9_method_62_code 198 = .ok (.ifCond .le 39, 3) ∧ ((198 : Nat) : Int) + 39 = ((237 : Nat) : Int) ∧ 198 + 3 = 201 := by decide +kernel
theorem D_M_takesE_201 : decode prog_9_method_62_code 201 = .ok (.aload_n 0, 1) ∧ 201 + 1 = 202 := by decide +kernel
theorem D_M_takesE_202 : decode prog_9_method_62_code 202 = .ok (.iconst 0, 1) ∧ 202 + 1 = 203 := by decide +kernel
theorem D_M_takesE_203 : decode prog_9_method_62_code 203 = .ok (.invokevirtual 222, 3) ∧ 203 + 3 = 206 := by decide +kernel
theorem D_M_takesE_206 : decode prog_9_method_62_code 206 = .ok (.aload_n 0, 1) ∧ 206 + 1 = 207 := by decide +kernel
theorem D_M_takesE_207 : decode prog_9_method_62_code 207 = .ok (.dup, 1) ∧ 207 + 1 = 208 := by decide +kernel
theorem D_M_takesE_208 : decode prog_9_method_62_code 208 = .ok (.getfield 207, 3) ∧ 208 + 3 = 211 := by decide +kernel
theorem D_M_takesE_211 : decode prog_9_method_62_code 211 = .ok (.iconst 1, 1) ∧ 211 + 1 = 212 := by decide +kernel
theorem D_M_takesE_212 : decode prog_9_method_62_code 212 = .ok (.isub, 1) ∧ 212 + 1 = 213 := by decide +kernel
theorem D_M_takesE_213 : decode prog_9_method_62_code 213 = .ok (.putfield 207, 3) ∧ 213 + 3 = 216 := by decide +kernel
theorem D_M_takesE_216 : decode prog_9_method_62_code 216 = .ok (.iinc 1 (-1), 3) ∧ 216 + 3 = 219 := by decide +kernel
theorem D_M_takesE_219 : decode prog_9_method_62_code 219 = .ok (.aload_n 0, 1) ∧ 219 + 1 = 220 := by decide +kernel
theorem D_M_takesE_220 : decode prog_9_method_62_code 220 = .ok (.bipush 6, 2) ∧ 220 + 2 = 222 := by decide +kernel
theorem D_M_takesE_222 : decode prog_9_method_62_code 222 = .ok (.invokevirtual 222, 3) ∧ 222 + 3 = 225 := by decide +kernel
theorem D_M_takesE_225 : decode prog_9_method_62_code 225 = .ok (.aload_n 0, 1) ∧ 225 + 1 = 226 := by decide +kernel
theorem D_M_takesE_226 : decode prog_9_method_62_code 226 = .ok (.invokevirtual 229, 3) ∧ 226 + 3 = 229 := by decide +kernel
theorem D_M_takesE_229 : decode prog_9_method_62_code 229 = .ok (.istore_n 2, 1) ∧ 229 + 1 = 230 := by decide +kernel
theorem D_M_takesE_230 : decode prog_9_method_62_code 230 = .ok (.aload_n 0, 1) ∧ 230 + 1 = 231 := by decide +kernel
theorem D_M_takesE_231 : decode prog_9_method_62_code 231 = .ok (.invokevirtual 204, 3) ∧ 231 + 3 = 234 := by decide +kernel
theorem D_M_takesE_234 : decode prog_9_method_62_code 234 = .ok (.goto (-206), 3) ∧ ((234 : Nat) : Int) + (-206) = ((28 : Nat) : Int) := by decide +kernel
theorem D_M_takesE_43 : decode prog_9_method_62_code 43 = .ok (.aload_n 0, 1) ∧ 43 + 1 = 44 := by decide +kernel
theorem D_M_takesE_44 : decode prog_9_method_62_code 44 = .ok (.getfield 189, 3) ∧ 44 + 3 = 47 := by decide +kernel
theorem D_M_takesE_47 : decode prog_9_method_62_code 47 = .ok (.iconst 3, 1) ∧ 47 + 1 = 48 := by decide +kernel
theorem D_M_takesE_48 : decode prog_9_method_62_code 48 = .ok (.if_icmp .ne 49, 3) ∧ ((48 : Nat) : Int) + 49 = ((97 : Nat) : Int) ∧ 48 + 3 = 51 := by decide +kernel
theorem D_M_takesE_97 : decode prog_9_method_62_code 97 = .ok (.aload_n 0, 1) ∧ 97 + 1 = 98 := by decide +kernel
theorem D_M_takesE_98 : decode prog_9_method_62_code 98 = .ok (.getfield 189, 3) ∧ 98 + 3 = 101 := by decide +kernel
theorem D_M_takesE_101 : decode prog_9_method_62_code 101 = .ok (.iconst 3, 1) ∧ 101 + 1 = 102 := by decide +kernel
theorem D_M_takesE_102 : decode prog_9_method_62_code 102 = .ok (.if_icmp .ne 56, 3) ∧ ((102 : Nat) : Int) + 56 = ((158 : Nat) : Int) ∧ 102 + 3 = 105 := by decide +kernel
theorem D_M_takesE_158 : decode prog_9_method_62_code 158 = .ok (.aload_n 0, 1) ∧ 158 + 1 = 159 := by decide +kernel
theorem D_M_takesE_159 : decode prog_9_method_62_code 159 = .ok (.invokevirtual 225, 3) ∧ 159 + 3 = 162 := by decide +kernel
theorem D_M_takesE_162 : decode prog_9_method_62_code 162 = .ok (.ifCond .eq 8, 3) ∧ ((162 : Nat) : Int) + 8 = ((170 : Nat) : Int) ∧ 162 + 3 = 165 := by decide +kernel
theorem D_M_takesE_170 : decode prog_9_method_62_code 170 = .ok (.iconst 0, 1) ∧ 170 + 1 = 171 := by decide +kernel
theorem D_M_takesE_171 : decode prog_9_method_62_code 171 = .ok (.ireturn, 1) := by decide +kernel
theorem D_M_takesE_165 : decode prog_9_method_62_code 165 = .ok (.iconst 0, 1) ∧ 165 + 1 = 166 := by decide +kernel
theorem D_M_takesE_166 : decode prog_9_method_62_code 166 = .ok (.istore_n 3, 1) ∧ 166 + 1 = 167 := by decide +kernel
theorem D_M_takesE_167 : decode prog_9_method_62_code 167 = .ok (.goto 5, 3) ∧ ((167 : Nat) : Int) + 5 = ((172 : Nat) : Int) := by decide +kernel
theorem D_M_takesE_172 : decode prog_9_method_62_code 172 = .ok (.aload_n 0, 1) ∧ 172 + 1 = 173 := by decide +kernel
theorem D_M_takesE_173 : decode prog_9_method_62_code 173 = .ok (.invokevirtual 229, 3) ∧ 173 + 3 = 176 := by decide +kernel
theorem D_M_takesE_176 : decode prog_9_method_62_code 176 = .ok (.istore_n 2, 1) ∧ 176 + 1 = 177 := by decide +kernel
theorem D_M_takesE_177 : decode prog_9_method_62_code 177 = .ok (.goto (-149), 3) ∧ ((177 : Nat) : Int) + (-149) = ((28 : Nat) : Int) := by decide +kernel
theorem D_M_takesE_105 : decode prog_9_method_62_code 105 = .ok (.aload_n 0, 1) ∧ 105 + 1 = 106 := by decide +kernel
theorem D_M_takesE_106 : decode prog_9_method_62_code 106 = .ok (.getfield 195, 3) ∧ 106 + 3 = 109 := by decide +kernel
theorem D_M_takesE_109 : decode prog_9_method_62_code 109 = .ok (.bipush 40, 2) ∧ 109 + 2 = 111 := by decide +kernel
theorem D_M_takesE_111 : decode prog_9_method_62_code 111 = .ok (.if_icmp .ne 47, 3) ∧ ((111 : Nat) : Int) + 47 = ((158 : Nat) : Int) ∧ 111 + 3 = 114 := by decide +kernel
theorem D_M_takesE_114 : decode prog_9_method_62_code 114 = .ok (.iload_n 1, 1) ∧ 114 + 1 = 115 := by decide +kernel
theorem D_M_takesE_115 : decode prog_9_method_62_code 115 = .ok (.bipush 8, 2) ∧ 115 + 2 = 117 := by decide +kernel
theorem D_M_takesE_117 : decode prog_9_method_62_code 117 = .ok (.if_icmp .ge 41, 3) ∧ ((117 : Nat) : Int) + 41 = ((158 : Nat) : Int) ∧ 117 + 3 = 120 := by decide +kernel
theorem D_M_takesE_120 : decode prog_9_method_62_code 120 = .ok (.aload_n 0, 1) ∧ 120 + 1 = 121 := by decide +kernel
theorem D_M_takesE_121 : decode prog_9_method_62_code 121 = .ok (.getfield 39, 3) ∧ 121 + 3 = 124 := by decide +kernel
theorem D_M_takesE_124 : decode prog_9_method_62_code 124 = .ok (.aload_n 0, 1) ∧ 124 + 1 = 125 := by decide +kernel
theorem D_M_takesE_125 : decode prog_9_method_62_code 125 = .ok (.getfield 207, 3) ∧ 125 + 3 = 128 := by decide +kernel
theorem D_M_takesE_128 : decode prog_9_method_62_code 128 = .ok (.bipush (-11), 2) ∧ 128 + 2 = 130 := by decide +kernel
theorem D_M_takesE_130 : decode prog_9_method_62_code 130 = .ok (.iastore, 1) ∧ 130 + 1 = 131 := by decide +kernel
theorem D_M_takesE_131 : decode prog_9_method_62_code 131 = .ok (.aload_n 0, 1) ∧ 131 + 1 = 132 := by decide +kernel
theorem D_M_takesE_132 : decode prog_9_method_62_code 132 = .ok (.dup, 1) ∧ 132 + 1 = 133 := by decide +kernel
theorem D_M_takesE_133 : decode prog_9_method_62_code 133 = .ok (.getfield 207, 3) ∧ 133 + 3 = 136 := by decide +kernel
theorem D_M_takesE_136 : decode prog_9_method_62_code 136 = .ok (.iconst 1, 1) ∧ 136 + 1 = 137 := by decide +kernel
theorem D_M_takesE_137 : decode prog_9_method_62_code 137 = .ok (.iadd, 1) ∧ 137 + 1 = 138 := by decide +kernel
theorem D_M_takesE_138 : decode prog_9_method_62_code 138 = .ok (.putfield 207, 3) ∧ 138 + 3 = 141 := by decide +kernel
theorem D_M_takesE_141 : decode prog_9_method_62_code 141 = .ok (.iinc 1 1, 3) ∧ 141 + 3 = 144 := by decide +kernel
theorem D_M_takesE_144 : decode prog_9_method_62_code 144 = .ok (.aload_n 0, 1) ∧ 144 + 1 = 145 := by decide +kernel
theorem D_M_takesE_145 : decode prog_9_method_62_code 145 = .ok (.getfield 42, 3) ∧ 145 + 3 = 148 := by decide +kernel
theorem D_M_takesE_148 : decode prog_9_method_62_code 148 = .ok (.iload_n 1, 1) ∧ 148 + 1 = 149 := by decide +kernel
theorem D_M_takesE_149 : decode prog_9_method_62_code 149 = .ok (.iconst 0, 1) ∧ 149 + 1 = 150 := by decide +kernel
theorem D_M_takesE_150 : decode prog_9_method_62_code 150 = .ok (.bastore, 1) ∧ 150 + 1 = 151 := by decide +kernel
theorem D_M_takesE_151 : decode prog_9_method_62_code 151 = .ok (.aload_n 0, 1) ∧ 151 + 1 = 152 := by decide +kernel
theorem D_M_takesE_152 : decode prog_9_method_62_code 152 = .ok (.invokevirtual 204, 3) ∧ 152 + 3 = 155 := by decide +kernel
theorem D_M_takesE_155 : decode prog_9_method_62_code 155 = .ok (.goto 17, 3) ∧ ((155 : Nat) : Int) + 17 = ((172 : Nat) : Int) := by decide +kernel
theorem D_M_takesE_51 : decode prog_9_method_62_code 51 = .ok (.aload_n 0, 1) ∧ 51 + 1 = 52 := by decide +kernel
theorem D_M_takesE_52 : decode prog_9_method_62_code 52 = .ok (.getfield 195, 3) ∧ 52 + 3 = 55 := by decide +kernel
theorem D_M_takesE_55 : decode prog_9_method_62_code 55 = .ok (.bipush 33, 2) ∧ 55 + 2 = 57 := by decide +kernel
theorem D_M_takesE_57 : decode prog_9_method_62_code 57 = .ok (.if_icmp .ne 40, 3) ∧ ((57 : Nat) : Int) + 40 = ((97 : Nat) : Int) ∧ 57 + 3 = 60 := by decide +kernel
theorem D_M_takesE_60 : decode prog_9_method_62_code 60 = .ok (.iload_n 2, 1) ∧ 60 + 1 = 61 := by decide +kernel
theorem D_M_takesE_61 : decode prog_9_method_62_code 61 = .ok (.bipush 8, 2) ∧ 61 + 2 = 63 := by decide +kernel
theorem D_M_takesE_63 : decode prog_9_method_62_code 63 = .ok (.if_icmp .ge 34, 3) ∧ ((63 : Nat) : Int) + 34 = ((97 : Nat) : Int) ∧ 63 + 3 = 66 := by decide +kernel
theorem D_M_takesE_66 : decode prog_9_method_62_code 66 = .ok (.aload_n 0, 1) ∧ 66 + 1 = 67 := by decide +kernel
theorem D_M_takesE_67 : decode prog_9_method_62_code 67 = .ok (.getfield 39, 3) ∧ 67 + 3 = 70 := by decide +kernel
theorem D_M_takesE_70 : decode prog_9_method_62_code 70 = .ok (.aload_n 0, 1) ∧ 70 + 1 = 71 := by decide +kernel
theorem D_M_takesE_71 : decode prog_9_method_62_code 71 = .ok (.getfield 207, 3) ∧ 71 + 3 = 74 := by decide +kernel
theorem D_M_takesE_74 : decode prog_9_method_62_code 74 = .ok (.bipush (-10), 2) ∧ 74 + 2 = 76 := by decide +kernel
theorem D_M_takesE_76 : decode prog_9_method_62_code 76 = .ok (.iastore, 1) ∧ 76 + 1 = 77 := by decide +kernel
theorem D_M_takesE_77 : decode prog_9_method_62_code 77 = .ok (.aload_n 0, 1) ∧ 77 + 1 = 78 := by decide +kernel
theorem D_M_takesE_78 : decode prog_9_method_62_code 78 = .ok (.dup, 1) ∧ 78 + 1 = 79 := by decide +kernel
theorem D_M_takesE_79 : decode prog_9_method_62_code 79 = .ok (.getfield 207, 3) ∧ 79 + 3 = 82 := by decide +kernel
theorem D_M_takesE_82 : decode prog_9_method_62_code 82 = .ok (.iconst 1, 1) ∧ 82 + 1 = 83 := by decide +kernel
theorem D_M_takesE_83 : decode prog_9_method_62_code 83 = .ok (.iadd, 1) ∧ 83 + 1 = 84 := by decide +kernel
theorem D_M_takesE_84 : decode prog_9_method_62_code 84 = .ok (.putfield 207, 3) ∧ 84 + 3 = 87 := by decide +kernel
theorem D_M_takesE_87 : decode prog_9_method_62_code 87 = .ok (.iinc 2 1, 3) ∧ 87 + 3 = 90 := by decide +kernel
theorem D_M_takesE_90 : decode prog_9_method_62_code 90 = .ok (.aload_n 0, 1) ∧ 90 + 1 = 91 := by decide +kernel
theorem D_M_takesE_91 : decode prog_9_method_62_code 91 = .ok (.invokevirtual 204, 3) ∧ 91 + 3 = 94 := by decide +kernel
theorem D_M_takesE_94 : decode prog_9_method_62_code 94 = .ok (.goto 78, 3) ∧ ((94 : Nat) : Int) + 78 = ((172 : Nat) : Int) := by decide +kernel
theorem D_M_takesE_32 : decode prog_9_method_62_code 32 = .ok (.aload_n 0, 1) ∧ 32 + 1 = 33 := by decide +kernel
theorem D_M_takesE_33 : decode prog_9_method_62_code 33 = .ok (.getfield 189, 3) ∧ 33 + 3 = 36 := by decide +kernel
theorem D_M_takesE_36 : decode prog_9_method_62_code 36 = .ok (.ifCond .eq 309, 3) ∧ ((36 : Nat) : Int) + 309 = ((345 : Nat) : Int) ∧ 36 + 3 = 39 := by decide +kernel
theorem D_M_takesE_345 : decode prog_9_method_62_code 345 = .ok (.aload_n 0, 1) ∧ 345 + 1 = 346 := by decide +kernel
theorem D_M_takesE_346 : decode prog_9_method_62_code 346 = .ok (.iconst 0, 1) ∧ 346 + 1 = 347 := by decide +kernel
theorem D_M_takesE_347 : decode prog_9_method_62_code 347 = .ok (.invokevirtual 222, 3) ∧ 347 + 3 = 350 := by decide +kernel
theorem D_M_takesE_350 : decode prog_9_method_62_code 350 = .ok (.iload_n 1, 1) ∧ 350 + 1 = 351 := by decide +kernel
theorem D_M_takesE_358 : decode prog_9_method_62_code 358 = .ok (.iconst 0, 1) ∧ 358 + 1 = 359 := by decide +kernel
theorem D_M_takesE_354 : decode prog_9_method_62_code 354 = .ok (.iconst 1, 1) ∧ 354 + 1 = 355 := by decide +kernel
theorem D_M_takesE_355 : decode prog_9_method_62_code 355 = .ok (.goto 4, 3) ∧ ((355 : Nat) : Int) + 4 = ((359 : Nat) : Int) := by decide +kernel
theorem D_M_takesE_351 : decode prog_9_method_62_code 351 = .ok (.ifCond .ne 7, 3) ∧ ((351 : Nat) : Int) + 7 = ((358 : Nat) : Int) ∧ 351 + 3 = 354 := by decide +kernel
theorem D_M_takesE_359 : decode prog_9_method_62_code 359 = .ok (.ireturn, 1) := by decide +kernel
def f_M_takesE_L28 (N : Nat)  : Nat → Int32 → Int32 → Int32 → Mm → Option (Int32 × Mm)
  | 0, _, _, _, _ => none
  | n + 1, b1, b2, b3, mem => if b3 = 0 then if mem 91 10 = 0 then bp (f_M_settle N 0 mem) fun m_347 => some (if b1 = 0 then (1 : Int32) else 0, m_347) else if b3 = 0 then if mem 91 10 = 3 then if mem 91 11 = 41 then if b1 ≤ 0 then bp (f_M_signHere mem) fun r_238 => if r_238 = 0 then some (0, mem) else bp (f_M_rank r_238) fun r_250 => if r_250 = 3 then if inb b1 10 = true then if mem 101 (ix b1) = 0 then bp (f_M_rank r_238) fun r_275 => if r_275 = 3 then lt (mst mem 101 (ix b1) 1) fun m_305 => bp (f_M_rank r_238) fun r_309 => bp (f_M_settle N r_309 m_305) fun m_312 => if inb (m_312 91 20) 96 = true then lt (mst m_312 100 (ix (m_312 91 20)) r_238) fun m_325 => lt (mst m_325 91 20 ((m_325 91 20) + 1)) fun m_333 => bp (f_M_go N m_333) fun m_339 => f_M_takesE_L28 N n b1 b2 1 m_339 else none else bp (f_M_rank r_238) fun r_284 => lt (mst mem 101 (ix b1) (if r_284 ≤ 3 then (0 : Int32) else if mem 101 (ix b1) = 0 then (0 : Int32) else 1)) fun m_305 => bp (f_M_rank r_238) fun r_309 => bp (f_M_settle N r_309 m_305) fun m_312 => if inb (m_312 91 20) 96 = true then lt (mst m_312 100 (ix (m_312 91 20)) r_238) fun m_325 => lt (mst m_325 91 20 ((m_325 91 20) + 1)) fun m_333 => bp (f_M_go N m_333) fun m_339 => f_M_takesE_L28 N n b1 b2 1 m_339 else none else some (0, mem) else none else bp (f_M_rank r_238) fun r_275 => if r_275 = 3 then if inb b1 10 = true then lt (mst mem 101 (ix b1) 1) fun m_305 => bp (f_M_rank r_238) fun r_309 => bp (f_M_settle N r_309 m_305) fun m_312 => if inb (m_312 91 20) 96 = true then lt (mst m_312 100 (ix (m_312 91 20)) r_238) fun m_325 => lt (mst m_325 91 20 ((m_325 91 20) + 1)) fun m_333 => bp (f_M_go N m_333) fun m_339 => f_M_takesE_L28 N n b1 b2 1 m_339 else none else none else bp (f_M_rank r_238) fun r_284 => if r_284 ≤ 3 then if inb b1 10 = true then lt (mst mem 101 (ix b1) 0) fun m_305 => bp (f_M_rank r_238) fun r_309 => bp (f_M_settle N r_309 m_305) fun m_312 => if inb (m_312 91 20) 96 = true then lt (mst m_312 100 (ix (m_312 91 20)) r_238) fun m_325 => lt (mst m_325 91 20 ((m_325 91 20) + 1)) fun m_333 => bp (f_M_go N m_333) fun m_339 => f_M_takesE_L28 N n b1 b2 1 m_339 else none else none else if inb b1 10 = true then lt (mst mem 101 (ix b1) (if mem 101 (ix b1) = 0 then (0 : Int32) else 1)) fun m_305 => bp (f_M_rank r_238) fun r_309 => bp (f_M_settle N r_309 m_305) fun m_312 => if inb (m_312 91 20) 96 = true then lt (mst m_312 100 (ix (m_312 91 20)) r_238) fun m_325 => lt (mst m_325 91 20 ((m_325 91 20) + 1)) fun m_333 => bp (f_M_go N m_333) fun m_339 => f_M_takesE_L28 N n b1 b2 1 m_339 else none else none else bp (f_M_settle N 0 mem) fun m_203 => lt (mst m_203 91 20 ((m_203 91 20) - 1)) fun m_213 => bp (f_M_settle N 6 m_213) fun m_222 => bp (f_M_notsOpen N m_222) fun r_226 => bp (f_M_go N m_222) fun m_231 => f_M_takesE_L28 N n (b1 + (-1)) r_226 b3 m_231 else bp (f_M_signHere mem) fun r_238 => if r_238 = 0 then some (0, mem) else bp (f_M_rank r_238) fun r_250 => if r_250 = 3 then if inb b1 10 = true then if mem 101 (ix b1) = 0 then bp (f_M_rank r_238) fun r_275 => if r_275 = 3 then lt (mst mem 101 (ix b1) 1) fun m_305 => bp (f_M_rank r_238) fun r_309 => bp (f_M_settle N r_309 m_305) fun m_312 => if inb (m_312 91 20) 96 = true then lt (mst m_312 100 (ix (m_312 91 20)) r_238) fun m_325 => lt (mst m_325 91 20 ((m_325 91 20) + 1)) fun m_333 => bp (f_M_go N m_333) fun m_339 => f_M_takesE_L28 N n b1 b2 1 m_339 else none else bp (f_M_rank r_238) fun r_284 => lt (mst mem 101 (ix b1) (if r_284 ≤ 3 then (0 : Int32) else if mem 101 (ix b1) = 0 then (0 : Int32) else 1)) fun m_305 => bp (f_M_rank r_238) fun r_309 => bp (f_M_settle N r_309 m_305) fun m_312 => if inb (m_312 91 20) 96 = true then lt (mst m_312 100 (ix (m_312 91 20)) r_238) fun m_325 => lt (mst m_325 91 20 ((m_325 91 20) + 1)) fun m_333 => bp (f_M_go N m_333) fun m_339 => f_M_takesE_L28 N n b1 b2 1 m_339 else none else some (0, mem) else none else bp (f_M_rank r_238) fun r_275 => if r_275 = 3 then if inb b1 10 = true then lt (mst mem 101 (ix b1) 1) fun m_305 => bp (f_M_rank r_238) fun r_309 => bp (f_M_settle N r_309 m_305) fun m_312 => if inb (m_312 91 20) 96 = true then lt (mst m_312 100 (ix (m_312 91 20)) r_238) fun m_325 => lt (mst m_325 91 20 ((m_325 91 20) + 1)) fun m_333 => bp (f_M_go N m_333) fun m_339 => f_M_takesE_L28 N n b1 b2 1 m_339 else none else none else bp (f_M_rank r_238) fun r_284 => if r_284 ≤ 3 then if inb b1 10 = true then lt (mst mem 101 (ix b1) 0) fun m_305 => bp (f_M_rank r_238) fun r_309 => bp (f_M_settle N r_309 m_305) fun m_312 => if inb (m_312 91 20) 96 = true then lt (mst m_312 100 (ix (m_312 91 20)) r_238) fun m_325 => lt (mst m_325 91 20 ((m_325 91 20) + 1)) fun m_333 => bp (f_M_go N m_333) fun m_339 => f_M_takesE_L28 N n b1 b2 1 m_339 else none else none else if inb b1 10 = true then lt (mst mem 101 (ix b1) (if mem 101 (ix b1) = 0 then (0 : Int32) else 1)) fun m_305 => bp (f_M_rank r_238) fun r_309 => bp (f_M_settle N r_309 m_305) fun m_312 => if inb (m_312 91 20) 96 = true then lt (mst m_312 100 (ix (m_312 91 20)) r_238) fun m_325 => lt (mst m_325 91 20 ((m_325 91 20) + 1)) fun m_333 => bp (f_M_go N m_333) fun m_339 => f_M_takesE_L28 N n b1 b2 1 m_339 else none else none else bp (f_M_signHere mem) fun r_238 => if r_238 = 0 then some (0, mem) else bp (f_M_rank r_238) fun r_250 => if r_250 = 3 then if inb b1 10 = true then if mem 101 (ix b1) = 0 then bp (f_M_rank r_238) fun r_275 => if r_275 = 3 then lt (mst mem 101 (ix b1) 1) fun m_305 => bp (f_M_rank r_238) fun r_309 => bp (f_M_settle N r_309 m_305) fun m_312 => if inb (m_312 91 20) 96 = true then lt (mst m_312 100 (ix (m_312 91 20)) r_238) fun m_325 => lt (mst m_325 91 20 ((m_325 91 20) + 1)) fun m_333 => bp (f_M_go N m_333) fun m_339 => f_M_takesE_L28 N n b1 b2 1 m_339 else none else bp (f_M_rank r_238) fun r_284 => lt (mst mem 101 (ix b1) (if r_284 ≤ 3 then (0 : Int32) else if mem 101 (ix b1) = 0 then (0 : Int32) else 1)) fun m_305 => bp (f_M_rank r_238) fun r_309 => bp (f_M_settle N r_309 m_305) fun m_312 => if inb (m_312 91 20) 96 = true then lt (mst m_312 100 (ix (m_312 91 20)) r_238) fun m_325 => lt (mst m_325 91 20 ((m_325 91 20) + 1)) fun m_333 => bp (f_M_go N m_333) fun m_339 => f_M_takesE_L28 N n b1 b2 1 m_339 else none else some (0, mem) else none else bp (f_M_rank r_238) fun r_275 => if r_275 = 3 then if inb b1 10 = true then lt (mst mem 101 (ix b1) 1) fun m_305 => bp (f_M_rank r_238) fun r_309 => bp (f_M_settle N r_309 m_305) fun m_312 => if inb (m_312 91 20) 96 = true then lt (mst m_312 100 (ix (m_312 91 20)) r_238) fun m_325 => lt (mst m_325 91 20 ((m_325 91 20) + 1)) fun m_333 => bp (f_M_go N m_333) fun m_339 => f_M_takesE_L28 N n b1 b2 1 m_339 else none else none else bp (f_M_rank r_238) fun r_284 => if r_284 ≤ 3 then if inb b1 10 = true then lt (mst mem 101 (ix b1) 0) fun m_305 => bp (f_M_rank r_238) fun r_309 => bp (f_M_settle N r_309 m_305) fun m_312 => if inb (m_312 91 20) 96 = true then lt (mst m_312 100 (ix (m_312 91 20)) r_238) fun m_325 => lt (mst m_325 91 20 ((m_325 91 20) + 1)) fun m_333 => bp (f_M_go N m_333) fun m_339 => f_M_takesE_L28 N n b1 b2 1 m_339 else none else none else if inb b1 10 = true then lt (mst mem 101 (ix b1) (if mem 101 (ix b1) = 0 then (0 : Int32) else 1)) fun m_305 => bp (f_M_rank r_238) fun r_309 => bp (f_M_settle N r_309 m_305) fun m_312 => if inb (m_312 91 20) 96 = true then lt (mst m_312 100 (ix (m_312 91 20)) r_238) fun m_325 => lt (mst m_325 91 20 ((m_325 91 20) + 1)) fun m_333 => bp (f_M_go N m_333) fun m_339 => f_M_takesE_L28 N n b1 b2 1 m_339 else none else none else if mem 91 10 = 3 then if mem 91 11 = 33 then if 8 ≤ b2 then if mem 91 10 = 3 then if mem 91 11 = 40 then if 8 ≤ b1 then bd (f_M_takesPart N mem) fun r_159 m_159 => if r_159 = 0 then some (0, m_159) else bp (f_M_notsOpen N m_159) fun r_173 => f_M_takesE_L28 N n b1 r_173 0 m_159 else if inb (mem 91 20) 96 = true then lt (mst mem 100 (ix (mem 91 20)) (-11)) fun m_130 => lt (mst m_130 91 20 ((m_130 91 20) + 1)) fun m_138 => if inb (b1 + 1) 10 = true then lt (mst m_138 101 (ix (b1 + 1)) 0) fun m_150 => bp (f_M_go N m_150) fun m_152 => bp (f_M_notsOpen N m_152) fun r_173 => f_M_takesE_L28 N n (b1 + 1) r_173 b3 m_152 else none else none else bd (f_M_takesPart N mem) fun r_159 m_159 => if r_159 = 0 then some (0, m_159) else bp (f_M_notsOpen N m_159) fun r_173 => f_M_takesE_L28 N n b1 r_173 0 m_159 else bd (f_M_takesPart N mem) fun r_159 m_159 => if r_159 = 0 then some (0, m_159) else bp (f_M_notsOpen N m_159) fun r_173 => f_M_takesE_L28 N n b1 r_173 0 m_159 else if inb (mem 91 20) 96 = true then lt (mst mem 100 (ix (mem 91 20)) (-10)) fun m_76 => lt (mst m_76 91 20 ((m_76 91 20) + 1)) fun m_84 => bp (f_M_go N m_84) fun m_91 => bp (f_M_notsOpen N m_91) fun r_173 => f_M_takesE_L28 N n b1 r_173 b3 m_91 else none else if mem 91 10 = 3 then if mem 91 11 = 40 then if 8 ≤ b1 then bd (f_M_takesPart N mem) fun r_159 m_159 => if r_159 = 0 then some (0, m_159) else bp (f_M_notsOpen N m_159) fun r_173 => f_M_takesE_L28 N n b1 r_173 0 m_159 else if inb (mem 91 20) 96 = true then lt (mst mem 100 (ix (mem 91 20)) (-11)) fun m_130 => lt (mst m_130 91 20 ((m_130 91 20) + 1)) fun m_138 => if inb (b1 + 1) 10 = true then lt (mst m_138 101 (ix (b1 + 1)) 0) fun m_150 => bp (f_M_go N m_150) fun m_152 => bp (f_M_notsOpen N m_152) fun r_173 => f_M_takesE_L28 N n (b1 + 1) r_173 b3 m_152 else none else none else bd (f_M_takesPart N mem) fun r_159 m_159 => if r_159 = 0 then some (0, m_159) else bp (f_M_notsOpen N m_159) fun r_173 => f_M_takesE_L28 N n b1 r_173 0 m_159 else bd (f_M_takesPart N mem) fun r_159 m_159 => if r_159 = 0 then some (0, m_159) else bp (f_M_notsOpen N m_159) fun r_173 => f_M_takesE_L28 N n b1 r_173 0 m_159 else if mem 91 10 = 3 then if mem 91 11 = 40 then if 8 ≤ b1 then bd (f_M_takesPart N mem) fun r_159 m_159 => if r_159 = 0 then some (0, m_159) else bp (f_M_notsOpen N m_159) fun r_173 => f_M_takesE_L28 N n b1 r_173 0 m_159 else if inb (mem 91 20) 96 = true then lt (mst mem 100 (ix (mem 91 20)) (-11)) fun m_130 => lt (mst m_130 91 20 ((m_130 91 20) + 1)) fun m_138 => if inb (b1 + 1) 10 = true then lt (mst m_138 101 (ix (b1 + 1)) 0) fun m_150 => bp (f_M_go N m_150) fun m_152 => bp (f_M_notsOpen N m_152) fun r_173 => f_M_takesE_L28 N n (b1 + 1) r_173 b3 m_152 else none else none else bd (f_M_takesPart N mem) fun r_159 m_159 => if r_159 = 0 then some (0, m_159) else bp (f_M_notsOpen N m_159) fun r_173 => f_M_takesE_L28 N n b1 r_173 0 m_159 else bd (f_M_takesPart N mem) fun r_159 m_159 => if r_159 = 0 then some (0, m_159) else bp (f_M_notsOpen N m_159) fun r_173 => f_M_takesE_L28 N n b1 r_173 0 m_159 else if b3 = 0 then if mem 91 10 = 3 then if mem 91 11 = 41 then if b1 ≤ 0 then bp (f_M_signHere mem) fun r_238 => if r_238 = 0 then some (0, mem) else bp (f_M_rank r_238) fun r_250 => if r_250 = 3 then if inb b1 10 = true then if mem 101 (ix b1) = 0 then bp (f_M_rank r_238) fun r_275 => if r_275 = 3 then lt (mst mem 101 (ix b1) 1) fun m_305 => bp (f_M_rank r_238) fun r_309 => bp (f_M_settle N r_309 m_305) fun m_312 => if inb (m_312 91 20) 96 = true then lt (mst m_312 100 (ix (m_312 91 20)) r_238) fun m_325 => lt (mst m_325 91 20 ((m_325 91 20) + 1)) fun m_333 => bp (f_M_go N m_333) fun m_339 => f_M_takesE_L28 N n b1 b2 1 m_339 else none else bp (f_M_rank r_238) fun r_284 => lt (mst mem 101 (ix b1) (if r_284 ≤ 3 then (0 : Int32) else if mem 101 (ix b1) = 0 then (0 : Int32) else 1)) fun m_305 => bp (f_M_rank r_238) fun r_309 => bp (f_M_settle N r_309 m_305) fun m_312 => if inb (m_312 91 20) 96 = true then lt (mst m_312 100 (ix (m_312 91 20)) r_238) fun m_325 => lt (mst m_325 91 20 ((m_325 91 20) + 1)) fun m_333 => bp (f_M_go N m_333) fun m_339 => f_M_takesE_L28 N n b1 b2 1 m_339 else none else some (0, mem) else none else bp (f_M_rank r_238) fun r_275 => if r_275 = 3 then if inb b1 10 = true then lt (mst mem 101 (ix b1) 1) fun m_305 => bp (f_M_rank r_238) fun r_309 => bp (f_M_settle N r_309 m_305) fun m_312 => if inb (m_312 91 20) 96 = true then lt (mst m_312 100 (ix (m_312 91 20)) r_238) fun m_325 => lt (mst m_325 91 20 ((m_325 91 20) + 1)) fun m_333 => bp (f_M_go N m_333) fun m_339 => f_M_takesE_L28 N n b1 b2 1 m_339 else none else none else bp (f_M_rank r_238) fun r_284 => if r_284 ≤ 3 then if inb b1 10 = true then lt (mst mem 101 (ix b1) 0) fun m_305 => bp (f_M_rank r_238) fun r_309 => bp (f_M_settle N r_309 m_305) fun m_312 => if inb (m_312 91 20) 96 = true then lt (mst m_312 100 (ix (m_312 91 20)) r_238) fun m_325 => lt (mst m_325 91 20 ((m_325 91 20) + 1)) fun m_333 => bp (f_M_go N m_333) fun m_339 => f_M_takesE_L28 N n b1 b2 1 m_339 else none else none else if inb b1 10 = true then lt (mst mem 101 (ix b1) (if mem 101 (ix b1) = 0 then (0 : Int32) else 1)) fun m_305 => bp (f_M_rank r_238) fun r_309 => bp (f_M_settle N r_309 m_305) fun m_312 => if inb (m_312 91 20) 96 = true then lt (mst m_312 100 (ix (m_312 91 20)) r_238) fun m_325 => lt (mst m_325 91 20 ((m_325 91 20) + 1)) fun m_333 => bp (f_M_go N m_333) fun m_339 => f_M_takesE_L28 N n b1 b2 1 m_339 else none else none else bp (f_M_settle N 0 mem) fun m_203 => lt (mst m_203 91 20 ((m_203 91 20) - 1)) fun m_213 => bp (f_M_settle N 6 m_213) fun m_222 => bp (f_M_notsOpen N m_222) fun r_226 => bp (f_M_go N m_222) fun m_231 => f_M_takesE_L28 N n (b1 + (-1)) r_226 b3 m_231 else bp (f_M_signHere mem) fun r_238 => if r_238 = 0 then some (0, mem) else bp (f_M_rank r_238) fun r_250 => if r_250 = 3 then if inb b1 10 = true then if mem 101 (ix b1) = 0 then bp (f_M_rank r_238) fun r_275 => if r_275 = 3 then lt (mst mem 101 (ix b1) 1) fun m_305 => bp (f_M_rank r_238) fun r_309 => bp (f_M_settle N r_309 m_305) fun m_312 => if inb (m_312 91 20) 96 = true then lt (mst m_312 100 (ix (m_312 91 20)) r_238) fun m_325 => lt (mst m_325 91 20 ((m_325 91 20) + 1)) fun m_333 => bp (f_M_go N m_333) fun m_339 => f_M_takesE_L28 N n b1 b2 1 m_339 else none else bp (f_M_rank r_238) fun r_284 => lt (mst mem 101 (ix b1) (if r_284 ≤ 3 then (0 : Int32) else if mem 101 (ix b1) = 0 then (0 : Int32) else 1)) fun m_305 => bp (f_M_rank r_238) fun r_309 => bp (f_M_settle N r_309 m_305) fun m_312 => if inb (m_312 91 20) 96 = true then lt (mst m_312 100 (ix (m_312 91 20)) r_238) fun m_325 => lt (mst m_325 91 20 ((m_325 91 20) + 1)) fun m_333 => bp (f_M_go N m_333) fun m_339 => f_M_takesE_L28 N n b1 b2 1 m_339 else none else some (0, mem) else none else bp (f_M_rank r_238) fun r_275 => if r_275 = 3 then if inb b1 10 = true then lt (mst mem 101 (ix b1) 1) fun m_305 => bp (f_M_rank r_238) fun r_309 => bp (f_M_settle N r_309 m_305) fun m_312 => if inb (m_312 91 20) 96 = true then lt (mst m_312 100 (ix (m_312 91 20)) r_238) fun m_325 => lt (mst m_325 91 20 ((m_325 91 20) + 1)) fun m_333 => bp (f_M_go N m_333) fun m_339 => f_M_takesE_L28 N n b1 b2 1 m_339 else none else none else bp (f_M_rank r_238) fun r_284 => if r_284 ≤ 3 then if inb b1 10 = true then lt (mst mem 101 (ix b1) 0) fun m_305 => bp (f_M_rank r_238) fun r_309 => bp (f_M_settle N r_309 m_305) fun m_312 => if inb (m_312 91 20) 96 = true then lt (mst m_312 100 (ix (m_312 91 20)) r_238) fun m_325 => lt (mst m_325 91 20 ((m_325 91 20) + 1)) fun m_333 => bp (f_M_go N m_333) fun m_339 => f_M_takesE_L28 N n b1 b2 1 m_339 else none else none else if inb b1 10 = true then lt (mst mem 101 (ix b1) (if mem 101 (ix b1) = 0 then (0 : Int32) else 1)) fun m_305 => bp (f_M_rank r_238) fun r_309 => bp (f_M_settle N r_309 m_305) fun m_312 => if inb (m_312 91 20) 96 = true then lt (mst m_312 100 (ix (m_312 91 20)) r_238) fun m_325 => lt (mst m_325 91 20 ((m_325 91 20) + 1)) fun m_333 => bp (f_M_go N m_333) fun m_339 => f_M_takesE_L28 N n b1 b2 1 m_339 else none else none else bp (f_M_signHere mem) fun r_238 => if r_238 = 0 then some (0, mem) else bp (f_M_rank r_238) fun r_250 => if r_250 = 3 then if inb b1 10 = true then if mem 101 (ix b1) = 0 then bp (f_M_rank r_238) fun r_275 => if r_275 = 3 then lt (mst mem 101 (ix b1) 1) fun m_305 => bp (f_M_rank r_238) fun r_309 => bp (f_M_settle N r_309 m_305) fun m_312 => if inb (m_312 91 20) 96 = true then lt (mst m_312 100 (ix (m_312 91 20)) r_238) fun m_325 => lt (mst m_325 91 20 ((m_325 91 20) + 1)) fun m_333 => bp (f_M_go N m_333) fun m_339 => f_M_takesE_L28 N n b1 b2 1 m_339 else none else bp (f_M_rank r_238) fun r_284 => lt (mst mem 101 (ix b1) (if r_284 ≤ 3 then (0 : Int32) else if mem 101 (ix b1) = 0 then (0 : Int32) else 1)) fun m_305 => bp (f_M_rank r_238) fun r_309 => bp (f_M_settle N r_309 m_305) fun m_312 => if inb (m_312 91 20) 96 = true then lt (mst m_312 100 (ix (m_312 91 20)) r_238) fun m_325 => lt (mst m_325 91 20 ((m_325 91 20) + 1)) fun m_333 => bp (f_M_go N m_333) fun m_339 => f_M_takesE_L28 N n b1 b2 1 m_339 else none else some (0, mem) else none else bp (f_M_rank r_238) fun r_275 => if r_275 = 3 then if inb b1 10 = true then lt (mst mem 101 (ix b1) 1) fun m_305 => bp (f_M_rank r_238) fun r_309 => bp (f_M_settle N r_309 m_305) fun m_312 => if inb (m_312 91 20) 96 = true then lt (mst m_312 100 (ix (m_312 91 20)) r_238) fun m_325 => lt (mst m_325 91 20 ((m_325 91 20) + 1)) fun m_333 => bp (f_M_go N m_333) fun m_339 => f_M_takesE_L28 N n b1 b2 1 m_339 else none else none else bp (f_M_rank r_238) fun r_284 => if r_284 ≤ 3 then if inb b1 10 = true then lt (mst mem 101 (ix b1) 0) fun m_305 => bp (f_M_rank r_238) fun r_309 => bp (f_M_settle N r_309 m_305) fun m_312 => if inb (m_312 91 20) 96 = true then lt (mst m_312 100 (ix (m_312 91 20)) r_238) fun m_325 => lt (mst m_325 91 20 ((m_325 91 20) + 1)) fun m_333 => bp (f_M_go N m_333) fun m_339 => f_M_takesE_L28 N n b1 b2 1 m_339 else none else none else if inb b1 10 = true then lt (mst mem 101 (ix b1) (if mem 101 (ix b1) = 0 then (0 : Int32) else 1)) fun m_305 => bp (f_M_rank r_238) fun r_309 => bp (f_M_settle N r_309 m_305) fun m_312 => if inb (m_312 91 20) 96 = true then lt (mst m_312 100 (ix (m_312 91 20)) r_238) fun m_325 => lt (mst m_325 91 20 ((m_325 91 20) + 1)) fun m_333 => bp (f_M_go N m_333) fun m_339 => f_M_takesE_L28 N n b1 b2 1 m_339 else none else none else if mem 91 10 = 3 then if mem 91 11 = 33 then if 8 ≤ b2 then if mem 91 10 = 3 then if mem 91 11 = 40 then if 8 ≤ b1 then bd (f_M_takesPart N mem) fun r_159 m_159 => if r_159 = 0 then some (0, m_159) else bp (f_M_notsOpen N m_159) fun r_173 => f_M_takesE_L28 N n b1 r_173 0 m_159 else if inb (mem 91 20) 96 = true then lt (mst mem 100 (ix (mem 91 20)) (-11)) fun m_130 => lt (mst m_130 91 20 ((m_130 91 20) + 1)) fun m_138 => if inb (b1 + 1) 10 = true then lt (mst m_138 101 (ix (b1 + 1)) 0) fun m_150 => bp (f_M_go N m_150) fun m_152 => bp (f_M_notsOpen N m_152) fun r_173 => f_M_takesE_L28 N n (b1 + 1) r_173 b3 m_152 else none else none else bd (f_M_takesPart N mem) fun r_159 m_159 => if r_159 = 0 then some (0, m_159) else bp (f_M_notsOpen N m_159) fun r_173 => f_M_takesE_L28 N n b1 r_173 0 m_159 else bd (f_M_takesPart N mem) fun r_159 m_159 => if r_159 = 0 then some (0, m_159) else bp (f_M_notsOpen N m_159) fun r_173 => f_M_takesE_L28 N n b1 r_173 0 m_159 else if inb (mem 91 20) 96 = true then lt (mst mem 100 (ix (mem 91 20)) (-10)) fun m_76 => lt (mst m_76 91 20 ((m_76 91 20) + 1)) fun m_84 => bp (f_M_go N m_84) fun m_91 => bp (f_M_notsOpen N m_91) fun r_173 => f_M_takesE_L28 N n b1 r_173 b3 m_91 else none else if mem 91 10 = 3 then if mem 91 11 = 40 then if 8 ≤ b1 then bd (f_M_takesPart N mem) fun r_159 m_159 => if r_159 = 0 then some (0, m_159) else bp (f_M_notsOpen N m_159) fun r_173 => f_M_takesE_L28 N n b1 r_173 0 m_159 else if inb (mem 91 20) 96 = true then lt (mst mem 100 (ix (mem 91 20)) (-11)) fun m_130 => lt (mst m_130 91 20 ((m_130 91 20) + 1)) fun m_138 => if inb (b1 + 1) 10 = true then lt (mst m_138 101 (ix (b1 + 1)) 0) fun m_150 => bp (f_M_go N m_150) fun m_152 => bp (f_M_notsOpen N m_152) fun r_173 => f_M_takesE_L28 N n (b1 + 1) r_173 b3 m_152 else none else none else bd (f_M_takesPart N mem) fun r_159 m_159 => if r_159 = 0 then some (0, m_159) else bp (f_M_notsOpen N m_159) fun r_173 => f_M_takesE_L28 N n b1 r_173 0 m_159 else bd (f_M_takesPart N mem) fun r_159 m_159 => if r_159 = 0 then some (0, m_159) else bp (f_M_notsOpen N m_159) fun r_173 => f_M_takesE_L28 N n b1 r_173 0 m_159 else if mem 91 10 = 3 then if mem 91 11 = 40 then if 8 ≤ b1 then bd (f_M_takesPart N mem) fun r_159 m_159 => if r_159 = 0 then some (0, m_159) else bp (f_M_notsOpen N m_159) fun r_173 => f_M_takesE_L28 N n b1 r_173 0 m_159 else if inb (mem 91 20) 96 = true then lt (mst mem 100 (ix (mem 91 20)) (-11)) fun m_130 => lt (mst m_130 91 20 ((m_130 91 20) + 1)) fun m_138 => if inb (b1 + 1) 10 = true then lt (mst m_138 101 (ix (b1 + 1)) 0) fun m_150 => bp (f_M_go N m_150) fun m_152 => bp (f_M_notsOpen N m_152) fun r_173 => f_M_takesE_L28 N n (b1 + 1) r_173 b3 m_152 else none else none else bd (f_M_takesPart N mem) fun r_159 m_159 => if r_159 = 0 then some (0, m_159) else bp (f_M_notsOpen N m_159) fun r_173 => f_M_takesE_L28 N n b1 r_173 0 m_159 else bd (f_M_takesPart N mem) fun r_159 m_159 => if r_159 = 0 then some (0, m_159) else bp (f_M_notsOpen N m_159) fun r_173 => f_M_takesE_L28 N n b1 r_173 0 m_159
def f_M_takesE (N : Nat)  (mem : Mm) : Option (Int32 × Mm) := lt (mst mem 91 17 0) fun m_8 => lt (mst m_8 91 18 0) fun m_13 => lt (mst m_13 91 20 0) fun m_18 => lt (mst m_18 101 (ix 0) 0) fun m_27 => f_M_takesE_L28 N N 0 0 1 m_27
theorem L_M_takesE_28 {X : Cx} {E : En} (S : Std X E prog_9_method_62_code R6 5 3) (N : Nat)  {r : Int32} {m2 : Mm} (hR : isb r = true → RetI X E prog_9_method_62_code 5 SH r m2) : ∀ (n : Nat) (b1 : Int32) (b2 : Int32) (b3 : Int32) (mem : Mm), f_M_takesE_L28 N n b1 b2 b3 mem = some (r, m2) → J X E 5 28 [(0, .ref (eb E + 91)), (1, .int b1), (2, .int b2), (3, .int b3)] [] SH mem := by
  intro n
  induction n with
  | zero =>
    intro b1 b2 b3 mem h; cases h
  | succ n ih =>
    intro b1 b2 b3 mem h
    rw [f_M_takesE_L28] at h
    refine j_iload_n S D_M_takesE_28 3 rfl rfl ?_
    refine j_if_ne S D_M_takesE_29 (fun c_29 => ?_) (fun c_29 => ?_)
    · have h := ifF c_29 h
      refine j_iload_n S D_M_takesE_39 3 rfl rfl ?_
      refine j_if_eq S D_M_takesE_40 (fun c_40 => ?_) (fun c_40 => ?_)
      · have h := ifT c_40 h
        refine j_aload_n S D_M_takesE_180 0 rfl rfl ?_
        refine j_getI S D_M_takesE_181 fl_R6_189 sh_Mod rfl ?_
        refine j_iconst S D_M_takesE_184 ci_3 ?_
        refine j_icmp_ne S D_M_takesE_185 (fun c_185 => ?_) (fun c_185 => ?_)
        · have h := ifF c_185 h
          refine j_aload_n S D_M_takesE_237 0 rfl rfl ?_
          obtain ⟨r_238, e_238, h⟩ := bpE h
          refine j_callVI (As := []) S D_M_takesE_238 mv_R6_232 (c_M_signHere (cxL X) E e_238) (by decide) sh_Mod rfl rfl rfl rfl (Nat.le_of_ble_eq_true rfl) ?_
          refine j_istore S D_M_takesE_241 (lv := [(4, .int r_238), (0, .ref (eb E + 91)), (1, .int b1), (2, .int b2), (3, .int b3)]) rfl (Nat.le_of_ble_eq_true rfl) ?_
          refine j_iload S D_M_takesE_243 0 rfl ?_
          refine j_if_eq S D_M_takesE_245 (fun c_245 => ?_) (fun c_245 => ?_)
          · have h := ifT c_245 h
            refine j_iconst S D_M_takesE_266 ci_0 ?_
            exact rtMZ hR h isb0 _ _ D_M_takesE_267
          · have h := ifF c_245 h
            refine j_iload S D_M_takesE_248 0 rfl ?_
            obtain ⟨r_250, e_250, h⟩ := bpE h
            refine j_callSI (As := [.int r_238]) S D_M_takesE_250 ms_R6_210 (c_M_rank (cxL X) E r_238 (mem := mem) e_250) (by decide) rfl rfl (Nat.le_of_ble_eq_true rfl) ?_
            refine j_iconst S D_M_takesE_253 ci_3 ?_
            refine j_icmp_ne S D_M_takesE_254 (fun c_254 => ?_) (fun c_254 => ?_)
            · have h := ifF c_254 h
              refine j_aload_n S D_M_takesE_268 1 rfl rfl ?_
              refine j_getR S D_M_takesE_269 fl_R6_42 sh_Mod rfl ?_
              refine j_iload_n S D_M_takesE_272 2 rfl rfl ?_
              refine j_iload S D_M_takesE_273 0 rfl ?_
              obtain ⟨r_275, e_275, h⟩ := bpE h
              refine j_callSI (As := [.int r_238]) S D_M_takesE_275 ms_R6_210 (c_M_rank (cxL X) E r_238 (mem := mem) e_275) (by decide) rfl rfl (Nat.le_of_ble_eq_true rfl) ?_
              refine j_iconst S D_M_takesE_278 ci_3 ?_
              refine j_icmp_eq S D_M_takesE_279 (fun c_279 => ?_) (fun c_279 => ?_)
              · have h := ifT c_279 h
                refine j_iconst S D_M_takesE_300 ci_1 ?_
                refine j_goto S D_M_takesE_301 ?_
                obtain ⟨g_305, h⟩ := gdE h
                obtain ⟨m_305, hm_305, h⟩ := ltE h
                refine j_zast S D_M_takesE_305 sh_101 g_305 (isb_vn isb1) ?_
                refine j_mem hm_305 ?_
                refine j_aload_n S D_M_takesE_306 1 rfl rfl ?_
                refine j_iload S D_M_takesE_307 0 rfl ?_
                obtain ⟨r_309, e_309, h⟩ := bpE h
                refine j_callSI (As := [.int r_238]) S D_M_takesE_309 ms_R6_210 (c_M_rank (cxL X) E r_238 (mem := m_305) e_309) (by decide) rfl rfl (Nat.le_of_ble_eq_true rfl) ?_
                obtain ⟨m_312, e_312, h⟩ := bpE h
                refine j_callVV (As := [.int r_309]) S D_M_takesE_312 mv_R6_222 (c_M_settle (cxL X) E N r_309 e_312) (by decide) sh_Mod rfl rfl rfl rfl (Nat.le_of_ble_eq_true rfl) ?_
                refine j_aload_n S D_M_takesE_315 1 rfl rfl ?_
                refine j_getR S D_M_takesE_316 fl_R6_39 sh_Mod rfl ?_
                refine j_aload_n S D_M_takesE_319 1 rfl rfl ?_
                refine j_getI S D_M_takesE_320 fl_R6_207 sh_Mod rfl ?_
                refine j_iload S D_M_takesE_323 0 rfl ?_
                obtain ⟨g_325, h⟩ := gdE h
                obtain ⟨m_325, hm_325, h⟩ := ltE h
                refine j_iast S D_M_takesE_325 sh_100 g_325 ?_
                refine j_mem hm_325 ?_
                refine j_aload_n S D_M_takesE_326 1 rfl rfl ?_
                refine j_dup S D_M_takesE_327 rfl ?_
                refine j_getI S D_M_takesE_328 fl_R6_207 sh_Mod rfl ?_
                refine j_iconst S D_M_takesE_331 ci_1 ?_
                refine j_iadd S D_M_takesE_332 ?_
                obtain ⟨m_333, hm_333, h⟩ := ltE h
                refine j_putI S D_M_takesE_333 fp_R6_207 sh_Mod rfl ?_
                refine j_mem hm_333 ?_
                refine j_iconst S D_M_takesE_336 ci_1 ?_
                refine j_istore_n S D_M_takesE_337 (lv := [(3, .int 1), (4, .int r_238), (0, .ref (eb E + 91)), (1, .int b1), (2, .int b2)]) rfl ⟨rfl, (Nat.le_of_ble_eq_true rfl)⟩ ?_
                refine j_aload_n S D_M_takesE_338 2 rfl rfl ?_
                obtain ⟨m_339, e_339, h⟩ := bpE h
                refine j_callVV (As := []) S D_M_takesE_339 mv_R6_204 (c_M_go (cxL X) E N e_339) (by decide) sh_Mod rfl rfl rfl rfl (Nat.le_of_ble_eq_true rfl) ?_
                refine j_goto S D_M_takesE_342 ?_
                refine j_locals [2, 3, 4, 0] rfl (ih b1 b2 1 m_339 h)
              · have h := ifF c_279 h
                refine j_iload S D_M_takesE_282 0 rfl ?_
                obtain ⟨r_284, e_284, h⟩ := bpE h
                refine j_callSI (As := [.int r_238]) S D_M_takesE_284 ms_R6_210 (c_M_rank (cxL X) E r_238 (mem := mem) e_284) (by decide) rfl rfl (Nat.le_of_ble_eq_true rfl) ?_
                refine j_iconst S D_M_takesE_287 ci_3 ?_
                refine j_icmp_le S D_M_takesE_288 (fun c_288 => ?_) (fun c_288 => ?_)
                · have h := ifT c_288 h
                  refine j_iconst S D_M_takesE_304 ci_0 ?_
                  obtain ⟨g_305, h⟩ := gdE h
                  obtain ⟨m_305, hm_305, h⟩ := ltE h
                  refine j_zast S D_M_takesE_305 sh_101 g_305 (isb_vn isb0) ?_
                  refine j_mem hm_305 ?_
                  refine j_aload_n S D_M_takesE_306 1 rfl rfl ?_
                  refine j_iload S D_M_takesE_307 0 rfl ?_
                  obtain ⟨r_309, e_309, h⟩ := bpE h
                  refine j_callSI (As := [.int r_238]) S D_M_takesE_309 ms_R6_210 (c_M_rank (cxL X) E r_238 (mem := m_305) e_309) (by decide) rfl rfl (Nat.le_of_ble_eq_true rfl) ?_
                  obtain ⟨m_312, e_312, h⟩ := bpE h
                  refine j_callVV (As := [.int r_309]) S D_M_takesE_312 mv_R6_222 (c_M_settle (cxL X) E N r_309 e_312) (by decide) sh_Mod rfl rfl rfl rfl (Nat.le_of_ble_eq_true rfl) ?_
                  refine j_aload_n S D_M_takesE_315 1 rfl rfl ?_
                  refine j_getR S D_M_takesE_316 fl_R6_39 sh_Mod rfl ?_
                  refine j_aload_n S D_M_takesE_319 1 rfl rfl ?_
                  refine j_getI S D_M_takesE_320 fl_R6_207 sh_Mod rfl ?_
                  refine j_iload S D_M_takesE_323 0 rfl ?_
                  obtain ⟨g_325, h⟩ := gdE h
                  obtain ⟨m_325, hm_325, h⟩ := ltE h
                  refine j_iast S D_M_takesE_325 sh_100 g_325 ?_
                  refine j_mem hm_325 ?_
                  refine j_aload_n S D_M_takesE_326 1 rfl rfl ?_
                  refine j_dup S D_M_takesE_327 rfl ?_
                  refine j_getI S D_M_takesE_328 fl_R6_207 sh_Mod rfl ?_
                  refine j_iconst S D_M_takesE_331 ci_1 ?_
                  refine j_iadd S D_M_takesE_332 ?_
                  obtain ⟨m_333, hm_333, h⟩ := ltE h
                  refine j_putI S D_M_takesE_333 fp_R6_207 sh_Mod rfl ?_
                  refine j_mem hm_333 ?_
                  refine j_iconst S D_M_takesE_336 ci_1 ?_
                  refine j_istore_n S D_M_takesE_337 (lv := [(3, .int 1), (4, .int r_238), (0, .ref (eb E + 91)), (1, .int b1), (2, .int b2)]) rfl ⟨rfl, (Nat.le_of_ble_eq_true rfl)⟩ ?_
                  refine j_aload_n S D_M_takesE_338 2 rfl rfl ?_
                  obtain ⟨m_339, e_339, h⟩ := bpE h
                  refine j_callVV (As := []) S D_M_takesE_339 mv_R6_204 (c_M_go (cxL X) E N e_339) (by decide) sh_Mod rfl rfl rfl rfl (Nat.le_of_ble_eq_true rfl) ?_
                  refine j_goto S D_M_takesE_342 ?_
                  refine j_locals [2, 3, 4, 0] rfl (ih b1 b2 1 m_339 h)
                · have h := ifF c_288 h
                  refine j_aload_n S D_M_takesE_291 1 rfl rfl ?_
                  refine j_getR S D_M_takesE_292 fl_R6_42 sh_Mod rfl ?_
                  refine j_iload_n S D_M_takesE_295 2 rfl rfl ?_
                  obtain ⟨g_296, h⟩ := gdE h
                  refine j_zald S D_M_takesE_296 sh_101 g_296 ?_
                  refine j_dia (P := J X E 5 305 [(4, .int r_238), (0, .ref (eb E + 91)), (1, .int b1), (2, .int b2), (3, .int b3)] [.int (if mem 101 (ix b1) = 0 then (0 : Int32) else 1), .int b1, .ref (eb E + 101)] SH mem) (fun hj => ?_) ?_
                  · refine j_if_eq S D_M_takesE_297 (fun c_297 => ?_) (fun c_297 => ?_)
                    · refine j_iconst S D_M_takesE_304 ci_0 ?_
                      exact j_jnT hj c_297
                    · refine j_iconst S D_M_takesE_300 ci_1 ?_
                      refine j_goto S D_M_takesE_301 ?_
                      exact j_jnF hj c_297
                  obtain ⟨m_305, hm_305, h⟩ := ltE h
                  refine j_zast S D_M_takesE_305 sh_101 g_296 (isb_vn (isb_ite isb0 isb1)) ?_
                  refine j_mem hm_305 ?_
                  refine j_aload_n S D_M_takesE_306 1 rfl rfl ?_
                  refine j_iload S D_M_takesE_307 0 rfl ?_
                  obtain ⟨r_309, e_309, h⟩ := bpE h
                  refine j_callSI (As := [.int r_238]) S D_M_takesE_309 ms_R6_210 (c_M_rank (cxL X) E r_238 (mem := m_305) e_309) (by decide) rfl rfl (Nat.le_of_ble_eq_true rfl) ?_
                  obtain ⟨m_312, e_312, h⟩ := bpE h
                  refine j_callVV (As := [.int r_309]) S D_M_takesE_312 mv_R6_222 (c_M_settle (cxL X) E N r_309 e_312) (by decide) sh_Mod rfl rfl rfl rfl (Nat.le_of_ble_eq_true rfl) ?_
                  refine j_aload_n S D_M_takesE_315 1 rfl rfl ?_
                  refine j_getR S D_M_takesE_316 fl_R6_39 sh_Mod rfl ?_
                  refine j_aload_n S D_M_takesE_319 1 rfl rfl ?_
                  refine j_getI S D_M_takesE_320 fl_R6_207 sh_Mod rfl ?_
                  refine j_iload S D_M_takesE_323 0 rfl ?_
                  obtain ⟨g_325, h⟩ := gdE h
                  obtain ⟨m_325, hm_325, h⟩ := ltE h
                  refine j_iast S D_M_takesE_325 sh_100 g_325 ?_
                  refine j_mem hm_325 ?_
                  refine j_aload_n S D_M_takesE_326 1 rfl rfl ?_
                  refine j_dup S D_M_takesE_327 rfl ?_
                  refine j_getI S D_M_takesE_328 fl_R6_207 sh_Mod rfl ?_
                  refine j_iconst S D_M_takesE_331 ci_1 ?_
                  refine j_iadd S D_M_takesE_332 ?_
                  obtain ⟨m_333, hm_333, h⟩ := ltE h
                  refine j_putI S D_M_takesE_333 fp_R6_207 sh_Mod rfl ?_
                  refine j_mem hm_333 ?_
                  refine j_iconst S D_M_takesE_336 ci_1 ?_
                  refine j_istore_n S D_M_takesE_337 (lv := [(3, .int 1), (4, .int r_238), (0, .ref (eb E + 91)), (1, .int b1), (2, .int b2)]) rfl ⟨rfl, (Nat.le_of_ble_eq_true rfl)⟩ ?_
                  refine j_aload_n S D_M_takesE_338 2 rfl rfl ?_
                  obtain ⟨m_339, e_339, h⟩ := bpE h
                  refine j_callVV (As := []) S D_M_takesE_339 mv_R6_204 (c_M_go (cxL X) E N e_339) (by decide) sh_Mod rfl rfl rfl rfl (Nat.le_of_ble_eq_true rfl) ?_
                  refine j_goto S D_M_takesE_342 ?_
                  refine j_locals [2, 3, 4, 0] rfl (ih b1 b2 1 m_339 h)
            · have h := ifT c_254 h
              refine j_aload_n S D_M_takesE_257 1 rfl rfl ?_
              refine j_getR S D_M_takesE_258 fl_R6_42 sh_Mod rfl ?_
              refine j_iload_n S D_M_takesE_261 2 rfl rfl ?_
              obtain ⟨g_262, h⟩ := gdE h
              refine j_zald S D_M_takesE_262 sh_101 g_262 ?_
              refine j_if_eq S D_M_takesE_263 (fun c_263 => ?_) (fun c_263 => ?_)
              · have h := ifT c_263 h
                refine j_aload_n S D_M_takesE_268 1 rfl rfl ?_
                refine j_getR S D_M_takesE_269 fl_R6_42 sh_Mod rfl ?_
                refine j_iload_n S D_M_takesE_272 2 rfl rfl ?_
                refine j_iload S D_M_takesE_273 0 rfl ?_
                obtain ⟨r_275, e_275, h⟩ := bpE h
                refine j_callSI (As := [.int r_238]) S D_M_takesE_275 ms_R6_210 (c_M_rank (cxL X) E r_238 (mem := mem) e_275) (by decide) rfl rfl (Nat.le_of_ble_eq_true rfl) ?_
                refine j_iconst S D_M_takesE_278 ci_3 ?_
                refine j_icmp_eq S D_M_takesE_279 (fun c_279 => ?_) (fun c_279 => ?_)
                · have h := ifT c_279 h
                  refine j_iconst S D_M_takesE_300 ci_1 ?_
                  refine j_goto S D_M_takesE_301 ?_
                  obtain ⟨m_305, hm_305, h⟩ := ltE h
                  refine j_zast S D_M_takesE_305 sh_101 g_262 (isb_vn isb1) ?_
                  refine j_mem hm_305 ?_
                  refine j_aload_n S D_M_takesE_306 1 rfl rfl ?_
                  refine j_iload S D_M_takesE_307 0 rfl ?_
                  obtain ⟨r_309, e_309, h⟩ := bpE h
                  refine j_callSI (As := [.int r_238]) S D_M_takesE_309 ms_R6_210 (c_M_rank (cxL X) E r_238 (mem := m_305) e_309) (by decide) rfl rfl (Nat.le_of_ble_eq_true rfl) ?_
                  obtain ⟨m_312, e_312, h⟩ := bpE h
                  refine j_callVV (As := [.int r_309]) S D_M_takesE_312 mv_R6_222 (c_M_settle (cxL X) E N r_309 e_312) (by decide) sh_Mod rfl rfl rfl rfl (Nat.le_of_ble_eq_true rfl) ?_
                  refine j_aload_n S D_M_takesE_315 1 rfl rfl ?_
                  refine j_getR S D_M_takesE_316 fl_R6_39 sh_Mod rfl ?_
                  refine j_aload_n S D_M_takesE_319 1 rfl rfl ?_
                  refine j_getI S D_M_takesE_320 fl_R6_207 sh_Mod rfl ?_
                  refine j_iload S D_M_takesE_323 0 rfl ?_
                  obtain ⟨g_325, h⟩ := gdE h
                  obtain ⟨m_325, hm_325, h⟩ := ltE h
                  refine j_iast S D_M_takesE_325 sh_100 g_325 ?_
                  refine j_mem hm_325 ?_
                  refine j_aload_n S D_M_takesE_326 1 rfl rfl ?_
                  refine j_dup S D_M_takesE_327 rfl ?_
                  refine j_getI S D_M_takesE_328 fl_R6_207 sh_Mod rfl ?_
                  refine j_iconst S D_M_takesE_331 ci_1 ?_
                  refine j_iadd S D_M_takesE_332 ?_
                  obtain ⟨m_333, hm_333, h⟩ := ltE h
                  refine j_putI S D_M_takesE_333 fp_R6_207 sh_Mod rfl ?_
                  refine j_mem hm_333 ?_
                  refine j_iconst S D_M_takesE_336 ci_1 ?_
                  refine j_istore_n S D_M_takesE_337 (lv := [(3, .int 1), (4, .int r_238), (0, .ref (eb E + 91)), (1, .int b1), (2, .int b2)]) rfl ⟨rfl, (Nat.le_of_ble_eq_true rfl)⟩ ?_
                  refine j_aload_n S D_M_takesE_338 2 rfl rfl ?_
                  obtain ⟨m_339, e_339, h⟩ := bpE h
                  refine j_callVV (As := []) S D_M_takesE_339 mv_R6_204 (c_M_go (cxL X) E N e_339) (by decide) sh_Mod rfl rfl rfl rfl (Nat.le_of_ble_eq_true rfl) ?_
                  refine j_goto S D_M_takesE_342 ?_
                  refine j_locals [2, 3, 4, 0] rfl (ih b1 b2 1 m_339 h)
                · have h := ifF c_279 h
                  refine j_iload S D_M_takesE_282 0 rfl ?_
                  obtain ⟨r_284, e_284, h⟩ := bpE h
                  refine j_callSI (As := [.int r_238]) S D_M_takesE_284 ms_R6_210 (c_M_rank (cxL X) E r_238 (mem := mem) e_284) (by decide) rfl rfl (Nat.le_of_ble_eq_true rfl) ?_
                  refine j_iconst S D_M_takesE_287 ci_3 ?_
                  refine j_dia (P := J X E 5 305 [(4, .int r_238), (0, .ref (eb E + 91)), (1, .int b1), (2, .int b2), (3, .int b3)] [.int (if r_284 ≤ 3 then (0 : Int32) else if mem 101 (ix b1) = 0 then (0 : Int32) else 1), .int b1, .ref (eb E + 101)] SH mem) (fun hj => ?_) ?_
                  · refine j_icmp_le S D_M_takesE_288 (fun c_288 => ?_) (fun c_288 => ?_)
                    · refine j_iconst S D_M_takesE_304 ci_0 ?_
                      exact j_jnT hj c_288
                    · refine j_aload_n S D_M_takesE_291 1 rfl rfl ?_
                      refine j_getR S D_M_takesE_292 fl_R6_42 sh_Mod rfl ?_
                      refine j_iload_n S D_M_takesE_295 2 rfl rfl ?_
                      refine j_zald S D_M_takesE_296 sh_101 g_262 ?_
                      refine j_dia (P := J X E 5 305 [(4, .int r_238), (0, .ref (eb E + 91)), (1, .int b1), (2, .int b2), (3, .int b3)] [.int (if mem 101 (ix b1) = 0 then (0 : Int32) else 1), .int b1, .ref (eb E + 101)] SH mem) (fun hj => ?_) ?_
                      · refine j_if_eq S D_M_takesE_297 (fun c_297 => ?_) (fun c_297 => ?_)
                        · refine j_iconst S D_M_takesE_304 ci_0 ?_
                          exact j_jnT hj c_297
                        · refine j_iconst S D_M_takesE_300 ci_1 ?_
                          refine j_goto S D_M_takesE_301 ?_
                          exact j_jnF hj c_297
                      exact j_jnF hj c_288
                  obtain ⟨m_305, hm_305, h⟩ := ltE h
                  refine j_zast S D_M_takesE_305 sh_101 g_262 (isb_vn (isb_ite isb0 (isb_ite isb0 isb1))) ?_
                  refine j_mem hm_305 ?_
                  refine j_aload_n S D_M_takesE_306 1 rfl rfl ?_
                  refine j_iload S D_M_takesE_307 0 rfl ?_
                  obtain ⟨r_309, e_309, h⟩ := bpE h
                  refine j_callSI (As := [.int r_238]) S D_M_takesE_309 ms_R6_210 (c_M_rank (cxL X) E r_238 (mem := m_305) e_309) (by decide) rfl rfl (Nat.le_of_ble_eq_true rfl) ?_
                  obtain ⟨m_312, e_312, h⟩ := bpE h
                  refine j_callVV (As := [.int r_309]) S D_M_takesE_312 mv_R6_222 (c_M_settle (cxL X) E N r_309 e_312) (by decide) sh_Mod rfl rfl rfl rfl (Nat.le_of_ble_eq_true rfl) ?_
                  refine j_aload_n S D_M_takesE_315 1 rfl rfl ?_
                  refine j_getR S D_M_takesE_316 fl_R6_39 sh_Mod rfl ?_
                  refine j_aload_n S D_M_takesE_319 1 rfl rfl ?_
                  refine j_getI S D_M_takesE_320 fl_R6_207 sh_Mod rfl ?_
                  refine j_iload S D_M_takesE_323 0 rfl ?_
                  obtain ⟨g_325, h⟩ := gdE h
                  obtain ⟨m_325, hm_325, h⟩ := ltE h
                  refine j_iast S D_M_takesE_325 sh_100 g_325 ?_
                  refine j_mem hm_325 ?_
                  refine j_aload_n S D_M_takesE_326 1 rfl rfl ?_
                  refine j_dup S D_M_takesE_327 rfl ?_
                  refine j_getI S D_M_takesE_328 fl_R6_207 sh_Mod rfl ?_
                  refine j_iconst S D_M_takesE_331 ci_1 ?_
                  refine j_iadd S D_M_takesE_332 ?_
                  obtain ⟨m_333, hm_333, h⟩ := ltE h
                  refine j_putI S D_M_takesE_333 fp_R6_207 sh_Mod rfl ?_
                  refine j_mem hm_333 ?_
                  refine j_iconst S D_M_takesE_336 ci_1 ?_
                  refine j_istore_n S D_M_takesE_337 (lv := [(3, .int 1), (4, .int r_238), (0, .ref (eb E + 91)), (1, .int b1), (2, .int b2)]) rfl ⟨rfl, (Nat.le_of_ble_eq_true rfl)⟩ ?_
                  refine j_aload_n S D_M_takesE_338 2 rfl rfl ?_
                  obtain ⟨m_339, e_339, h⟩ := bpE h
                  refine j_callVV (As := []) S D_M_takesE_339 mv_R6_204 (c_M_go (cxL X) E N e_339) (by decide) sh_Mod rfl rfl rfl rfl (Nat.le_of_ble_eq_true rfl) ?_
                  refine j_goto S D_M_takesE_342 ?_
                  refine j_locals [2, 3, 4, 0] rfl (ih b1 b2 1 m_339 h)
              · have h := ifF c_263 h
                refine j_iconst S D_M_takesE_266 ci_0 ?_
                exact rtMZ hR h isb0 _ _ D_M_takesE_267
        · have h := ifT c_185 h
          refine j_aload_n S D_M_takesE_188 0 rfl rfl ?_
          refine j_getI S D_M_takesE_189 fl_R6_195 sh_Mod rfl ?_
          refine j_bipush S D_M_takesE_192 cb_41 ?_
          refine j_icmp_ne S D_M_takesE_194 (fun c_194 => ?_) (fun c_194 => ?_)
          · have h := ifF c_194 h
            refine j_aload_n S D_M_takesE_237 0 rfl rfl ?_
            obtain ⟨r_238, e_238, h⟩ := bpE h
            refine j_callVI (As := []) S D_M_takesE_238 mv_R6_232 (c_M_signHere (cxL X) E e_238) (by decide) sh_Mod rfl rfl rfl rfl (Nat.le_of_ble_eq_true rfl) ?_
            refine j_istore S D_M_takesE_241 (lv := [(4, .int r_238), (0, .ref (eb E + 91)), (1, .int b1), (2, .int b2), (3, .int b3)]) rfl (Nat.le_of_ble_eq_true rfl) ?_
            refine j_iload S D_M_takesE_243 0 rfl ?_
            refine j_if_eq S D_M_takesE_245 (fun c_245 => ?_) (fun c_245 => ?_)
            · have h := ifT c_245 h
              refine j_iconst S D_M_takesE_266 ci_0 ?_
              exact rtMZ hR h isb0 _ _ D_M_takesE_267
            · have h := ifF c_245 h
              refine j_iload S D_M_takesE_248 0 rfl ?_
              obtain ⟨r_250, e_250, h⟩ := bpE h
              refine j_callSI (As := [.int r_238]) S D_M_takesE_250 ms_R6_210 (c_M_rank (cxL X) E r_238 (mem := mem) e_250) (by decide) rfl rfl (Nat.le_of_ble_eq_true rfl) ?_
              refine j_iconst S D_M_takesE_253 ci_3 ?_
              refine j_icmp_ne S D_M_takesE_254 (fun c_254 => ?_) (fun c_254 => ?_)
              · have h := ifF c_254 h
                refine j_aload_n S D_M_takesE_268 1 rfl rfl ?_
                refine j_getR S D_M_takesE_269 fl_R6_42 sh_Mod rfl ?_
                refine j_iload_n S D_M_takesE_272 2 rfl rfl ?_
                refine j_iload S D_M_takesE_273 0 rfl ?_
                obtain ⟨r_275, e_275, h⟩ := bpE h
                refine j_callSI (As := [.int r_238]) S D_M_takesE_275 ms_R6_210 (c_M_rank (cxL X) E r_238 (mem := mem) e_275) (by decide) rfl rfl (Nat.le_of_ble_eq_true rfl) ?_
                refine j_iconst S D_M_takesE_278 ci_3 ?_
                refine j_icmp_eq S D_M_takesE_279 (fun c_279 => ?_) (fun c_279 => ?_)
                · have h := ifT c_279 h
                  refine j_iconst S D_M_takesE_300 ci_1 ?_
                  refine j_goto S D_M_takesE_301 ?_
                  obtain ⟨g_305, h⟩ := gdE h
                  obtain ⟨m_305, hm_305, h⟩ := ltE h
                  refine j_zast S D_M_takesE_305 sh_101 g_305 (isb_vn isb1) ?_
                  refine j_mem hm_305 ?_
                  refine j_aload_n S D_M_takesE_306 1 rfl rfl ?_
                  refine j_iload S D_M_takesE_307 0 rfl ?_
                  obtain ⟨r_309, e_309, h⟩ := bpE h
                  refine j_callSI (As := [.int r_238]) S D_M_takesE_309 ms_R6_210 (c_M_rank (cxL X) E r_238 (mem := m_305) e_309) (by decide) rfl rfl (Nat.le_of_ble_eq_true rfl) ?_
                  obtain ⟨m_312, e_312, h⟩ := bpE h
                  refine j_callVV (As := [.int r_309]) S D_M_takesE_312 mv_R6_222 (c_M_settle (cxL X) E N r_309 e_312) (by decide) sh_Mod rfl rfl rfl rfl (Nat.le_of_ble_eq_true rfl) ?_
                  refine j_aload_n S D_M_takesE_315 1 rfl rfl ?_
                  refine j_getR S D_M_takesE_316 fl_R6_39 sh_Mod rfl ?_
                  refine j_aload_n S D_M_takesE_319 1 rfl rfl ?_
                  refine j_getI S D_M_takesE_320 fl_R6_207 sh_Mod rfl ?_
                  refine j_iload S D_M_takesE_323 0 rfl ?_
                  obtain ⟨g_325, h⟩ := gdE h
                  obtain ⟨m_325, hm_325, h⟩ := ltE h
                  refine j_iast S D_M_takesE_325 sh_100 g_325 ?_
                  refine j_mem hm_325 ?_
                  refine j_aload_n S D_M_takesE_326 1 rfl rfl ?_
                  refine j_dup S D_M_takesE_327 rfl ?_
                  refine j_getI S D_M_takesE_328 fl_R6_207 sh_Mod rfl ?_
                  refine j_iconst S D_M_takesE_331 ci_1 ?_
                  refine j_iadd S D_M_takesE_332 ?_
                  obtain ⟨m_333, hm_333, h⟩ := ltE h
                  refine j_putI S D_M_takesE_333 fp_R6_207 sh_Mod rfl ?_
                  refine j_mem hm_333 ?_
                  refine j_iconst S D_M_takesE_336 ci_1 ?_
                  refine j_istore_n S D_M_takesE_337 (lv := [(3, .int 1), (4, .int r_238), (0, .ref (eb E + 91)), (1, .int b1), (2, .int b2)]) rfl ⟨rfl, (Nat.le_of_ble_eq_true rfl)⟩ ?_
                  refine j_aload_n S D_M_takesE_338 2 rfl rfl ?_
                  obtain ⟨m_339, e_339, h⟩ := bpE h
                  refine j_callVV (As := []) S D_M_takesE_339 mv_R6_204 (c_M_go (cxL X) E N e_339) (by decide) sh_Mod rfl rfl rfl rfl (Nat.le_of_ble_eq_true rfl) ?_
                  refine j_goto S D_M_takesE_342 ?_
                  refine j_locals [2, 3, 4, 0] rfl (ih b1 b2 1 m_339 h)
                · have h := ifF c_279 h
                  refine j_iload S D_M_takesE_282 0 rfl ?_
                  obtain ⟨r_284, e_284, h⟩ := bpE h
                  refine j_callSI (As := [.int r_238]) S D_M_takesE_284 ms_R6_210 (c_M_rank (cxL X) E r_238 (mem := mem) e_284) (by decide) rfl rfl (Nat.le_of_ble_eq_true rfl) ?_
                  refine j_iconst S D_M_takesE_287 ci_3 ?_
                  refine j_icmp_le S D_M_takesE_288 (fun c_288 => ?_) (fun c_288 => ?_)
                  · have h := ifT c_288 h
                    refine j_iconst S D_M_takesE_304 ci_0 ?_
                    obtain ⟨g_305, h⟩ := gdE h
                    obtain ⟨m_305, hm_305, h⟩ := ltE h
                    refine j_zast S D_M_takesE_305 sh_101 g_305 (isb_vn isb0) ?_
                    refine j_mem hm_305 ?_
                    refine j_aload_n S D_M_takesE_306 1 rfl rfl ?_
                    refine j_iload S D_M_takesE_307 0 rfl ?_
                    obtain ⟨r_309, e_309, h⟩ := bpE h
                    refine j_callSI (As := [.int r_238]) S D_M_takesE_309 ms_R6_210 (c_M_rank (cxL X) E r_238 (mem := m_305) e_309) (by decide) rfl rfl (Nat.le_of_ble_eq_true rfl) ?_
                    obtain ⟨m_312, e_312, h⟩ := bpE h
                    refine j_callVV (As := [.int r_309]) S D_M_takesE_312 mv_R6_222 (c_M_settle (cxL X) E N r_309 e_312) (by decide) sh_Mod rfl rfl rfl rfl (Nat.le_of_ble_eq_true rfl) ?_
                    refine j_aload_n S D_M_takesE_315 1 rfl rfl ?_
                    refine j_getR S D_M_takesE_316 fl_R6_39 sh_Mod rfl ?_
                    refine j_aload_n S D_M_takesE_319 1 rfl rfl ?_
                    refine j_getI S D_M_takesE_320 fl_R6_207 sh_Mod rfl ?_
                    refine j_iload S D_M_takesE_323 0 rfl ?_
                    obtain ⟨g_325, h⟩ := gdE h
                    obtain ⟨m_325, hm_325, h⟩ := ltE h
                    refine j_iast S D_M_takesE_325 sh_100 g_325 ?_
                    refine j_mem hm_325 ?_
                    refine j_aload_n S D_M_takesE_326 1 rfl rfl ?_
                    refine j_dup S D_M_takesE_327 rfl ?_
                    refine j_getI S D_M_takesE_328 fl_R6_207 sh_Mod rfl ?_
                    refine j_iconst S D_M_takesE_331 ci_1 ?_
                    refine j_iadd S D_M_takesE_332 ?_
                    obtain ⟨m_333, hm_333, h⟩ := ltE h
                    refine j_putI S D_M_takesE_333 fp_R6_207 sh_Mod rfl ?_
                    refine j_mem hm_333 ?_
                    refine j_iconst S D_M_takesE_336 ci_1 ?_
                    refine j_istore_n S D_M_takesE_337 (lv := [(3, .int 1), (4, .int r_238), (0, .ref (eb E + 91)), (1, .int b1), (2, .int b2)]) rfl ⟨rfl, (Nat.le_of_ble_eq_true rfl)⟩ ?_
                    refine j_aload_n S D_M_takesE_338 2 rfl rfl ?_
                    obtain ⟨m_339, e_339, h⟩ := bpE h
                    refine j_callVV (As := []) S D_M_takesE_339 mv_R6_204 (c_M_go (cxL X) E N e_339) (by decide) sh_Mod rfl rfl rfl rfl (Nat.le_of_ble_eq_true rfl) ?_
                    refine j_goto S D_M_takesE_342 ?_
                    refine j_locals [2, 3, 4, 0] rfl (ih b1 b2 1 m_339 h)
                  · have h := ifF c_288 h
                    refine j_aload_n S D_M_takesE_291 1 rfl rfl ?_
                    refine j_getR S D_M_takesE_292 fl_R6_42 sh_Mod rfl ?_
                    refine j_iload_n S D_M_takesE_295 2 rfl rfl ?_
                    obtain ⟨g_296, h⟩ := gdE h
                    refine j_zald S D_M_takesE_296 sh_101 g_296 ?_
                    refine j_dia (P := J X E 5 305 [(4, .int r_238), (0, .ref (eb E + 91)), (1, .int b1), (2, .int b2), (3, .int b3)] [.int (if mem 101 (ix b1) = 0 then (0 : Int32) else 1), .int b1, .ref (eb E + 101)] SH mem) (fun hj => ?_) ?_
                    · refine j_if_eq S D_M_takesE_297 (fun c_297 => ?_) (fun c_297 => ?_)
                      · refine j_iconst S D_M_takesE_304 ci_0 ?_
                        exact j_jnT hj c_297
                      · refine j_iconst S D_M_takesE_300 ci_1 ?_
                        refine j_goto S D_M_takesE_301 ?_
                        exact j_jnF hj c_297
                    obtain ⟨m_305, hm_305, h⟩ := ltE h
                    refine j_zast S D_M_takesE_305 sh_101 g_296 (isb_vn (isb_ite isb0 isb1)) ?_
                    refine j_mem hm_305 ?_
                    refine j_aload_n S D_M_takesE_306 1 rfl rfl ?_
                    refine j_iload S D_M_takesE_307 0 rfl ?_
                    obtain ⟨r_309, e_309, h⟩ := bpE h
                    refine j_callSI (As := [.int r_238]) S D_M_takesE_309 ms_R6_210 (c_M_rank (cxL X) E r_238 (mem := m_305) e_309) (by decide) rfl rfl (Nat.le_of_ble_eq_true rfl) ?_
                    obtain ⟨m_312, e_312, h⟩ := bpE h
                    refine j_callVV (As := [.int r_309]) S D_M_takesE_312 mv_R6_222 (c_M_settle (cxL X) E N r_309 e_312) (by decide) sh_Mod rfl rfl rfl rfl (Nat.le_of_ble_eq_true rfl) ?_
                    refine j_aload_n S D_M_takesE_315 1 rfl rfl ?_
                    refine j_getR S D_M_takesE_316 fl_R6_39 sh_Mod rfl ?_
                    refine j_aload_n S D_M_takesE_319 1 rfl rfl ?_
                    refine j_getI S D_M_takesE_320 fl_R6_207 sh_Mod rfl ?_
                    refine j_iload S D_M_takesE_323 0 rfl ?_
                    obtain ⟨g_325, h⟩ := gdE h
                    obtain ⟨m_325, hm_325, h⟩ := ltE h
                    refine j_iast S D_M_takesE_325 sh_100 g_325 ?_
                    refine j_mem hm_325 ?_
                    refine j_aload_n S D_M_takesE_326 1 rfl rfl ?_
                    refine j_dup S D_M_takesE_327 rfl ?_
                    refine j_getI S D_M_takesE_328 fl_R6_207 sh_Mod rfl ?_
                    refine j_iconst S D_M_takesE_331 ci_1 ?_
                    refine j_iadd S D_M_takesE_332 ?_
                    obtain ⟨m_333, hm_333, h⟩ := ltE h
                    refine j_putI S D_M_takesE_333 fp_R6_207 sh_Mod rfl ?_
                    refine j_mem hm_333 ?_
                    refine j_iconst S D_M_takesE_336 ci_1 ?_
                    refine j_istore_n S D_M_takesE_337 (lv := [(3, .int 1), (4, .int r_238), (0, .ref (eb E + 91)), (1, .int b1), (2, .int b2)]) rfl ⟨rfl, (Nat.le_of_ble_eq_true rfl)⟩ ?_
                    refine j_aload_n S D_M_takesE_338 2 rfl rfl ?_
                    obtain ⟨m_339, e_339, h⟩ := bpE h
                    refine j_callVV (As := []) S D_M_takesE_339 mv_R6_204 (c_M_go (cxL X) E N e_339) (by decide) sh_Mod rfl rfl rfl rfl (Nat.le_of_ble_eq_true rfl) ?_
                    refine j_goto S D_M_takesE_342 ?_
                    refine j_locals [2, 3, 4, 0] rfl (ih b1 b2 1 m_339 h)
              · have h := ifT c_254 h
                refine j_aload_n S D_M_takesE_257 1 rfl rfl ?_
                refine j_getR S D_M_takesE_258 fl_R6_42 sh_Mod rfl ?_
                refine j_iload_n S D_M_takesE_261 2 rfl rfl ?_
                obtain ⟨g_262, h⟩ := gdE h
                refine j_zald S D_M_takesE_262 sh_101 g_262 ?_
                refine j_if_eq S D_M_takesE_263 (fun c_263 => ?_) (fun c_263 => ?_)
                · have h := ifT c_263 h
                  refine j_aload_n S D_M_takesE_268 1 rfl rfl ?_
                  refine j_getR S D_M_takesE_269 fl_R6_42 sh_Mod rfl ?_
                  refine j_iload_n S D_M_takesE_272 2 rfl rfl ?_
                  refine j_iload S D_M_takesE_273 0 rfl ?_
                  obtain ⟨r_275, e_275, h⟩ := bpE h
                  refine j_callSI (As := [.int r_238]) S D_M_takesE_275 ms_R6_210 (c_M_rank (cxL X) E r_238 (mem := mem) e_275) (by decide) rfl rfl (Nat.le_of_ble_eq_true rfl) ?_
                  refine j_iconst S D_M_takesE_278 ci_3 ?_
                  refine j_icmp_eq S D_M_takesE_279 (fun c_279 => ?_) (fun c_279 => ?_)
                  · have h := ifT c_279 h
                    refine j_iconst S D_M_takesE_300 ci_1 ?_
                    refine j_goto S D_M_takesE_301 ?_
                    obtain ⟨m_305, hm_305, h⟩ := ltE h
                    refine j_zast S D_M_takesE_305 sh_101 g_262 (isb_vn isb1) ?_
                    refine j_mem hm_305 ?_
                    refine j_aload_n S D_M_takesE_306 1 rfl rfl ?_
                    refine j_iload S D_M_takesE_307 0 rfl ?_
                    obtain ⟨r_309, e_309, h⟩ := bpE h
                    refine j_callSI (As := [.int r_238]) S D_M_takesE_309 ms_R6_210 (c_M_rank (cxL X) E r_238 (mem := m_305) e_309) (by decide) rfl rfl (Nat.le_of_ble_eq_true rfl) ?_
                    obtain ⟨m_312, e_312, h⟩ := bpE h
                    refine j_callVV (As := [.int r_309]) S D_M_takesE_312 mv_R6_222 (c_M_settle (cxL X) E N r_309 e_312) (by decide) sh_Mod rfl rfl rfl rfl (Nat.le_of_ble_eq_true rfl) ?_
                    refine j_aload_n S D_M_takesE_315 1 rfl rfl ?_
                    refine j_getR S D_M_takesE_316 fl_R6_39 sh_Mod rfl ?_
                    refine j_aload_n S D_M_takesE_319 1 rfl rfl ?_
                    refine j_getI S D_M_takesE_320 fl_R6_207 sh_Mod rfl ?_
                    refine j_iload S D_M_takesE_323 0 rfl ?_
                    obtain ⟨g_325, h⟩ := gdE h
                    obtain ⟨m_325, hm_325, h⟩ := ltE h
                    refine j_iast S D_M_takesE_325 sh_100 g_325 ?_
                    refine j_mem hm_325 ?_
                    refine j_aload_n S D_M_takesE_326 1 rfl rfl ?_
                    refine j_dup S D_M_takesE_327 rfl ?_
                    refine j_getI S D_M_takesE_328 fl_R6_207 sh_Mod rfl ?_
                    refine j_iconst S D_M_takesE_331 ci_1 ?_
                    refine j_iadd S D_M_takesE_332 ?_
                    obtain ⟨m_333, hm_333, h⟩ := ltE h
                    refine j_putI S D_M_takesE_333 fp_R6_207 sh_Mod rfl ?_
                    refine j_mem hm_333 ?_
                    refine j_iconst S D_M_takesE_336 ci_1 ?_
                    refine j_istore_n S D_M_takesE_337 (lv := [(3, .int 1), (4, .int r_238), (0, .ref (eb E + 91)), (1, .int b1), (2, .int b2)]) rfl ⟨rfl, (Nat.le_of_ble_eq_true rfl)⟩ ?_
                    refine j_aload_n S D_M_takesE_338 2 rfl rfl ?_
                    obtain ⟨m_339, e_339, h⟩ := bpE h
                    refine j_callVV (As := []) S D_M_takesE_339 mv_R6_204 (c_M_go (cxL X) E N e_339) (by decide) sh_Mod rfl rfl rfl rfl (Nat.le_of_ble_eq_true rfl) ?_
                    refine j_goto S D_M_takesE_342 ?_
                    refine j_locals [2, 3, 4, 0] rfl (ih b1 b2 1 m_339 h)
                  · have h := ifF c_279 h
                    refine j_iload S D_M_takesE_282 0 rfl ?_
                    obtain ⟨r_284, e_284, h⟩ := bpE h
                    refine j_callSI (As := [.int r_238]) S D_M_takesE_284 ms_R6_210 (c_M_rank (cxL X) E r_238 (mem := mem) e_284) (by decide) rfl rfl (Nat.le_of_ble_eq_true rfl) ?_
                    refine j_iconst S D_M_takesE_287 ci_3 ?_
                    refine j_dia (P := J X E 5 305 [(4, .int r_238), (0, .ref (eb E + 91)), (1, .int b1), (2, .int b2), (3, .int b3)] [.int (if r_284 ≤ 3 then (0 : Int32) else if mem 101 (ix b1) = 0 then (0 : Int32) else 1), .int b1, .ref (eb E + 101)] SH mem) (fun hj => ?_) ?_
                    · refine j_icmp_le S D_M_takesE_288 (fun c_288 => ?_) (fun c_288 => ?_)
                      · refine j_iconst S D_M_takesE_304 ci_0 ?_
                        exact j_jnT hj c_288
                      · refine j_aload_n S D_M_takesE_291 1 rfl rfl ?_
                        refine j_getR S D_M_takesE_292 fl_R6_42 sh_Mod rfl ?_
                        refine j_iload_n S D_M_takesE_295 2 rfl rfl ?_
                        refine j_zald S D_M_takesE_296 sh_101 g_262 ?_
                        refine j_dia (P := J X E 5 305 [(4, .int r_238), (0, .ref (eb E + 91)), (1, .int b1), (2, .int b2), (3, .int b3)] [.int (if mem 101 (ix b1) = 0 then (0 : Int32) else 1), .int b1, .ref (eb E + 101)] SH mem) (fun hj => ?_) ?_
                        · refine j_if_eq S D_M_takesE_297 (fun c_297 => ?_) (fun c_297 => ?_)
                          · refine j_iconst S D_M_takesE_304 ci_0 ?_
                            exact j_jnT hj c_297
                          · refine j_iconst S D_M_takesE_300 ci_1 ?_
                            refine j_goto S D_M_takesE_301 ?_
                            exact j_jnF hj c_297
                        exact j_jnF hj c_288
                    obtain ⟨m_305, hm_305, h⟩ := ltE h
                    refine j_zast S D_M_takesE_305 sh_101 g_262 (isb_vn (isb_ite isb0 (isb_ite isb0 isb1))) ?_
                    refine j_mem hm_305 ?_
                    refine j_aload_n S D_M_takesE_306 1 rfl rfl ?_
                    refine j_iload S D_M_takesE_307 0 rfl ?_
                    obtain ⟨r_309, e_309, h⟩ := bpE h
                    refine j_callSI (As := [.int r_238]) S D_M_takesE_309 ms_R6_210 (c_M_rank (cxL X) E r_238 (mem := m_305) e_309) (by decide) rfl rfl (Nat.le_of_ble_eq_true rfl) ?_
                    obtain ⟨m_312, e_312, h⟩ := bpE h
                    refine j_callVV (As := [.int r_309]) S D_M_takesE_312 mv_R6_222 (c_M_settle (cxL X) E N r_309 e_312) (by decide) sh_Mod rfl rfl rfl rfl (Nat.le_of_ble_eq_true rfl) ?_
                    refine j_aload_n S D_M_takesE_315 1 rfl rfl ?_
                    refine j_getR S D_M_takesE_316 fl_R6_39 sh_Mod rfl ?_
                    refine j_aload_n S D_M_takesE_319 1 rfl rfl ?_
                    refine j_getI S D_M_takesE_320 fl_R6_207 sh_Mod rfl ?_
                    refine j_iload S D_M_takesE_323 0 rfl ?_
                    obtain ⟨g_325, h⟩ := gdE h
                    obtain ⟨m_325, hm_325, h⟩ := ltE h
                    refine j_iast S D_M_takesE_325 sh_100 g_325 ?_
                    refine j_mem hm_325 ?_
                    refine j_aload_n S D_M_takesE_326 1 rfl rfl ?_
                    refine j_dup S D_M_takesE_327 rfl ?_
                    refine j_getI S D_M_takesE_328 fl_R6_207 sh_Mod rfl ?_
                    refine j_iconst S D_M_takesE_331 ci_1 ?_
                    refine j_iadd S D_M_takesE_332 ?_
                    obtain ⟨m_333, hm_333, h⟩ := ltE h
                    refine j_putI S D_M_takesE_333 fp_R6_207 sh_Mod rfl ?_
                    refine j_mem hm_333 ?_
                    refine j_iconst S D_M_takesE_336 ci_1 ?_
                    refine j_istore_n S D_M_takesE_337 (lv := [(3, .int 1), (4, .int r_238), (0, .ref (eb E + 91)), (1, .int b1), (2, .int b2)]) rfl ⟨rfl, (Nat.le_of_ble_eq_true rfl)⟩ ?_
                    refine j_aload_n S D_M_takesE_338 2 rfl rfl ?_
                    obtain ⟨m_339, e_339, h⟩ := bpE h
                    refine j_callVV (As := []) S D_M_takesE_339 mv_R6_204 (c_M_go (cxL X) E N e_339) (by decide) sh_Mod rfl rfl rfl rfl (Nat.le_of_ble_eq_true rfl) ?_
                    refine j_goto S D_M_takesE_342 ?_
                    refine j_locals [2, 3, 4, 0] rfl (ih b1 b2 1 m_339 h)
                · have h := ifF c_263 h
                  refine j_iconst S D_M_takesE_266 ci_0 ?_
                  exact rtMZ hR h isb0 _ _ D_M_takesE_267
          · have h := ifT c_194 h
            refine j_iload_n S D_M_takesE_197 1 rfl rfl ?_
            refine j_if_le S D_M_takesE_198 (fun c_198 => ?_) (fun c_198 => ?_)
            · have h := ifT c_198 h
              refine j_aload_n S D_M_takesE_237 0 rfl rfl ?_
              obtain ⟨r_238, e_238, h⟩ := bpE h
              refine j_callVI (As := []) S D_M_takesE_238 mv_R6_232 (c_M_signHere (cxL X) E e_238) (by decide) sh_Mod rfl rfl rfl rfl (Nat.le_of_ble_eq_true rfl) ?_
              refine j_istore S D_M_takesE_241 (lv := [(4, .int r_238), (0, .ref (eb E + 91)), (1, .int b1), (2, .int b2), (3, .int b3)]) rfl (Nat.le_of_ble_eq_true rfl) ?_
              refine j_iload S D_M_takesE_243 0 rfl ?_
              refine j_if_eq S D_M_takesE_245 (fun c_245 => ?_) (fun c_245 => ?_)
              · have h := ifT c_245 h
                refine j_iconst S D_M_takesE_266 ci_0 ?_
                exact rtMZ hR h isb0 _ _ D_M_takesE_267
              · have h := ifF c_245 h
                refine j_iload S D_M_takesE_248 0 rfl ?_
                obtain ⟨r_250, e_250, h⟩ := bpE h
                refine j_callSI (As := [.int r_238]) S D_M_takesE_250 ms_R6_210 (c_M_rank (cxL X) E r_238 (mem := mem) e_250) (by decide) rfl rfl (Nat.le_of_ble_eq_true rfl) ?_
                refine j_iconst S D_M_takesE_253 ci_3 ?_
                refine j_icmp_ne S D_M_takesE_254 (fun c_254 => ?_) (fun c_254 => ?_)
                · have h := ifF c_254 h
                  refine j_aload_n S D_M_takesE_268 1 rfl rfl ?_
                  refine j_getR S D_M_takesE_269 fl_R6_42 sh_Mod rfl ?_
                  refine j_iload_n S D_M_takesE_272 2 rfl rfl ?_
                  refine j_iload S D_M_takesE_273 0 rfl ?_
                  obtain ⟨r_275, e_275, h⟩ := bpE h
                  refine j_callSI (As := [.int r_238]) S D_M_takesE_275 ms_R6_210 (c_M_rank (cxL X) E r_238 (mem := mem) e_275) (by decide) rfl rfl (Nat.le_of_ble_eq_true rfl) ?_
                  refine j_iconst S D_M_takesE_278 ci_3 ?_
                  refine j_icmp_eq S D_M_takesE_279 (fun c_279 => ?_) (fun c_279 => ?_)
                  · have h := ifT c_279 h
                    refine j_iconst S D_M_takesE_300 ci_1 ?_
                    refine j_goto S D_M_takesE_301 ?_
                    obtain ⟨g_305, h⟩ := gdE h
                    obtain ⟨m_305, hm_305, h⟩ := ltE h
                    refine j_zast S D_M_takesE_305 sh_101 g_305 (isb_vn isb1) ?_
                    refine j_mem hm_305 ?_
                    refine j_aload_n S D_M_takesE_306 1 rfl rfl ?_
                    refine j_iload S D_M_takesE_307 0 rfl ?_
                    obtain ⟨r_309, e_309, h⟩ := bpE h
                    refine j_callSI (As := [.int r_238]) S D_M_takesE_309 ms_R6_210 (c_M_rank (cxL X) E r_238 (mem := m_305) e_309) (by decide) rfl rfl (Nat.le_of_ble_eq_true rfl) ?_
                    obtain ⟨m_312, e_312, h⟩ := bpE h
                    refine j_callVV (As := [.int r_309]) S D_M_takesE_312 mv_R6_222 (c_M_settle (cxL X) E N r_309 e_312) (by decide) sh_Mod rfl rfl rfl rfl (Nat.le_of_ble_eq_true rfl) ?_
                    refine j_aload_n S D_M_takesE_315 1 rfl rfl ?_
                    refine j_getR S D_M_takesE_316 fl_R6_39 sh_Mod rfl ?_
                    refine j_aload_n S D_M_takesE_319 1 rfl rfl ?_
                    refine j_getI S D_M_takesE_320 fl_R6_207 sh_Mod rfl ?_
                    refine j_iload S D_M_takesE_323 0 rfl ?_
                    obtain ⟨g_325, h⟩ := gdE h
                    obtain ⟨m_325, hm_325, h⟩ := ltE h
                    refine j_iast S D_M_takesE_325 sh_100 g_325 ?_
                    refine j_mem hm_325 ?_
                    refine j_aload_n S D_M_takesE_326 1 rfl rfl ?_
                    refine j_dup S D_M_takesE_327 rfl ?_
                    refine j_getI S D_M_takesE_328 fl_R6_207 sh_Mod rfl ?_
                    refine j_iconst S D_M_takesE_331 ci_1 ?_
                    refine j_iadd S D_M_takesE_332 ?_
                    obtain ⟨m_333, hm_333, h⟩ := ltE h
                    refine j_putI S D_M_takesE_333 fp_R6_207 sh_Mod rfl ?_
                    refine j_mem hm_333 ?_
                    refine j_iconst S D_M_takesE_336 ci_1 ?_
                    refine j_istore_n S D_M_takesE_337 (lv := [(3, .int 1), (4, .int r_238), (0, .ref (eb E + 91)), (1, .int b1), (2, .int b2)]) rfl ⟨rfl, (Nat.le_of_ble_eq_true rfl)⟩ ?_
                    refine j_aload_n S D_M_takesE_338 2 rfl rfl ?_
                    obtain ⟨m_339, e_339, h⟩ := bpE h
                    refine j_callVV (As := []) S D_M_takesE_339 mv_R6_204 (c_M_go (cxL X) E N e_339) (by decide) sh_Mod rfl rfl rfl rfl (Nat.le_of_ble_eq_true rfl) ?_
                    refine j_goto S D_M_takesE_342 ?_
                    refine j_locals [2, 3, 4, 0] rfl (ih b1 b2 1 m_339 h)
                  · have h := ifF c_279 h
                    refine j_iload S D_M_takesE_282 0 rfl ?_
                    obtain ⟨r_284, e_284, h⟩ := bpE h
                    refine j_callSI (As := [.int r_238]) S D_M_takesE_284 ms_R6_210 (c_M_rank (cxL X) E r_238 (mem := mem) e_284) (by decide) rfl rfl (Nat.le_of_ble_eq_true rfl) ?_
                    refine j_iconst S D_M_takesE_287 ci_3 ?_
                    refine j_icmp_le S D_M_takesE_288 (fun c_288 => ?_) (fun c_288 => ?_)
                    · have h := ifT c_288 h
                      refine j_iconst S D_M_takesE_304 ci_0 ?_
                      obtain ⟨g_305, h⟩ := gdE h
                      obtain ⟨m_305, hm_305, h⟩ := ltE h
                      refine j_zast S D_M_takesE_305 sh_101 g_305 (isb_vn isb0) ?_
                      refine j_mem hm_305 ?_
                      refine j_aload_n S D_M_takesE_306 1 rfl rfl ?_
                      refine j_iload S D_M_takesE_307 0 rfl ?_
                      obtain ⟨r_309, e_309, h⟩ := bpE h
                      refine j_callSI (As := [.int r_238]) S D_M_takesE_309 ms_R6_210 (c_M_rank (cxL X) E r_238 (mem := m_305) e_309) (by decide) rfl rfl (Nat.le_of_ble_eq_true rfl) ?_
                      obtain ⟨m_312, e_312, h⟩ := bpE h
                      refine j_callVV (As := [.int r_309]) S D_M_takesE_312 mv_R6_222 (c_M_settle (cxL X) E N r_309 e_312) (by decide) sh_Mod rfl rfl rfl rfl (Nat.le_of_ble_eq_true rfl) ?_
                      refine j_aload_n S D_M_takesE_315 1 rfl rfl ?_
                      refine j_getR S D_M_takesE_316 fl_R6_39 sh_Mod rfl ?_
                      refine j_aload_n S D_M_takesE_319 1 rfl rfl ?_
                      refine j_getI S D_M_takesE_320 fl_R6_207 sh_Mod rfl ?_
                      refine j_iload S D_M_takesE_323 0 rfl ?_
                      obtain ⟨g_325, h⟩ := gdE h
                      obtain ⟨m_325, hm_325, h⟩ := ltE h
                      refine j_iast S D_M_takesE_325 sh_100 g_325 ?_
                      refine j_mem hm_325 ?_
                      refine j_aload_n S D_M_takesE_326 1 rfl rfl ?_
                      refine j_dup S D_M_takesE_327 rfl ?_
                      refine j_getI S D_M_takesE_328 fl_R6_207 sh_Mod rfl ?_
                      refine j_iconst S D_M_takesE_331 ci_1 ?_
                      refine j_iadd S D_M_takesE_332 ?_
                      obtain ⟨m_333, hm_333, h⟩ := ltE h
                      refine j_putI S D_M_takesE_333 fp_R6_207 sh_Mod rfl ?_
                      refine j_mem hm_333 ?_
                      refine j_iconst S D_M_takesE_336 ci_1 ?_
                      refine j_istore_n S D_M_takesE_337 (lv := [(3, .int 1), (4, .int r_238), (0, .ref (eb E + 91)), (1, .int b1), (2, .int b2)]) rfl ⟨rfl, (Nat.le_of_ble_eq_true rfl)⟩ ?_
                      refine j_aload_n S D_M_takesE_338 2 rfl rfl ?_
                      obtain ⟨m_339, e_339, h⟩ := bpE h
                      refine j_callVV (As := []) S D_M_takesE_339 mv_R6_204 (c_M_go (cxL X) E N e_339) (by decide) sh_Mod rfl rfl rfl rfl (Nat.le_of_ble_eq_true rfl) ?_
                      refine j_goto S D_M_takesE_342 ?_
                      refine j_locals [2, 3, 4, 0] rfl (ih b1 b2 1 m_339 h)
                    · have h := ifF c_288 h
                      refine j_aload_n S D_M_takesE_291 1 rfl rfl ?_
                      refine j_getR S D_M_takesE_292 fl_R6_42 sh_Mod rfl ?_
                      refine j_iload_n S D_M_takesE_295 2 rfl rfl ?_
                      obtain ⟨g_296, h⟩ := gdE h
                      refine j_zald S D_M_takesE_296 sh_101 g_296 ?_
                      refine j_dia (P := J X E 5 305 [(4, .int r_238), (0, .ref (eb E + 91)), (1, .int b1), (2, .int b2), (3, .int b3)] [.int (if mem 101 (ix b1) = 0 then (0 : Int32) else 1), .int b1, .ref (eb E + 101)] SH mem) (fun hj => ?_) ?_
                      · refine j_if_eq S D_M_takesE_297 (fun c_297 => ?_) (fun c_297 => ?_)
                        · refine j_iconst S D_M_takesE_304 ci_0 ?_
                          exact j_jnT hj c_297
                        · refine j_iconst S D_M_takesE_300 ci_1 ?_
                          refine j_goto S D_M_takesE_301 ?_
                          exact j_jnF hj c_297
                      obtain ⟨m_305, hm_305, h⟩ := ltE h
                      refine j_zast S D_M_takesE_305 sh_101 g_296 (isb_vn (isb_ite isb0 isb1)) ?_
                      refine j_mem hm_305 ?_
                      refine j_aload_n S D_M_takesE_306 1 rfl rfl ?_
                      refine j_iload S D_M_takesE_307 0 rfl ?_
                      obtain ⟨r_309, e_309, h⟩ := bpE h
                      refine j_callSI (As := [.int r_238]) S D_M_takesE_309 ms_R6_210 (c_M_rank (cxL X) E r_238 (mem := m_305) e_309) (by decide) rfl rfl (Nat.le_of_ble_eq_true rfl) ?_
                      obtain ⟨m_312, e_312, h⟩ := bpE h
                      refine j_callVV (As := [.int r_309]) S D_M_takesE_312 mv_R6_222 (c_M_settle (cxL X) E N r_309 e_312) (by decide) sh_Mod rfl rfl rfl rfl (Nat.le_of_ble_eq_true rfl) ?_
                      refine j_aload_n S D_M_takesE_315 1 rfl rfl ?_
                      refine j_getR S D_M_takesE_316 fl_R6_39 sh_Mod rfl ?_
                      refine j_aload_n S D_M_takesE_319 1 rfl rfl ?_
                      refine j_getI S D_M_takesE_320 fl_R6_207 sh_Mod rfl ?_
                      refine j_iload S D_M_takesE_323 0 rfl ?_
                      obtain ⟨g_325, h⟩ := gdE h
                      obtain ⟨m_325, hm_325, h⟩ := ltE h
                      refine j_iast S D_M_takesE_325 sh_100 g_325 ?_
                      refine j_mem hm_325 ?_
                      refine j_aload_n S D_M_takesE_326 1 rfl rfl ?_
                      refine j_dup S D_M_takesE_327 rfl ?_
                      refine j_getI S D_M_takesE_328 fl_R6_207 sh_Mod rfl ?_
                      refine j_iconst S D_M_takesE_331 ci_1 ?_
                      refine j_iadd S D_M_takesE_332 ?_
                      obtain ⟨m_333, hm_333, h⟩ := ltE h
                      refine j_putI S D_M_takesE_333 fp_R6_207 sh_Mod rfl ?_
                      refine j_mem hm_333 ?_
                      refine j_iconst S D_M_takesE_336 ci_1 ?_
                      refine j_istore_n S D_M_takesE_337 (lv := [(3, .int 1), (4, .int r_238), (0, .ref (eb E + 91)), (1, .int b1), (2, .int b2)]) rfl ⟨rfl, (Nat.le_of_ble_eq_true rfl)⟩ ?_
                      refine j_aload_n S D_M_takesE_338 2 rfl rfl ?_
                      obtain ⟨m_339, e_339, h⟩ := bpE h
                      refine j_callVV (As := []) S D_M_takesE_339 mv_R6_204 (c_M_go (cxL X) E N e_339) (by decide) sh_Mod rfl rfl rfl rfl (Nat.le_of_ble_eq_true rfl) ?_
                      refine j_goto S D_M_takesE_342 ?_
                      refine j_locals [2, 3, 4, 0] rfl (ih b1 b2 1 m_339 h)
                · have h := ifT c_254 h
                  refine j_aload_n S D_M_takesE_257 1 rfl rfl ?_
                  refine j_getR S D_M_takesE_258 fl_R6_42 sh_Mod rfl ?_
                  refine j_iload_n S D_M_takesE_261 2 rfl rfl ?_
                  obtain ⟨g_262, h⟩ := gdE h
                  refine j_zald S D_M_takesE_262 sh_101 g_262 ?_
                  refine j_if_eq S D_M_takesE_263 (fun c_263 => ?_) (fun c_263 => ?_)
                  · have h := ifT c_263 h
                    refine j_aload_n S D_M_takesE_268 1 rfl rfl ?_
                    refine j_getR S D_M_takesE_269 fl_R6_42 sh_Mod rfl ?_
                    refine j_iload_n S D_M_takesE_272 2 rfl rfl ?_
                    refine j_iload S D_M_takesE_273 0 rfl ?_
                    obtain ⟨r_275, e_275, h⟩ := bpE h
                    refine j_callSI (As := [.int r_238]) S D_M_takesE_275 ms_R6_210 (c_M_rank (cxL X) E r_238 (mem := mem) e_275) (by decide) rfl rfl (Nat.le_of_ble_eq_true rfl) ?_
                    refine j_iconst S D_M_takesE_278 ci_3 ?_
                    refine j_icmp_eq S D_M_takesE_279 (fun c_279 => ?_) (fun c_279 => ?_)
                    · have h := ifT c_279 h
                      refine j_iconst S D_M_takesE_300 ci_1 ?_
                      refine j_goto S D_M_takesE_301 ?_
                      obtain ⟨m_305, hm_305, h⟩ := ltE h
                      refine j_zast S D_M_takesE_305 sh_101 g_262 (isb_vn isb1) ?_
                      refine j_mem hm_305 ?_
                      refine j_aload_n S D_M_takesE_306 1 rfl rfl ?_
                      refine j_iload S D_M_takesE_307 0 rfl ?_
                      obtain ⟨r_309, e_309, h⟩ := bpE h
                      refine j_callSI (As := [.int r_238]) S D_M_takesE_309 ms_R6_210 (c_M_rank (cxL X) E r_238 (mem := m_305) e_309) (by decide) rfl rfl (Nat.le_of_ble_eq_true rfl) ?_
                      obtain ⟨m_312, e_312, h⟩ := bpE h
                      refine j_callVV (As := [.int r_309]) S D_M_takesE_312 mv_R6_222 (c_M_settle (cxL X) E N r_309 e_312) (by decide) sh_Mod rfl rfl rfl rfl (Nat.le_of_ble_eq_true rfl) ?_
                      refine j_aload_n S D_M_takesE_315 1 rfl rfl ?_
                      refine j_getR S D_M_takesE_316 fl_R6_39 sh_Mod rfl ?_
                      refine j_aload_n S D_M_takesE_319 1 rfl rfl ?_
                      refine j_getI S D_M_takesE_320 fl_R6_207 sh_Mod rfl ?_
                      refine j_iload S D_M_takesE_323 0 rfl ?_
                      obtain ⟨g_325, h⟩ := gdE h
                      obtain ⟨m_325, hm_325, h⟩ := ltE h
                      refine j_iast S D_M_takesE_325 sh_100 g_325 ?_
                      refine j_mem hm_325 ?_
                      refine j_aload_n S D_M_takesE_326 1 rfl rfl ?_
                      refine j_dup S D_M_takesE_327 rfl ?_
                      refine j_getI S D_M_takesE_328 fl_R6_207 sh_Mod rfl ?_
                      refine j_iconst S D_M_takesE_331 ci_1 ?_
                      refine j_iadd S D_M_takesE_332 ?_
                      obtain ⟨m_333, hm_333, h⟩ := ltE h
                      refine j_putI S D_M_takesE_333 fp_R6_207 sh_Mod rfl ?_
                      refine j_mem hm_333 ?_
                      refine j_iconst S D_M_takesE_336 ci_1 ?_
                      refine j_istore_n S D_M_takesE_337 (lv := [(3, .int 1), (4, .int r_238), (0, .ref (eb E + 91)), (1, .int b1), (2, .int b2)]) rfl ⟨rfl, (Nat.le_of_ble_eq_true rfl)⟩ ?_
                      refine j_aload_n S D_M_takesE_338 2 rfl rfl ?_
                      obtain ⟨m_339, e_339, h⟩ := bpE h
                      refine j_callVV (As := []) S D_M_takesE_339 mv_R6_204 (c_M_go (cxL X) E N e_339) (by decide) sh_Mod rfl rfl rfl rfl (Nat.le_of_ble_eq_true rfl) ?_
                      refine j_goto S D_M_takesE_342 ?_
                      refine j_locals [2, 3, 4, 0] rfl (ih b1 b2 1 m_339 h)
                    · have h := ifF c_279 h
                      refine j_iload S D_M_takesE_282 0 rfl ?_
                      obtain ⟨r_284, e_284, h⟩ := bpE h
                      refine j_callSI (As := [.int r_238]) S D_M_takesE_284 ms_R6_210 (c_M_rank (cxL X) E r_238 (mem := mem) e_284) (by decide) rfl rfl (Nat.le_of_ble_eq_true rfl) ?_
                      refine j_iconst S D_M_takesE_287 ci_3 ?_
                      refine j_dia (P := J X E 5 305 [(4, .int r_238), (0, .ref (eb E + 91)), (1, .int b1), (2, .int b2), (3, .int b3)] [.int (if r_284 ≤ 3 then (0 : Int32) else if mem 101 (ix b1) = 0 then (0 : Int32) else 1), .int b1, .ref (eb E + 101)] SH mem) (fun hj => ?_) ?_
                      · refine j_icmp_le S D_M_takesE_288 (fun c_288 => ?_) (fun c_288 => ?_)
                        · refine j_iconst S D_M_takesE_304 ci_0 ?_
                          exact j_jnT hj c_288
                        · refine j_aload_n S D_M_takesE_291 1 rfl rfl ?_
                          refine j_getR S D_M_takesE_292 fl_R6_42 sh_Mod rfl ?_
                          refine j_iload_n S D_M_takesE_295 2 rfl rfl ?_
                          refine j_zald S D_M_takesE_296 sh_101 g_262 ?_
                          refine j_dia (P := J X E 5 305 [(4, .int r_238), (0, .ref (eb E + 91)), (1, .int b1), (2, .int b2), (3, .int b3)] [.int (if mem 101 (ix b1) = 0 then (0 : Int32) else 1), .int b1, .ref (eb E + 101)] SH mem) (fun hj => ?_) ?_
                          · refine j_if_eq S D_M_takesE_297 (fun c_297 => ?_) (fun c_297 => ?_)
                            · refine j_iconst S D_M_takesE_304 ci_0 ?_
                              exact j_jnT hj c_297
                            · refine j_iconst S D_M_takesE_300 ci_1 ?_
                              refine j_goto S D_M_takesE_301 ?_
                              exact j_jnF hj c_297
                          exact j_jnF hj c_288
                      obtain ⟨m_305, hm_305, h⟩ := ltE h
                      refine j_zast S D_M_takesE_305 sh_101 g_262 (isb_vn (isb_ite isb0 (isb_ite isb0 isb1))) ?_
                      refine j_mem hm_305 ?_
                      refine j_aload_n S D_M_takesE_306 1 rfl rfl ?_
                      refine j_iload S D_M_takesE_307 0 rfl ?_
                      obtain ⟨r_309, e_309, h⟩ := bpE h
                      refine j_callSI (As := [.int r_238]) S D_M_takesE_309 ms_R6_210 (c_M_rank (cxL X) E r_238 (mem := m_305) e_309) (by decide) rfl rfl (Nat.le_of_ble_eq_true rfl) ?_
                      obtain ⟨m_312, e_312, h⟩ := bpE h
                      refine j_callVV (As := [.int r_309]) S D_M_takesE_312 mv_R6_222 (c_M_settle (cxL X) E N r_309 e_312) (by decide) sh_Mod rfl rfl rfl rfl (Nat.le_of_ble_eq_true rfl) ?_
                      refine j_aload_n S D_M_takesE_315 1 rfl rfl ?_
                      refine j_getR S D_M_takesE_316 fl_R6_39 sh_Mod rfl ?_
                      refine j_aload_n S D_M_takesE_319 1 rfl rfl ?_
                      refine j_getI S D_M_takesE_320 fl_R6_207 sh_Mod rfl ?_
                      refine j_iload S D_M_takesE_323 0 rfl ?_
                      obtain ⟨g_325, h⟩ := gdE h
                      obtain ⟨m_325, hm_325, h⟩ := ltE h
                      refine j_iast S D_M_takesE_325 sh_100 g_325 ?_
                      refine j_mem hm_325 ?_
                      refine j_aload_n S D_M_takesE_326 1 rfl rfl ?_
                      refine j_dup S D_M_takesE_327 rfl ?_
                      refine j_getI S D_M_takesE_328 fl_R6_207 sh_Mod rfl ?_
                      refine j_iconst S D_M_takesE_331 ci_1 ?_
                      refine j_iadd S D_M_takesE_332 ?_
                      obtain ⟨m_333, hm_333, h⟩ := ltE h
                      refine j_putI S D_M_takesE_333 fp_R6_207 sh_Mod rfl ?_
                      refine j_mem hm_333 ?_
                      refine j_iconst S D_M_takesE_336 ci_1 ?_
                      refine j_istore_n S D_M_takesE_337 (lv := [(3, .int 1), (4, .int r_238), (0, .ref (eb E + 91)), (1, .int b1), (2, .int b2)]) rfl ⟨rfl, (Nat.le_of_ble_eq_true rfl)⟩ ?_
                      refine j_aload_n S D_M_takesE_338 2 rfl rfl ?_
                      obtain ⟨m_339, e_339, h⟩ := bpE h
                      refine j_callVV (As := []) S D_M_takesE_339 mv_R6_204 (c_M_go (cxL X) E N e_339) (by decide) sh_Mod rfl rfl rfl rfl (Nat.le_of_ble_eq_true rfl) ?_
                      refine j_goto S D_M_takesE_342 ?_
                      refine j_locals [2, 3, 4, 0] rfl (ih b1 b2 1 m_339 h)
                  · have h := ifF c_263 h
                    refine j_iconst S D_M_takesE_266 ci_0 ?_
                    exact rtMZ hR h isb0 _ _ D_M_takesE_267
            · have h := ifF c_198 h
              refine j_aload_n S D_M_takesE_201 0 rfl rfl ?_
              refine j_iconst S D_M_takesE_202 ci_0 ?_
              obtain ⟨m_203, e_203, h⟩ := bpE h
              refine j_callVV (As := [.int 0]) S D_M_takesE_203 mv_R6_222 (c_M_settle (cxL X) E N 0 e_203) (by decide) sh_Mod rfl rfl rfl rfl (Nat.le_of_ble_eq_true rfl) ?_
              refine j_aload_n S D_M_takesE_206 0 rfl rfl ?_
              refine j_dup S D_M_takesE_207 rfl ?_
              refine j_getI S D_M_takesE_208 fl_R6_207 sh_Mod rfl ?_
              refine j_iconst S D_M_takesE_211 ci_1 ?_
              refine j_isub S D_M_takesE_212 ?_
              obtain ⟨m_213, hm_213, h⟩ := ltE h
              refine j_putI S D_M_takesE_213 fp_R6_207 sh_Mod rfl ?_
              refine j_mem hm_213 ?_
              refine j_iinc S D_M_takesE_216 1 rfl (congrArg (fun z => b1 + z) ci_m1) (lv := [(1, .int (b1 + (-1))), (0, .ref (eb E + 91)), (2, .int b2), (3, .int b3)]) rfl (Nat.le_of_ble_eq_true rfl) ?_
              refine j_aload_n S D_M_takesE_219 1 rfl rfl ?_
              refine j_bipush S D_M_takesE_220 cb_6 ?_
              obtain ⟨m_222, e_222, h⟩ := bpE h
              refine j_callVV (As := [.int 6]) S D_M_takesE_222 mv_R6_222 (c_M_settle (cxL X) E N 6 e_222) (by decide) sh_Mod rfl rfl rfl rfl (Nat.le_of_ble_eq_true rfl) ?_
              refine j_aload_n S D_M_takesE_225 1 rfl rfl ?_
              obtain ⟨r_226, e_226, h⟩ := bpE h
              refine j_callVI (As := []) S D_M_takesE_226 mv_R6_229 (c_M_notsOpen (cxL X) E N e_226) (by decide) sh_Mod rfl rfl rfl rfl (Nat.le_of_ble_eq_true rfl) ?_
              refine j_istore_n S D_M_takesE_229 (lv := [(2, .int r_226), (1, .int (b1 + (-1))), (0, .ref (eb E + 91)), (3, .int b3)]) rfl ⟨rfl, (Nat.le_of_ble_eq_true rfl)⟩ ?_
              refine j_aload_n S D_M_takesE_230 2 rfl rfl ?_
              obtain ⟨m_231, e_231, h⟩ := bpE h
              refine j_callVV (As := []) S D_M_takesE_231 mv_R6_204 (c_M_go (cxL X) E N e_231) (by decide) sh_Mod rfl rfl rfl rfl (Nat.le_of_ble_eq_true rfl) ?_
              refine j_goto S D_M_takesE_234 ?_
              refine j_locals [2, 1, 0, 3] rfl (ih (b1 + (-1)) r_226 b3 m_231 h)
      · have h := ifF c_40 h
        refine j_aload_n S D_M_takesE_43 0 rfl rfl ?_
        refine j_getI S D_M_takesE_44 fl_R6_189 sh_Mod rfl ?_
        refine j_iconst S D_M_takesE_47 ci_3 ?_
        refine j_icmp_ne S D_M_takesE_48 (fun c_48 => ?_) (fun c_48 => ?_)
        · have h := ifF c_48 h
          refine j_aload_n S D_M_takesE_97 0 rfl rfl ?_
          refine j_getI S D_M_takesE_98 fl_R6_189 sh_Mod rfl ?_
          refine j_iconst S D_M_takesE_101 ci_3 ?_
          refine j_icmp_ne S D_M_takesE_102 (fun c_102 => ?_) (fun c_102 => ?_)
          · have h := ifF c_102 h
            refine j_aload_n S D_M_takesE_158 0 rfl rfl ?_
            obtain ⟨r_159, m_159, e_159, h⟩ := bdE h
            refine j_callVI (As := []) S D_M_takesE_159 mv_R6_225 (c_M_takesPart (cxL X) E N e_159) (by decide) sh_Mod rfl rfl rfl rfl (Nat.le_of_ble_eq_true rfl) ?_
            refine j_if_eq S D_M_takesE_162 (fun c_162 => ?_) (fun c_162 => ?_)
            · have h := ifT c_162 h
              refine j_iconst S D_M_takesE_170 ci_0 ?_
              exact rtMZ hR h isb0 _ _ D_M_takesE_171
            · have h := ifF c_162 h
              refine j_iconst S D_M_takesE_165 ci_0 ?_
              refine j_istore_n S D_M_takesE_166 (lv := [(3, .int 0), (0, .ref (eb E + 91)), (1, .int b1), (2, .int b2)]) rfl ⟨rfl, (Nat.le_of_ble_eq_true rfl)⟩ ?_
              refine j_goto S D_M_takesE_167 ?_
              refine j_aload_n S D_M_takesE_172 1 rfl rfl ?_
              obtain ⟨r_173, e_173, h⟩ := bpE h
              refine j_callVI (As := []) S D_M_takesE_173 mv_R6_229 (c_M_notsOpen (cxL X) E N e_173) (by decide) sh_Mod rfl rfl rfl rfl (Nat.le_of_ble_eq_true rfl) ?_
              refine j_istore_n S D_M_takesE_176 (lv := [(2, .int r_173), (3, .int 0), (0, .ref (eb E + 91)), (1, .int b1)]) rfl ⟨rfl, (Nat.le_of_ble_eq_true rfl)⟩ ?_
              refine j_goto S D_M_takesE_177 ?_
              refine j_locals [2, 3, 0, 1] rfl (ih b1 r_173 0 m_159 h)
          · have h := ifT c_102 h
            refine j_aload_n S D_M_takesE_105 0 rfl rfl ?_
            refine j_getI S D_M_takesE_106 fl_R6_195 sh_Mod rfl ?_
            refine j_bipush S D_M_takesE_109 cb_40 ?_
            refine j_icmp_ne S D_M_takesE_111 (fun c_111 => ?_) (fun c_111 => ?_)
            · have h := ifF c_111 h
              refine j_aload_n S D_M_takesE_158 0 rfl rfl ?_
              obtain ⟨r_159, m_159, e_159, h⟩ := bdE h
              refine j_callVI (As := []) S D_M_takesE_159 mv_R6_225 (c_M_takesPart (cxL X) E N e_159) (by decide) sh_Mod rfl rfl rfl rfl (Nat.le_of_ble_eq_true rfl) ?_
              refine j_if_eq S D_M_takesE_162 (fun c_162 => ?_) (fun c_162 => ?_)
              · have h := ifT c_162 h
                refine j_iconst S D_M_takesE_170 ci_0 ?_
                exact rtMZ hR h isb0 _ _ D_M_takesE_171
              · have h := ifF c_162 h
                refine j_iconst S D_M_takesE_165 ci_0 ?_
                refine j_istore_n S D_M_takesE_166 (lv := [(3, .int 0), (0, .ref (eb E + 91)), (1, .int b1), (2, .int b2)]) rfl ⟨rfl, (Nat.le_of_ble_eq_true rfl)⟩ ?_
                refine j_goto S D_M_takesE_167 ?_
                refine j_aload_n S D_M_takesE_172 1 rfl rfl ?_
                obtain ⟨r_173, e_173, h⟩ := bpE h
                refine j_callVI (As := []) S D_M_takesE_173 mv_R6_229 (c_M_notsOpen (cxL X) E N e_173) (by decide) sh_Mod rfl rfl rfl rfl (Nat.le_of_ble_eq_true rfl) ?_
                refine j_istore_n S D_M_takesE_176 (lv := [(2, .int r_173), (3, .int 0), (0, .ref (eb E + 91)), (1, .int b1)]) rfl ⟨rfl, (Nat.le_of_ble_eq_true rfl)⟩ ?_
                refine j_goto S D_M_takesE_177 ?_
                refine j_locals [2, 3, 0, 1] rfl (ih b1 r_173 0 m_159 h)
            · have h := ifT c_111 h
              refine j_iload_n S D_M_takesE_114 1 rfl rfl ?_
              refine j_bipush S D_M_takesE_115 cb_8 ?_
              refine j_icmp_ge S D_M_takesE_117 (fun c_117 => ?_) (fun c_117 => ?_)
              · have h := ifT c_117 h
                refine j_aload_n S D_M_takesE_158 0 rfl rfl ?_
                obtain ⟨r_159, m_159, e_159, h⟩ := bdE h
                refine j_callVI (As := []) S D_M_takesE_159 mv_R6_225 (c_M_takesPart (cxL X) E N e_159) (by decide) sh_Mod rfl rfl rfl rfl (Nat.le_of_ble_eq_true rfl) ?_
                refine j_if_eq S D_M_takesE_162 (fun c_162 => ?_) (fun c_162 => ?_)
                · have h := ifT c_162 h
                  refine j_iconst S D_M_takesE_170 ci_0 ?_
                  exact rtMZ hR h isb0 _ _ D_M_takesE_171
                · have h := ifF c_162 h
                  refine j_iconst S D_M_takesE_165 ci_0 ?_
                  refine j_istore_n S D_M_takesE_166 (lv := [(3, .int 0), (0, .ref (eb E + 91)), (1, .int b1), (2, .int b2)]) rfl ⟨rfl, (Nat.le_of_ble_eq_true rfl)⟩ ?_
                  refine j_goto S D_M_takesE_167 ?_
                  refine j_aload_n S D_M_takesE_172 1 rfl rfl ?_
                  obtain ⟨r_173, e_173, h⟩ := bpE h
                  refine j_callVI (As := []) S D_M_takesE_173 mv_R6_229 (c_M_notsOpen (cxL X) E N e_173) (by decide) sh_Mod rfl rfl rfl rfl (Nat.le_of_ble_eq_true rfl) ?_
                  refine j_istore_n S D_M_takesE_176 (lv := [(2, .int r_173), (3, .int 0), (0, .ref (eb E + 91)), (1, .int b1)]) rfl ⟨rfl, (Nat.le_of_ble_eq_true rfl)⟩ ?_
                  refine j_goto S D_M_takesE_177 ?_
                  refine j_locals [2, 3, 0, 1] rfl (ih b1 r_173 0 m_159 h)
              · have h := ifF c_117 h
                refine j_aload_n S D_M_takesE_120 0 rfl rfl ?_
                refine j_getR S D_M_takesE_121 fl_R6_39 sh_Mod rfl ?_
                refine j_aload_n S D_M_takesE_124 0 rfl rfl ?_
                refine j_getI S D_M_takesE_125 fl_R6_207 sh_Mod rfl ?_
                refine j_bipush S D_M_takesE_128 cb_m11 ?_
                obtain ⟨g_130, h⟩ := gdE h
                obtain ⟨m_130, hm_130, h⟩ := ltE h
                refine j_iast S D_M_takesE_130 sh_100 g_130 ?_
                refine j_mem hm_130 ?_
                refine j_aload_n S D_M_takesE_131 0 rfl rfl ?_
                refine j_dup S D_M_takesE_132 rfl ?_
                refine j_getI S D_M_takesE_133 fl_R6_207 sh_Mod rfl ?_
                refine j_iconst S D_M_takesE_136 ci_1 ?_
                refine j_iadd S D_M_takesE_137 ?_
                obtain ⟨m_138, hm_138, h⟩ := ltE h
                refine j_putI S D_M_takesE_138 fp_R6_207 sh_Mod rfl ?_
                refine j_mem hm_138 ?_
                refine j_iinc S D_M_takesE_141 1 rfl (congrArg (fun z => b1 + z) ci_1) (lv := [(1, .int (b1 + 1)), (0, .ref (eb E + 91)), (2, .int b2), (3, .int b3)]) rfl (Nat.le_of_ble_eq_true rfl) ?_
                refine j_aload_n S D_M_takesE_144 1 rfl rfl ?_
                refine j_getR S D_M_takesE_145 fl_R6_42 sh_Mod rfl ?_
                refine j_iload_n S D_M_takesE_148 0 rfl rfl ?_
                refine j_iconst S D_M_takesE_149 ci_0 ?_
                obtain ⟨g_150, h⟩ := gdE h
                obtain ⟨m_150, hm_150, h⟩ := ltE h
                refine j_zast S D_M_takesE_150 sh_101 g_150 (isb_vn isb0) ?_
                refine j_mem hm_150 ?_
                refine j_aload_n S D_M_takesE_151 1 rfl rfl ?_
                obtain ⟨m_152, e_152, h⟩ := bpE h
                refine j_callVV (As := []) S D_M_takesE_152 mv_R6_204 (c_M_go (cxL X) E N e_152) (by decide) sh_Mod rfl rfl rfl rfl (Nat.le_of_ble_eq_true rfl) ?_
                refine j_goto S D_M_takesE_155 ?_
                refine j_aload_n S D_M_takesE_172 1 rfl rfl ?_
                obtain ⟨r_173, e_173, h⟩ := bpE h
                refine j_callVI (As := []) S D_M_takesE_173 mv_R6_229 (c_M_notsOpen (cxL X) E N e_173) (by decide) sh_Mod rfl rfl rfl rfl (Nat.le_of_ble_eq_true rfl) ?_
                refine j_istore_n S D_M_takesE_176 (lv := [(2, .int r_173), (1, .int (b1 + 1)), (0, .ref (eb E + 91)), (3, .int b3)]) rfl ⟨rfl, (Nat.le_of_ble_eq_true rfl)⟩ ?_
                refine j_goto S D_M_takesE_177 ?_
                refine j_locals [2, 1, 0, 3] rfl (ih (b1 + 1) r_173 b3 m_152 h)
        · have h := ifT c_48 h
          refine j_aload_n S D_M_takesE_51 0 rfl rfl ?_
          refine j_getI S D_M_takesE_52 fl_R6_195 sh_Mod rfl ?_
          refine j_bipush S D_M_takesE_55 cb_33 ?_
          refine j_icmp_ne S D_M_takesE_57 (fun c_57 => ?_) (fun c_57 => ?_)
          · have h := ifF c_57 h
            refine j_aload_n S D_M_takesE_97 0 rfl rfl ?_
            refine j_getI S D_M_takesE_98 fl_R6_189 sh_Mod rfl ?_
            refine j_iconst S D_M_takesE_101 ci_3 ?_
            refine j_icmp_ne S D_M_takesE_102 (fun c_102 => ?_) (fun c_102 => ?_)
            · have h := ifF c_102 h
              refine j_aload_n S D_M_takesE_158 0 rfl rfl ?_
              obtain ⟨r_159, m_159, e_159, h⟩ := bdE h
              refine j_callVI (As := []) S D_M_takesE_159 mv_R6_225 (c_M_takesPart (cxL X) E N e_159) (by decide) sh_Mod rfl rfl rfl rfl (Nat.le_of_ble_eq_true rfl) ?_
              refine j_if_eq S D_M_takesE_162 (fun c_162 => ?_) (fun c_162 => ?_)
              · have h := ifT c_162 h
                refine j_iconst S D_M_takesE_170 ci_0 ?_
                exact rtMZ hR h isb0 _ _ D_M_takesE_171
              · have h := ifF c_162 h
                refine j_iconst S D_M_takesE_165 ci_0 ?_
                refine j_istore_n S D_M_takesE_166 (lv := [(3, .int 0), (0, .ref (eb E + 91)), (1, .int b1), (2, .int b2)]) rfl ⟨rfl, (Nat.le_of_ble_eq_true rfl)⟩ ?_
                refine j_goto S D_M_takesE_167 ?_
                refine j_aload_n S D_M_takesE_172 1 rfl rfl ?_
                obtain ⟨r_173, e_173, h⟩ := bpE h
                refine j_callVI (As := []) S D_M_takesE_173 mv_R6_229 (c_M_notsOpen (cxL X) E N e_173) (by decide) sh_Mod rfl rfl rfl rfl (Nat.le_of_ble_eq_true rfl) ?_
                refine j_istore_n S D_M_takesE_176 (lv := [(2, .int r_173), (3, .int 0), (0, .ref (eb E + 91)), (1, .int b1)]) rfl ⟨rfl, (Nat.le_of_ble_eq_true rfl)⟩ ?_
                refine j_goto S D_M_takesE_177 ?_
                refine j_locals [2, 3, 0, 1] rfl (ih b1 r_173 0 m_159 h)
            · have h := ifT c_102 h
              refine j_aload_n S D_M_takesE_105 0 rfl rfl ?_
              refine j_getI S D_M_takesE_106 fl_R6_195 sh_Mod rfl ?_
              refine j_bipush S D_M_takesE_109 cb_40 ?_
              refine j_icmp_ne S D_M_takesE_111 (fun c_111 => ?_) (fun c_111 => ?_)
              · have h := ifF c_111 h
                refine j_aload_n S D_M_takesE_158 0 rfl rfl ?_
                obtain ⟨r_159, m_159, e_159, h⟩ := bdE h
                refine j_callVI (As := []) S D_M_takesE_159 mv_R6_225 (c_M_takesPart (cxL X) E N e_159) (by decide) sh_Mod rfl rfl rfl rfl (Nat.le_of_ble_eq_true rfl) ?_
                refine j_if_eq S D_M_takesE_162 (fun c_162 => ?_) (fun c_162 => ?_)
                · have h := ifT c_162 h
                  refine j_iconst S D_M_takesE_170 ci_0 ?_
                  exact rtMZ hR h isb0 _ _ D_M_takesE_171
                · have h := ifF c_162 h
                  refine j_iconst S D_M_takesE_165 ci_0 ?_
                  refine j_istore_n S D_M_takesE_166 (lv := [(3, .int 0), (0, .ref (eb E + 91)), (1, .int b1), (2, .int b2)]) rfl ⟨rfl, (Nat.le_of_ble_eq_true rfl)⟩ ?_
                  refine j_goto S D_M_takesE_167 ?_
                  refine j_aload_n S D_M_takesE_172 1 rfl rfl ?_
                  obtain ⟨r_173, e_173, h⟩ := bpE h
                  refine j_callVI (As := []) S D_M_takesE_173 mv_R6_229 (c_M_notsOpen (cxL X) E N e_173) (by decide) sh_Mod rfl rfl rfl rfl (Nat.le_of_ble_eq_true rfl) ?_
                  refine j_istore_n S D_M_takesE_176 (lv := [(2, .int r_173), (3, .int 0), (0, .ref (eb E + 91)), (1, .int b1)]) rfl ⟨rfl, (Nat.le_of_ble_eq_true rfl)⟩ ?_
                  refine j_goto S D_M_takesE_177 ?_
                  refine j_locals [2, 3, 0, 1] rfl (ih b1 r_173 0 m_159 h)
              · have h := ifT c_111 h
                refine j_iload_n S D_M_takesE_114 1 rfl rfl ?_
                refine j_bipush S D_M_takesE_115 cb_8 ?_
                refine j_icmp_ge S D_M_takesE_117 (fun c_117 => ?_) (fun c_117 => ?_)
                · have h := ifT c_117 h
                  refine j_aload_n S D_M_takesE_158 0 rfl rfl ?_
                  obtain ⟨r_159, m_159, e_159, h⟩ := bdE h
                  refine j_callVI (As := []) S D_M_takesE_159 mv_R6_225 (c_M_takesPart (cxL X) E N e_159) (by decide) sh_Mod rfl rfl rfl rfl (Nat.le_of_ble_eq_true rfl) ?_
                  refine j_if_eq S D_M_takesE_162 (fun c_162 => ?_) (fun c_162 => ?_)
                  · have h := ifT c_162 h
                    refine j_iconst S D_M_takesE_170 ci_0 ?_
                    exact rtMZ hR h isb0 _ _ D_M_takesE_171
                  · have h := ifF c_162 h
                    refine j_iconst S D_M_takesE_165 ci_0 ?_
                    refine j_istore_n S D_M_takesE_166 (lv := [(3, .int 0), (0, .ref (eb E + 91)), (1, .int b1), (2, .int b2)]) rfl ⟨rfl, (Nat.le_of_ble_eq_true rfl)⟩ ?_
                    refine j_goto S D_M_takesE_167 ?_
                    refine j_aload_n S D_M_takesE_172 1 rfl rfl ?_
                    obtain ⟨r_173, e_173, h⟩ := bpE h
                    refine j_callVI (As := []) S D_M_takesE_173 mv_R6_229 (c_M_notsOpen (cxL X) E N e_173) (by decide) sh_Mod rfl rfl rfl rfl (Nat.le_of_ble_eq_true rfl) ?_
                    refine j_istore_n S D_M_takesE_176 (lv := [(2, .int r_173), (3, .int 0), (0, .ref (eb E + 91)), (1, .int b1)]) rfl ⟨rfl, (Nat.le_of_ble_eq_true rfl)⟩ ?_
                    refine j_goto S D_M_takesE_177 ?_
                    refine j_locals [2, 3, 0, 1] rfl (ih b1 r_173 0 m_159 h)
                · have h := ifF c_117 h
                  refine j_aload_n S D_M_takesE_120 0 rfl rfl ?_
                  refine j_getR S D_M_takesE_121 fl_R6_39 sh_Mod rfl ?_
                  refine j_aload_n S D_M_takesE_124 0 rfl rfl ?_
                  refine j_getI S D_M_takesE_125 fl_R6_207 sh_Mod rfl ?_
                  refine j_bipush S D_M_takesE_128 cb_m11 ?_
                  obtain ⟨g_130, h⟩ := gdE h
                  obtain ⟨m_130, hm_130, h⟩ := ltE h
                  refine j_iast S D_M_takesE_130 sh_100 g_130 ?_
                  refine j_mem hm_130 ?_
                  refine j_aload_n S D_M_takesE_131 0 rfl rfl ?_
                  refine j_dup S D_M_takesE_132 rfl ?_
                  refine j_getI S D_M_takesE_133 fl_R6_207 sh_Mod rfl ?_
                  refine j_iconst S D_M_takesE_136 ci_1 ?_
                  refine j_iadd S D_M_takesE_137 ?_
                  obtain ⟨m_138, hm_138, h⟩ := ltE h
                  refine j_putI S D_M_takesE_138 fp_R6_207 sh_Mod rfl ?_
                  refine j_mem hm_138 ?_
                  refine j_iinc S D_M_takesE_141 1 rfl (congrArg (fun z => b1 + z) ci_1) (lv := [(1, .int (b1 + 1)), (0, .ref (eb E + 91)), (2, .int b2), (3, .int b3)]) rfl (Nat.le_of_ble_eq_true rfl) ?_
                  refine j_aload_n S D_M_takesE_144 1 rfl rfl ?_
                  refine j_getR S D_M_takesE_145 fl_R6_42 sh_Mod rfl ?_
                  refine j_iload_n S D_M_takesE_148 0 rfl rfl ?_
                  refine j_iconst S D_M_takesE_149 ci_0 ?_
                  obtain ⟨g_150, h⟩ := gdE h
                  obtain ⟨m_150, hm_150, h⟩ := ltE h
                  refine j_zast S D_M_takesE_150 sh_101 g_150 (isb_vn isb0) ?_
                  refine j_mem hm_150 ?_
                  refine j_aload_n S D_M_takesE_151 1 rfl rfl ?_
                  obtain ⟨m_152, e_152, h⟩ := bpE h
                  refine j_callVV (As := []) S D_M_takesE_152 mv_R6_204 (c_M_go (cxL X) E N e_152) (by decide) sh_Mod rfl rfl rfl rfl (Nat.le_of_ble_eq_true rfl) ?_
                  refine j_goto S D_M_takesE_155 ?_
                  refine j_aload_n S D_M_takesE_172 1 rfl rfl ?_
                  obtain ⟨r_173, e_173, h⟩ := bpE h
                  refine j_callVI (As := []) S D_M_takesE_173 mv_R6_229 (c_M_notsOpen (cxL X) E N e_173) (by decide) sh_Mod rfl rfl rfl rfl (Nat.le_of_ble_eq_true rfl) ?_
                  refine j_istore_n S D_M_takesE_176 (lv := [(2, .int r_173), (1, .int (b1 + 1)), (0, .ref (eb E + 91)), (3, .int b3)]) rfl ⟨rfl, (Nat.le_of_ble_eq_true rfl)⟩ ?_
                  refine j_goto S D_M_takesE_177 ?_
                  refine j_locals [2, 1, 0, 3] rfl (ih (b1 + 1) r_173 b3 m_152 h)
          · have h := ifT c_57 h
            refine j_iload_n S D_M_takesE_60 2 rfl rfl ?_
            refine j_bipush S D_M_takesE_61 cb_8 ?_
            refine j_icmp_ge S D_M_takesE_63 (fun c_63 => ?_) (fun c_63 => ?_)
            · have h := ifT c_63 h
              refine j_aload_n S D_M_takesE_97 0 rfl rfl ?_
              refine j_getI S D_M_takesE_98 fl_R6_189 sh_Mod rfl ?_
              refine j_iconst S D_M_takesE_101 ci_3 ?_
              refine j_icmp_ne S D_M_takesE_102 (fun c_102 => ?_) (fun c_102 => ?_)
              · have h := ifF c_102 h
                refine j_aload_n S D_M_takesE_158 0 rfl rfl ?_
                obtain ⟨r_159, m_159, e_159, h⟩ := bdE h
                refine j_callVI (As := []) S D_M_takesE_159 mv_R6_225 (c_M_takesPart (cxL X) E N e_159) (by decide) sh_Mod rfl rfl rfl rfl (Nat.le_of_ble_eq_true rfl) ?_
                refine j_if_eq S D_M_takesE_162 (fun c_162 => ?_) (fun c_162 => ?_)
                · have h := ifT c_162 h
                  refine j_iconst S D_M_takesE_170 ci_0 ?_
                  exact rtMZ hR h isb0 _ _ D_M_takesE_171
                · have h := ifF c_162 h
                  refine j_iconst S D_M_takesE_165 ci_0 ?_
                  refine j_istore_n S D_M_takesE_166 (lv := [(3, .int 0), (0, .ref (eb E + 91)), (1, .int b1), (2, .int b2)]) rfl ⟨rfl, (Nat.le_of_ble_eq_true rfl)⟩ ?_
                  refine j_goto S D_M_takesE_167 ?_
                  refine j_aload_n S D_M_takesE_172 1 rfl rfl ?_
                  obtain ⟨r_173, e_173, h⟩ := bpE h
                  refine j_callVI (As := []) S D_M_takesE_173 mv_R6_229 (c_M_notsOpen (cxL X) E N e_173) (by decide) sh_Mod rfl rfl rfl rfl (Nat.le_of_ble_eq_true rfl) ?_
                  refine j_istore_n S D_M_takesE_176 (lv := [(2, .int r_173), (3, .int 0), (0, .ref (eb E + 91)), (1, .int b1)]) rfl ⟨rfl, (Nat.le_of_ble_eq_true rfl)⟩ ?_
                  refine j_goto S D_M_takesE_177 ?_
                  refine j_locals [2, 3, 0, 1] rfl (ih b1 r_173 0 m_159 h)
              · have h := ifT c_102 h
                refine j_aload_n S D_M_takesE_105 0 rfl rfl ?_
                refine j_getI S D_M_takesE_106 fl_R6_195 sh_Mod rfl ?_
                refine j_bipush S D_M_takesE_109 cb_40 ?_
                refine j_icmp_ne S D_M_takesE_111 (fun c_111 => ?_) (fun c_111 => ?_)
                · have h := ifF c_111 h
                  refine j_aload_n S D_M_takesE_158 0 rfl rfl ?_
                  obtain ⟨r_159, m_159, e_159, h⟩ := bdE h
                  refine j_callVI (As := []) S D_M_takesE_159 mv_R6_225 (c_M_takesPart (cxL X) E N e_159) (by decide) sh_Mod rfl rfl rfl rfl (Nat.le_of_ble_eq_true rfl) ?_
                  refine j_if_eq S D_M_takesE_162 (fun c_162 => ?_) (fun c_162 => ?_)
                  · have h := ifT c_162 h
                    refine j_iconst S D_M_takesE_170 ci_0 ?_
                    exact rtMZ hR h isb0 _ _ D_M_takesE_171
                  · have h := ifF c_162 h
                    refine j_iconst S D_M_takesE_165 ci_0 ?_
                    refine j_istore_n S D_M_takesE_166 (lv := [(3, .int 0), (0, .ref (eb E + 91)), (1, .int b1), (2, .int b2)]) rfl ⟨rfl, (Nat.le_of_ble_eq_true rfl)⟩ ?_
                    refine j_goto S D_M_takesE_167 ?_
                    refine j_aload_n S D_M_takesE_172 1 rfl rfl ?_
                    obtain ⟨r_173, e_173, h⟩ := bpE h
                    refine j_callVI (As := []) S D_M_takesE_173 mv_R6_229 (c_M_notsOpen (cxL X) E N e_173) (by decide) sh_Mod rfl rfl rfl rfl (Nat.le_of_ble_eq_true rfl) ?_
                    refine j_istore_n S D_M_takesE_176 (lv := [(2, .int r_173), (3, .int 0), (0, .ref (eb E + 91)), (1, .int b1)]) rfl ⟨rfl, (Nat.le_of_ble_eq_true rfl)⟩ ?_
                    refine j_goto S D_M_takesE_177 ?_
                    refine j_locals [2, 3, 0, 1] rfl (ih b1 r_173 0 m_159 h)
                · have h := ifT c_111 h
                  refine j_iload_n S D_M_takesE_114 1 rfl rfl ?_
                  refine j_bipush S D_M_takesE_115 cb_8 ?_
                  refine j_icmp_ge S D_M_takesE_117 (fun c_117 => ?_) (fun c_117 => ?_)
                  · have h := ifT c_117 h
                    refine j_aload_n S D_M_takesE_158 0 rfl rfl ?_
                    obtain ⟨r_159, m_159, e_159, h⟩ := bdE h
                    refine j_callVI (As := []) S D_M_takesE_159 mv_R6_225 (c_M_takesPart (cxL X) E N e_159) (by decide) sh_Mod rfl rfl rfl rfl (Nat.le_of_ble_eq_true rfl) ?_
                    refine j_if_eq S D_M_takesE_162 (fun c_162 => ?_) (fun c_162 => ?_)
                    · have h := ifT c_162 h
                      refine j_iconst S D_M_takesE_170 ci_0 ?_
                      exact rtMZ hR h isb0 _ _ D_M_takesE_171
                    · have h := ifF c_162 h
                      refine j_iconst S D_M_takesE_165 ci_0 ?_
                      refine j_istore_n S D_M_takesE_166 (lv := [(3, .int 0), (0, .ref (eb E + 91)), (1, .int b1), (2, .int b2)]) rfl ⟨rfl, (Nat.le_of_ble_eq_true rfl)⟩ ?_
                      refine j_goto S D_M_takesE_167 ?_
                      refine j_aload_n S D_M_takesE_172 1 rfl rfl ?_
                      obtain ⟨r_173, e_173, h⟩ := bpE h
                      refine j_callVI (As := []) S D_M_takesE_173 mv_R6_229 (c_M_notsOpen (cxL X) E N e_173) (by decide) sh_Mod rfl rfl rfl rfl (Nat.le_of_ble_eq_true rfl) ?_
                      refine j_istore_n S D_M_takesE_176 (lv := [(2, .int r_173), (3, .int 0), (0, .ref (eb E + 91)), (1, .int b1)]) rfl ⟨rfl, (Nat.le_of_ble_eq_true rfl)⟩ ?_
                      refine j_goto S D_M_takesE_177 ?_
                      refine j_locals [2, 3, 0, 1] rfl (ih b1 r_173 0 m_159 h)
                  · have h := ifF c_117 h
                    refine j_aload_n S D_M_takesE_120 0 rfl rfl ?_
                    refine j_getR S D_M_takesE_121 fl_R6_39 sh_Mod rfl ?_
                    refine j_aload_n S D_M_takesE_124 0 rfl rfl ?_
                    refine j_getI S D_M_takesE_125 fl_R6_207 sh_Mod rfl ?_
                    refine j_bipush S D_M_takesE_128 cb_m11 ?_
                    obtain ⟨g_130, h⟩ := gdE h
                    obtain ⟨m_130, hm_130, h⟩ := ltE h
                    refine j_iast S D_M_takesE_130 sh_100 g_130 ?_
                    refine j_mem hm_130 ?_
                    refine j_aload_n S D_M_takesE_131 0 rfl rfl ?_
                    refine j_dup S D_M_takesE_132 rfl ?_
                    refine j_getI S D_M_takesE_133 fl_R6_207 sh_Mod rfl ?_
                    refine j_iconst S D_M_takesE_136 ci_1 ?_
                    refine j_iadd S D_M_takesE_137 ?_
                    obtain ⟨m_138, hm_138, h⟩ := ltE h
                    refine j_putI S D_M_takesE_138 fp_R6_207 sh_Mod rfl ?_
                    refine j_mem hm_138 ?_
                    refine j_iinc S D_M_takesE_141 1 rfl (congrArg (fun z => b1 + z) ci_1) (lv := [(1, .int (b1 + 1)), (0, .ref (eb E + 91)), (2, .int b2), (3, .int b3)]) rfl (Nat.le_of_ble_eq_true rfl) ?_
                    refine j_aload_n S D_M_takesE_144 1 rfl rfl ?_
                    refine j_getR S D_M_takesE_145 fl_R6_42 sh_Mod rfl ?_
                    refine j_iload_n S D_M_takesE_148 0 rfl rfl ?_
                    refine j_iconst S D_M_takesE_149 ci_0 ?_
                    obtain ⟨g_150, h⟩ := gdE h
                    obtain ⟨m_150, hm_150, h⟩ := ltE h
                    refine j_zast S D_M_takesE_150 sh_101 g_150 (isb_vn isb0) ?_
                    refine j_mem hm_150 ?_
                    refine j_aload_n S D_M_takesE_151 1 rfl rfl ?_
                    obtain ⟨m_152, e_152, h⟩ := bpE h
                    refine j_callVV (As := []) S D_M_takesE_152 mv_R6_204 (c_M_go (cxL X) E N e_152) (by decide) sh_Mod rfl rfl rfl rfl (Nat.le_of_ble_eq_true rfl) ?_
                    refine j_goto S D_M_takesE_155 ?_
                    refine j_aload_n S D_M_takesE_172 1 rfl rfl ?_
                    obtain ⟨r_173, e_173, h⟩ := bpE h
                    refine j_callVI (As := []) S D_M_takesE_173 mv_R6_229 (c_M_notsOpen (cxL X) E N e_173) (by decide) sh_Mod rfl rfl rfl rfl (Nat.le_of_ble_eq_true rfl) ?_
                    refine j_istore_n S D_M_takesE_176 (lv := [(2, .int r_173), (1, .int (b1 + 1)), (0, .ref (eb E + 91)), (3, .int b3)]) rfl ⟨rfl, (Nat.le_of_ble_eq_true rfl)⟩ ?_
                    refine j_goto S D_M_takesE_177 ?_
                    refine j_locals [2, 1, 0, 3] rfl (ih (b1 + 1) r_173 b3 m_152 h)
            · have h := ifF c_63 h
              refine j_aload_n S D_M_takesE_66 0 rfl rfl ?_
              refine j_getR S D_M_takesE_67 fl_R6_39 sh_Mod rfl ?_
              refine j_aload_n S D_M_takesE_70 0 rfl rfl ?_
              refine j_getI S D_M_takesE_71 fl_R6_207 sh_Mod rfl ?_
              refine j_bipush S D_M_takesE_74 cb_m10 ?_
              obtain ⟨g_76, h⟩ := gdE h
              obtain ⟨m_76, hm_76, h⟩ := ltE h
              refine j_iast S D_M_takesE_76 sh_100 g_76 ?_
              refine j_mem hm_76 ?_
              refine j_aload_n S D_M_takesE_77 0 rfl rfl ?_
              refine j_dup S D_M_takesE_78 rfl ?_
              refine j_getI S D_M_takesE_79 fl_R6_207 sh_Mod rfl ?_
              refine j_iconst S D_M_takesE_82 ci_1 ?_
              refine j_iadd S D_M_takesE_83 ?_
              obtain ⟨m_84, hm_84, h⟩ := ltE h
              refine j_putI S D_M_takesE_84 fp_R6_207 sh_Mod rfl ?_
              refine j_mem hm_84 ?_
              refine j_iinc S D_M_takesE_87 2 rfl (congrArg (fun z => b2 + z) ci_1) (lv := [(2, .int (b2 + 1)), (0, .ref (eb E + 91)), (1, .int b1), (3, .int b3)]) rfl (Nat.le_of_ble_eq_true rfl) ?_
              refine j_aload_n S D_M_takesE_90 1 rfl rfl ?_
              obtain ⟨m_91, e_91, h⟩ := bpE h
              refine j_callVV (As := []) S D_M_takesE_91 mv_R6_204 (c_M_go (cxL X) E N e_91) (by decide) sh_Mod rfl rfl rfl rfl (Nat.le_of_ble_eq_true rfl) ?_
              refine j_goto S D_M_takesE_94 ?_
              refine j_aload_n S D_M_takesE_172 1 rfl rfl ?_
              obtain ⟨r_173, e_173, h⟩ := bpE h
              refine j_callVI (As := []) S D_M_takesE_173 mv_R6_229 (c_M_notsOpen (cxL X) E N e_173) (by decide) sh_Mod rfl rfl rfl rfl (Nat.le_of_ble_eq_true rfl) ?_
              refine j_istore_n S D_M_takesE_176 (lv := [(2, .int r_173), (0, .ref (eb E + 91)), (1, .int b1), (3, .int b3)]) rfl ⟨rfl, (Nat.le_of_ble_eq_true rfl)⟩ ?_
              refine j_goto S D_M_takesE_177 ?_
              refine j_locals [1, 2, 0, 3] rfl (ih b1 r_173 b3 m_91 h)
    · have h := ifT c_29 h
      refine j_aload_n S D_M_takesE_32 0 rfl rfl ?_
      refine j_getI S D_M_takesE_33 fl_R6_189 sh_Mod rfl ?_
      refine j_if_eq S D_M_takesE_36 (fun c_36 => ?_) (fun c_36 => ?_)
      · have h := ifT c_36 h
        refine j_aload_n S D_M_takesE_345 0 rfl rfl ?_
        refine j_iconst S D_M_takesE_346 ci_0 ?_
        obtain ⟨m_347, e_347, h⟩ := bpE h
        refine j_callVV (As := [.int 0]) S D_M_takesE_347 mv_R6_222 (c_M_settle (cxL X) E N 0 e_347) (by decide) sh_Mod rfl rfl rfl rfl (Nat.le_of_ble_eq_true rfl) ?_
        refine j_iload_n S D_M_takesE_350 1 rfl rfl ?_
        refine j_dia (P := J X E 5 359 [(0, .ref (eb E + 91)), (1, .int b1), (2, .int b2), (3, .int b3)] [.int (if b1 = 0 then (1 : Int32) else 0)] SH m_347) (fun hj => ?_) ?_
        · refine j_if_ne S D_M_takesE_351 (fun c_351 => ?_) (fun c_351 => ?_)
          · refine j_iconst S D_M_takesE_358 ci_0 ?_
            exact j_jnF hj c_351
          · refine j_iconst S D_M_takesE_354 ci_1 ?_
            refine j_goto S D_M_takesE_355 ?_
            exact j_jnT hj c_351
        exact rtMZ hR h (isb_ite isb1 isb0) _ _ D_M_takesE_359
      · have h := ifF c_36 h
        refine j_iload_n S D_M_takesE_39 3 rfl rfl ?_
        refine j_if_eq S D_M_takesE_40 (fun c_40 => ?_) (fun c_40 => ?_)
        · have h := ifT c_40 h
          refine j_aload_n S D_M_takesE_180 0 rfl rfl ?_
          refine j_getI S D_M_takesE_181 fl_R6_189 sh_Mod rfl ?_
          refine j_iconst S D_M_takesE_184 ci_3 ?_
          refine j_icmp_ne S D_M_takesE_185 (fun c_185 => ?_) (fun c_185 => ?_)
          · have h := ifF c_185 h
            refine j_aload_n S D_M_takesE_237 0 rfl rfl ?_
            obtain ⟨r_238, e_238, h⟩ := bpE h
            refine j_callVI (As := []) S D_M_takesE_238 mv_R6_232 (c_M_signHere (cxL X) E e_238) (by decide) sh_Mod rfl rfl rfl rfl (Nat.le_of_ble_eq_true rfl) ?_
            refine j_istore S D_M_takesE_241 (lv := [(4, .int r_238), (0, .ref (eb E + 91)), (1, .int b1), (2, .int b2), (3, .int b3)]) rfl (Nat.le_of_ble_eq_true rfl) ?_
            refine j_iload S D_M_takesE_243 0 rfl ?_
            refine j_if_eq S D_M_takesE_245 (fun c_245 => ?_) (fun c_245 => ?_)
            · have h := ifT c_245 h
              refine j_iconst S D_M_takesE_266 ci_0 ?_
              exact rtMZ hR h isb0 _ _ D_M_takesE_267
            · have h := ifF c_245 h
              refine j_iload S D_M_takesE_248 0 rfl ?_
              obtain ⟨r_250, e_250, h⟩ := bpE h
              refine j_callSI (As := [.int r_238]) S D_M_takesE_250 ms_R6_210 (c_M_rank (cxL X) E r_238 (mem := mem) e_250) (by decide) rfl rfl (Nat.le_of_ble_eq_true rfl) ?_
              refine j_iconst S D_M_takesE_253 ci_3 ?_
              refine j_icmp_ne S D_M_takesE_254 (fun c_254 => ?_) (fun c_254 => ?_)
              · have h := ifF c_254 h
                refine j_aload_n S D_M_takesE_268 1 rfl rfl ?_
                refine j_getR S D_M_takesE_269 fl_R6_42 sh_Mod rfl ?_
                refine j_iload_n S D_M_takesE_272 2 rfl rfl ?_
                refine j_iload S D_M_takesE_273 0 rfl ?_
                obtain ⟨r_275, e_275, h⟩ := bpE h
                refine j_callSI (As := [.int r_238]) S D_M_takesE_275 ms_R6_210 (c_M_rank (cxL X) E r_238 (mem := mem) e_275) (by decide) rfl rfl (Nat.le_of_ble_eq_true rfl) ?_
                refine j_iconst S D_M_takesE_278 ci_3 ?_
                refine j_icmp_eq S D_M_takesE_279 (fun c_279 => ?_) (fun c_279 => ?_)
                · have h := ifT c_279 h
                  refine j_iconst S D_M_takesE_300 ci_1 ?_
                  refine j_goto S D_M_takesE_301 ?_
                  obtain ⟨g_305, h⟩ := gdE h
                  obtain ⟨m_305, hm_305, h⟩ := ltE h
                  refine j_zast S D_M_takesE_305 sh_101 g_305 (isb_vn isb1) ?_
                  refine j_mem hm_305 ?_
                  refine j_aload_n S D_M_takesE_306 1 rfl rfl ?_
                  refine j_iload S D_M_takesE_307 0 rfl ?_
                  obtain ⟨r_309, e_309, h⟩ := bpE h
                  refine j_callSI (As := [.int r_238]) S D_M_takesE_309 ms_R6_210 (c_M_rank (cxL X) E r_238 (mem := m_305) e_309) (by decide) rfl rfl (Nat.le_of_ble_eq_true rfl) ?_
                  obtain ⟨m_312, e_312, h⟩ := bpE h
                  refine j_callVV (As := [.int r_309]) S D_M_takesE_312 mv_R6_222 (c_M_settle (cxL X) E N r_309 e_312) (by decide) sh_Mod rfl rfl rfl rfl (Nat.le_of_ble_eq_true rfl) ?_
                  refine j_aload_n S D_M_takesE_315 1 rfl rfl ?_
                  refine j_getR S D_M_takesE_316 fl_R6_39 sh_Mod rfl ?_
                  refine j_aload_n S D_M_takesE_319 1 rfl rfl ?_
                  refine j_getI S D_M_takesE_320 fl_R6_207 sh_Mod rfl ?_
                  refine j_iload S D_M_takesE_323 0 rfl ?_
                  obtain ⟨g_325, h⟩ := gdE h
                  obtain ⟨m_325, hm_325, h⟩ := ltE h
                  refine j_iast S D_M_takesE_325 sh_100 g_325 ?_
                  refine j_mem hm_325 ?_
                  refine j_aload_n S D_M_takesE_326 1 rfl rfl ?_
                  refine j_dup S D_M_takesE_327 rfl ?_
                  refine j_getI S D_M_takesE_328 fl_R6_207 sh_Mod rfl ?_
                  refine j_iconst S D_M_takesE_331 ci_1 ?_
                  refine j_iadd S D_M_takesE_332 ?_
                  obtain ⟨m_333, hm_333, h⟩ := ltE h
                  refine j_putI S D_M_takesE_333 fp_R6_207 sh_Mod rfl ?_
                  refine j_mem hm_333 ?_
                  refine j_iconst S D_M_takesE_336 ci_1 ?_
                  refine j_istore_n S D_M_takesE_337 (lv := [(3, .int 1), (4, .int r_238), (0, .ref (eb E + 91)), (1, .int b1), (2, .int b2)]) rfl ⟨rfl, (Nat.le_of_ble_eq_true rfl)⟩ ?_
                  refine j_aload_n S D_M_takesE_338 2 rfl rfl ?_
                  obtain ⟨m_339, e_339, h⟩ := bpE h
                  refine j_callVV (As := []) S D_M_takesE_339 mv_R6_204 (c_M_go (cxL X) E N e_339) (by decide) sh_Mod rfl rfl rfl rfl (Nat.le_of_ble_eq_true rfl) ?_
                  refine j_goto S D_M_takesE_342 ?_
                  refine j_locals [2, 3, 4, 0] rfl (ih b1 b2 1 m_339 h)
                · have h := ifF c_279 h
                  refine j_iload S D_M_takesE_282 0 rfl ?_
                  obtain ⟨r_284, e_284, h⟩ := bpE h
                  refine j_callSI (As := [.int r_238]) S D_M_takesE_284 ms_R6_210 (c_M_rank (cxL X) E r_238 (mem := mem) e_284) (by decide) rfl rfl (Nat.le_of_ble_eq_true rfl) ?_
                  refine j_iconst S D_M_takesE_287 ci_3 ?_
                  refine j_icmp_le S D_M_takesE_288 (fun c_288 => ?_) (fun c_288 => ?_)
                  · have h := ifT c_288 h
                    refine j_iconst S D_M_takesE_304 ci_0 ?_
                    obtain ⟨g_305, h⟩ := gdE h
                    obtain ⟨m_305, hm_305, h⟩ := ltE h
                    refine j_zast S D_M_takesE_305 sh_101 g_305 (isb_vn isb0) ?_
                    refine j_mem hm_305 ?_
                    refine j_aload_n S D_M_takesE_306 1 rfl rfl ?_
                    refine j_iload S D_M_takesE_307 0 rfl ?_
                    obtain ⟨r_309, e_309, h⟩ := bpE h
                    refine j_callSI (As := [.int r_238]) S D_M_takesE_309 ms_R6_210 (c_M_rank (cxL X) E r_238 (mem := m_305) e_309) (by decide) rfl rfl (Nat.le_of_ble_eq_true rfl) ?_
                    obtain ⟨m_312, e_312, h⟩ := bpE h
                    refine j_callVV (As := [.int r_309]) S D_M_takesE_312 mv_R6_222 (c_M_settle (cxL X) E N r_309 e_312) (by decide) sh_Mod rfl rfl rfl rfl (Nat.le_of_ble_eq_true rfl) ?_
                    refine j_aload_n S D_M_takesE_315 1 rfl rfl ?_
                    refine j_getR S D_M_takesE_316 fl_R6_39 sh_Mod rfl ?_
                    refine j_aload_n S D_M_takesE_319 1 rfl rfl ?_
                    refine j_getI S D_M_takesE_320 fl_R6_207 sh_Mod rfl ?_
                    refine j_iload S D_M_takesE_323 0 rfl ?_
                    obtain ⟨g_325, h⟩ := gdE h
                    obtain ⟨m_325, hm_325, h⟩ := ltE h
                    refine j_iast S D_M_takesE_325 sh_100 g_325 ?_
                    refine j_mem hm_325 ?_
                    refine j_aload_n S D_M_takesE_326 1 rfl rfl ?_
                    refine j_dup S D_M_takesE_327 rfl ?_
                    refine j_getI S D_M_takesE_328 fl_R6_207 sh_Mod rfl ?_
                    refine j_iconst S D_M_takesE_331 ci_1 ?_
                    refine j_iadd S D_M_takesE_332 ?_
                    obtain ⟨m_333, hm_333, h⟩ := ltE h
                    refine j_putI S D_M_takesE_333 fp_R6_207 sh_Mod rfl ?_
                    refine j_mem hm_333 ?_
                    refine j_iconst S D_M_takesE_336 ci_1 ?_
                    refine j_istore_n S D_M_takesE_337 (lv := [(3, .int 1), (4, .int r_238), (0, .ref (eb E + 91)), (1, .int b1), (2, .int b2)]) rfl ⟨rfl, (Nat.le_of_ble_eq_true rfl)⟩ ?_
                    refine j_aload_n S D_M_takesE_338 2 rfl rfl ?_
                    obtain ⟨m_339, e_339, h⟩ := bpE h
                    refine j_callVV (As := []) S D_M_takesE_339 mv_R6_204 (c_M_go (cxL X) E N e_339) (by decide) sh_Mod rfl rfl rfl rfl (Nat.le_of_ble_eq_true rfl) ?_
                    refine j_goto S D_M_takesE_342 ?_
                    refine j_locals [2, 3, 4, 0] rfl (ih b1 b2 1 m_339 h)
                  · have h := ifF c_288 h
                    refine j_aload_n S D_M_takesE_291 1 rfl rfl ?_
                    refine j_getR S D_M_takesE_292 fl_R6_42 sh_Mod rfl ?_
                    refine j_iload_n S D_M_takesE_295 2 rfl rfl ?_
                    obtain ⟨g_296, h⟩ := gdE h
                    refine j_zald S D_M_takesE_296 sh_101 g_296 ?_
                    refine j_dia (P := J X E 5 305 [(4, .int r_238), (0, .ref (eb E + 91)), (1, .int b1), (2, .int b2), (3, .int b3)] [.int (if mem 101 (ix b1) = 0 then (0 : Int32) else 1), .int b1, .ref (eb E + 101)] SH mem) (fun hj => ?_) ?_
                    · refine j_if_eq S D_M_takesE_297 (fun c_297 => ?_) (fun c_297 => ?_)
                      · refine j_iconst S D_M_takesE_304 ci_0 ?_
                        exact j_jnT hj c_297
                      · refine j_iconst S D_M_takesE_300 ci_1 ?_
                        refine j_goto S D_M_takesE_301 ?_
                        exact j_jnF hj c_297
                    obtain ⟨m_305, hm_305, h⟩ := ltE h
                    refine j_zast S D_M_takesE_305 sh_101 g_296 (isb_vn (isb_ite isb0 isb1)) ?_
                    refine j_mem hm_305 ?_
                    refine j_aload_n S D_M_takesE_306 1 rfl rfl ?_
                    refine j_iload S D_M_takesE_307 0 rfl ?_
                    obtain ⟨r_309, e_309, h⟩ := bpE h
                    refine j_callSI (As := [.int r_238]) S D_M_takesE_309 ms_R6_210 (c_M_rank (cxL X) E r_238 (mem := m_305) e_309) (by decide) rfl rfl (Nat.le_of_ble_eq_true rfl) ?_
                    obtain ⟨m_312, e_312, h⟩ := bpE h
                    refine j_callVV (As := [.int r_309]) S D_M_takesE_312 mv_R6_222 (c_M_settle (cxL X) E N r_309 e_312) (by decide) sh_Mod rfl rfl rfl rfl (Nat.le_of_ble_eq_true rfl) ?_
                    refine j_aload_n S D_M_takesE_315 1 rfl rfl ?_
                    refine j_getR S D_M_takesE_316 fl_R6_39 sh_Mod rfl ?_
                    refine j_aload_n S D_M_takesE_319 1 rfl rfl ?_
                    refine j_getI S D_M_takesE_320 fl_R6_207 sh_Mod rfl ?_
                    refine j_iload S D_M_takesE_323 0 rfl ?_
                    obtain ⟨g_325, h⟩ := gdE h
                    obtain ⟨m_325, hm_325, h⟩ := ltE h
                    refine j_iast S D_M_takesE_325 sh_100 g_325 ?_
                    refine j_mem hm_325 ?_
                    refine j_aload_n S D_M_takesE_326 1 rfl rfl ?_
                    refine j_dup S D_M_takesE_327 rfl ?_
                    refine j_getI S D_M_takesE_328 fl_R6_207 sh_Mod rfl ?_
                    refine j_iconst S D_M_takesE_331 ci_1 ?_
                    refine j_iadd S D_M_takesE_332 ?_
                    obtain ⟨m_333, hm_333, h⟩ := ltE h
                    refine j_putI S D_M_takesE_333 fp_R6_207 sh_Mod rfl ?_
                    refine j_mem hm_333 ?_
                    refine j_iconst S D_M_takesE_336 ci_1 ?_
                    refine j_istore_n S D_M_takesE_337 (lv := [(3, .int 1), (4, .int r_238), (0, .ref (eb E + 91)), (1, .int b1), (2, .int b2)]) rfl ⟨rfl, (Nat.le_of_ble_eq_true rfl)⟩ ?_
                    refine j_aload_n S D_M_takesE_338 2 rfl rfl ?_
                    obtain ⟨m_339, e_339, h⟩ := bpE h
                    refine j_callVV (As := []) S D_M_takesE_339 mv_R6_204 (c_M_go (cxL X) E N e_339) (by decide) sh_Mod rfl rfl rfl rfl (Nat.le_of_ble_eq_true rfl) ?_
                    refine j_goto S D_M_takesE_342 ?_
                    refine j_locals [2, 3, 4, 0] rfl (ih b1 b2 1 m_339 h)
              · have h := ifT c_254 h
                refine j_aload_n S D_M_takesE_257 1 rfl rfl ?_
                refine j_getR S D_M_takesE_258 fl_R6_42 sh_Mod rfl ?_
                refine j_iload_n S D_M_takesE_261 2 rfl rfl ?_
                obtain ⟨g_262, h⟩ := gdE h
                refine j_zald S D_M_takesE_262 sh_101 g_262 ?_
                refine j_if_eq S D_M_takesE_263 (fun c_263 => ?_) (fun c_263 => ?_)
                · have h := ifT c_263 h
                  refine j_aload_n S D_M_takesE_268 1 rfl rfl ?_
                  refine j_getR S D_M_takesE_269 fl_R6_42 sh_Mod rfl ?_
                  refine j_iload_n S D_M_takesE_272 2 rfl rfl ?_
                  refine j_iload S D_M_takesE_273 0 rfl ?_
                  obtain ⟨r_275, e_275, h⟩ := bpE h
                  refine j_callSI (As := [.int r_238]) S D_M_takesE_275 ms_R6_210 (c_M_rank (cxL X) E r_238 (mem := mem) e_275) (by decide) rfl rfl (Nat.le_of_ble_eq_true rfl) ?_
                  refine j_iconst S D_M_takesE_278 ci_3 ?_
                  refine j_icmp_eq S D_M_takesE_279 (fun c_279 => ?_) (fun c_279 => ?_)
                  · have h := ifT c_279 h
                    refine j_iconst S D_M_takesE_300 ci_1 ?_
                    refine j_goto S D_M_takesE_301 ?_
                    obtain ⟨m_305, hm_305, h⟩ := ltE h
                    refine j_zast S D_M_takesE_305 sh_101 g_262 (isb_vn isb1) ?_
                    refine j_mem hm_305 ?_
                    refine j_aload_n S D_M_takesE_306 1 rfl rfl ?_
                    refine j_iload S D_M_takesE_307 0 rfl ?_
                    obtain ⟨r_309, e_309, h⟩ := bpE h
                    refine j_callSI (As := [.int r_238]) S D_M_takesE_309 ms_R6_210 (c_M_rank (cxL X) E r_238 (mem := m_305) e_309) (by decide) rfl rfl (Nat.le_of_ble_eq_true rfl) ?_
                    obtain ⟨m_312, e_312, h⟩ := bpE h
                    refine j_callVV (As := [.int r_309]) S D_M_takesE_312 mv_R6_222 (c_M_settle (cxL X) E N r_309 e_312) (by decide) sh_Mod rfl rfl rfl rfl (Nat.le_of_ble_eq_true rfl) ?_
                    refine j_aload_n S D_M_takesE_315 1 rfl rfl ?_
                    refine j_getR S D_M_takesE_316 fl_R6_39 sh_Mod rfl ?_
                    refine j_aload_n S D_M_takesE_319 1 rfl rfl ?_
                    refine j_getI S D_M_takesE_320 fl_R6_207 sh_Mod rfl ?_
                    refine j_iload S D_M_takesE_323 0 rfl ?_
                    obtain ⟨g_325, h⟩ := gdE h
                    obtain ⟨m_325, hm_325, h⟩ := ltE h
                    refine j_iast S D_M_takesE_325 sh_100 g_325 ?_
                    refine j_mem hm_325 ?_
                    refine j_aload_n S D_M_takesE_326 1 rfl rfl ?_
                    refine j_dup S D_M_takesE_327 rfl ?_
                    refine j_getI S D_M_takesE_328 fl_R6_207 sh_Mod rfl ?_
                    refine j_iconst S D_M_takesE_331 ci_1 ?_
                    refine j_iadd S D_M_takesE_332 ?_
                    obtain ⟨m_333, hm_333, h⟩ := ltE h
                    refine j_putI S D_M_takesE_333 fp_R6_207 sh_Mod rfl ?_
                    refine j_mem hm_333 ?_
                    refine j_iconst S D_M_takesE_336 ci_1 ?_
                    refine j_istore_n S D_M_takesE_337 (lv := [(3, .int 1), (4, .int r_238), (0, .ref (eb E + 91)), (1, .int b1), (2, .int b2)]) rfl ⟨rfl, (Nat.le_of_ble_eq_true rfl)⟩ ?_
                    refine j_aload_n S D_M_takesE_338 2 rfl rfl ?_
                    obtain ⟨m_339, e_339, h⟩ := bpE h
                    refine j_callVV (As := []) S D_M_takesE_339 mv_R6_204 (c_M_go (cxL X) E N e_339) (by decide) sh_Mod rfl rfl rfl rfl (Nat.le_of_ble_eq_true rfl) ?_
                    refine j_goto S D_M_takesE_342 ?_
                    refine j_locals [2, 3, 4, 0] rfl (ih b1 b2 1 m_339 h)
                  · have h := ifF c_279 h
                    refine j_iload S D_M_takesE_282 0 rfl ?_
                    obtain ⟨r_284, e_284, h⟩ := bpE h
                    refine j_callSI (As := [.int r_238]) S D_M_takesE_284 ms_R6_210 (c_M_rank (cxL X) E r_238 (mem := mem) e_284) (by decide) rfl rfl (Nat.le_of_ble_eq_true rfl) ?_
                    refine j_iconst S D_M_takesE_287 ci_3 ?_
                    refine j_dia (P := J X E 5 305 [(4, .int r_238), (0, .ref (eb E + 91)), (1, .int b1), (2, .int b2), (3, .int b3)] [.int (if r_284 ≤ 3 then (0 : Int32) else if mem 101 (ix b1) = 0 then (0 : Int32) else 1), .int b1, .ref (eb E + 101)] SH mem) (fun hj => ?_) ?_
                    · refine j_icmp_le S D_M_takesE_288 (fun c_288 => ?_) (fun c_288 => ?_)
                      · refine j_iconst S D_M_takesE_304 ci_0 ?_
                        exact j_jnT hj c_288
                      · refine j_aload_n S D_M_takesE_291 1 rfl rfl ?_
                        refine j_getR S D_M_takesE_292 fl_R6_42 sh_Mod rfl ?_
                        refine j_iload_n S D_M_takesE_295 2 rfl rfl ?_
                        refine j_zald S D_M_takesE_296 sh_101 g_262 ?_
                        refine j_dia (P := J X E 5 305 [(4, .int r_238), (0, .ref (eb E + 91)), (1, .int b1), (2, .int b2), (3, .int b3)] [.int (if mem 101 (ix b1) = 0 then (0 : Int32) else 1), .int b1, .ref (eb E + 101)] SH mem) (fun hj => ?_) ?_
                        · refine j_if_eq S D_M_takesE_297 (fun c_297 => ?_) (fun c_297 => ?_)
                          · refine j_iconst S D_M_takesE_304 ci_0 ?_
                            exact j_jnT hj c_297
                          · refine j_iconst S D_M_takesE_300 ci_1 ?_
                            refine j_goto S D_M_takesE_301 ?_
                            exact j_jnF hj c_297
                        exact j_jnF hj c_288
                    obtain ⟨m_305, hm_305, h⟩ := ltE h
                    refine j_zast S D_M_takesE_305 sh_101 g_262 (isb_vn (isb_ite isb0 (isb_ite isb0 isb1))) ?_
                    refine j_mem hm_305 ?_
                    refine j_aload_n S D_M_takesE_306 1 rfl rfl ?_
                    refine j_iload S D_M_takesE_307 0 rfl ?_
                    obtain ⟨r_309, e_309, h⟩ := bpE h
                    refine j_callSI (As := [.int r_238]) S D_M_takesE_309 ms_R6_210 (c_M_rank (cxL X) E r_238 (mem := m_305) e_309) (by decide) rfl rfl (Nat.le_of_ble_eq_true rfl) ?_
                    obtain ⟨m_312, e_312, h⟩ := bpE h
                    refine j_callVV (As := [.int r_309]) S D_M_takesE_312 mv_R6_222 (c_M_settle (cxL X) E N r_309 e_312) (by decide) sh_Mod rfl rfl rfl rfl (Nat.le_of_ble_eq_true rfl) ?_
                    refine j_aload_n S D_M_takesE_315 1 rfl rfl ?_
                    refine j_getR S D_M_takesE_316 fl_R6_39 sh_Mod rfl ?_
                    refine j_aload_n S D_M_takesE_319 1 rfl rfl ?_
                    refine j_getI S D_M_takesE_320 fl_R6_207 sh_Mod rfl ?_
                    refine j_iload S D_M_takesE_323 0 rfl ?_
                    obtain ⟨g_325, h⟩ := gdE h
                    obtain ⟨m_325, hm_325, h⟩ := ltE h
                    refine j_iast S D_M_takesE_325 sh_100 g_325 ?_
                    refine j_mem hm_325 ?_
                    refine j_aload_n S D_M_takesE_326 1 rfl rfl ?_
                    refine j_dup S D_M_takesE_327 rfl ?_
                    refine j_getI S D_M_takesE_328 fl_R6_207 sh_Mod rfl ?_
                    refine j_iconst S D_M_takesE_331 ci_1 ?_
                    refine j_iadd S D_M_takesE_332 ?_
                    obtain ⟨m_333, hm_333, h⟩ := ltE h
                    refine j_putI S D_M_takesE_333 fp_R6_207 sh_Mod rfl ?_
                    refine j_mem hm_333 ?_
                    refine j_iconst S D_M_takesE_336 ci_1 ?_
                    refine j_istore_n S D_M_takesE_337 (lv := [(3, .int 1), (4, .int r_238), (0, .ref (eb E + 91)), (1, .int b1), (2, .int b2)]) rfl ⟨rfl, (Nat.le_of_ble_eq_true rfl)⟩ ?_
                    refine j_aload_n S D_M_takesE_338 2 rfl rfl ?_
                    obtain ⟨m_339, e_339, h⟩ := bpE h
                    refine j_callVV (As := []) S D_M_takesE_339 mv_R6_204 (c_M_go (cxL X) E N e_339) (by decide) sh_Mod rfl rfl rfl rfl (Nat.le_of_ble_eq_true rfl) ?_
                    refine j_goto S D_M_takesE_342 ?_
                    refine j_locals [2, 3, 4, 0] rfl (ih b1 b2 1 m_339 h)
                · have h := ifF c_263 h
                  refine j_iconst S D_M_takesE_266 ci_0 ?_
                  exact rtMZ hR h isb0 _ _ D_M_takesE_267
          · have h := ifT c_185 h
            refine j_aload_n S D_M_takesE_188 0 rfl rfl ?_
            refine j_getI S D_M_takesE_189 fl_R6_195 sh_Mod rfl ?_
            refine j_bipush S D_M_takesE_192 cb_41 ?_
            refine j_icmp_ne S D_M_takesE_194 (fun c_194 => ?_) (fun c_194 => ?_)
            · have h := ifF c_194 h
              refine j_aload_n S D_M_takesE_237 0 rfl rfl ?_
              obtain ⟨r_238, e_238, h⟩ := bpE h
              refine j_callVI (As := []) S D_M_takesE_238 mv_R6_232 (c_M_signHere (cxL X) E e_238) (by decide) sh_Mod rfl rfl rfl rfl (Nat.le_of_ble_eq_true rfl) ?_
              refine j_istore S D_M_takesE_241 (lv := [(4, .int r_238), (0, .ref (eb E + 91)), (1, .int b1), (2, .int b2), (3, .int b3)]) rfl (Nat.le_of_ble_eq_true rfl) ?_
              refine j_iload S D_M_takesE_243 0 rfl ?_
              refine j_if_eq S D_M_takesE_245 (fun c_245 => ?_) (fun c_245 => ?_)
              · have h := ifT c_245 h
                refine j_iconst S D_M_takesE_266 ci_0 ?_
                exact rtMZ hR h isb0 _ _ D_M_takesE_267
              · have h := ifF c_245 h
                refine j_iload S D_M_takesE_248 0 rfl ?_
                obtain ⟨r_250, e_250, h⟩ := bpE h
                refine j_callSI (As := [.int r_238]) S D_M_takesE_250 ms_R6_210 (c_M_rank (cxL X) E r_238 (mem := mem) e_250) (by decide) rfl rfl (Nat.le_of_ble_eq_true rfl) ?_
                refine j_iconst S D_M_takesE_253 ci_3 ?_
                refine j_icmp_ne S D_M_takesE_254 (fun c_254 => ?_) (fun c_254 => ?_)
                · have h := ifF c_254 h
                  refine j_aload_n S D_M_takesE_268 1 rfl rfl ?_
                  refine j_getR S D_M_takesE_269 fl_R6_42 sh_Mod rfl ?_
                  refine j_iload_n S D_M_takesE_272 2 rfl rfl ?_
                  refine j_iload S D_M_takesE_273 0 rfl ?_
                  obtain ⟨r_275, e_275, h⟩ := bpE h
                  refine j_callSI (As := [.int r_238]) S D_M_takesE_275 ms_R6_210 (c_M_rank (cxL X) E r_238 (mem := mem) e_275) (by decide) rfl rfl (Nat.le_of_ble_eq_true rfl) ?_
                  refine j_iconst S D_M_takesE_278 ci_3 ?_
                  refine j_icmp_eq S D_M_takesE_279 (fun c_279 => ?_) (fun c_279 => ?_)
                  · have h := ifT c_279 h
                    refine j_iconst S D_M_takesE_300 ci_1 ?_
                    refine j_goto S D_M_takesE_301 ?_
                    obtain ⟨g_305, h⟩ := gdE h
                    obtain ⟨m_305, hm_305, h⟩ := ltE h
                    refine j_zast S D_M_takesE_305 sh_101 g_305 (isb_vn isb1) ?_
                    refine j_mem hm_305 ?_
                    refine j_aload_n S D_M_takesE_306 1 rfl rfl ?_
                    refine j_iload S D_M_takesE_307 0 rfl ?_
                    obtain ⟨r_309, e_309, h⟩ := bpE h
                    refine j_callSI (As := [.int r_238]) S D_M_takesE_309 ms_R6_210 (c_M_rank (cxL X) E r_238 (mem := m_305) e_309) (by decide) rfl rfl (Nat.le_of_ble_eq_true rfl) ?_
                    obtain ⟨m_312, e_312, h⟩ := bpE h
                    refine j_callVV (As := [.int r_309]) S D_M_takesE_312 mv_R6_222 (c_M_settle (cxL X) E N r_309 e_312) (by decide) sh_Mod rfl rfl rfl rfl (Nat.le_of_ble_eq_true rfl) ?_
                    refine j_aload_n S D_M_takesE_315 1 rfl rfl ?_
                    refine j_getR S D_M_takesE_316 fl_R6_39 sh_Mod rfl ?_
                    refine j_aload_n S D_M_takesE_319 1 rfl rfl ?_
                    refine j_getI S D_M_takesE_320 fl_R6_207 sh_Mod rfl ?_
                    refine j_iload S D_M_takesE_323 0 rfl ?_
                    obtain ⟨g_325, h⟩ := gdE h
                    obtain ⟨m_325, hm_325, h⟩ := ltE h
                    refine j_iast S D_M_takesE_325 sh_100 g_325 ?_
                    refine j_mem hm_325 ?_
                    refine j_aload_n S D_M_takesE_326 1 rfl rfl ?_
                    refine j_dup S D_M_takesE_327 rfl ?_
                    refine j_getI S D_M_takesE_328 fl_R6_207 sh_Mod rfl ?_
                    refine j_iconst S D_M_takesE_331 ci_1 ?_
                    refine j_iadd S D_M_takesE_332 ?_
                    obtain ⟨m_333, hm_333, h⟩ := ltE h
                    refine j_putI S D_M_takesE_333 fp_R6_207 sh_Mod rfl ?_
                    refine j_mem hm_333 ?_
                    refine j_iconst S D_M_takesE_336 ci_1 ?_
                    refine j_istore_n S D_M_takesE_337 (lv := [(3, .int 1), (4, .int r_238), (0, .ref (eb E + 91)), (1, .int b1), (2, .int b2)]) rfl ⟨rfl, (Nat.le_of_ble_eq_true rfl)⟩ ?_
                    refine j_aload_n S D_M_takesE_338 2 rfl rfl ?_
                    obtain ⟨m_339, e_339, h⟩ := bpE h
                    refine j_callVV (As := []) S D_M_takesE_339 mv_R6_204 (c_M_go (cxL X) E N e_339) (by decide) sh_Mod rfl rfl rfl rfl (Nat.le_of_ble_eq_true rfl) ?_
                    refine j_goto S D_M_takesE_342 ?_
                    refine j_locals [2, 3, 4, 0] rfl (ih b1 b2 1 m_339 h)
                  · have h := ifF c_279 h
                    refine j_iload S D_M_takesE_282 0 rfl ?_
                    obtain ⟨r_284, e_284, h⟩ := bpE h
                    refine j_callSI (As := [.int r_238]) S D_M_takesE_284 ms_R6_210 (c_M_rank (cxL X) E r_238 (mem := mem) e_284) (by decide) rfl rfl (Nat.le_of_ble_eq_true rfl) ?_
                    refine j_iconst S D_M_takesE_287 ci_3 ?_
                    refine j_icmp_le S D_M_takesE_288 (fun c_288 => ?_) (fun c_288 => ?_)
                    · have h := ifT c_288 h
                      refine j_iconst S D_M_takesE_304 ci_0 ?_
                      obtain ⟨g_305, h⟩ := gdE h
                      obtain ⟨m_305, hm_305, h⟩ := ltE h
                      refine j_zast S D_M_takesE_305 sh_101 g_305 (isb_vn isb0) ?_
                      refine j_mem hm_305 ?_
                      refine j_aload_n S D_M_takesE_306 1 rfl rfl ?_
                      refine j_iload S D_M_takesE_307 0 rfl ?_
                      obtain ⟨r_309, e_309, h⟩ := bpE h
                      refine j_callSI (As := [.int r_238]) S D_M_takesE_309 ms_R6_210 (c_M_rank (cxL X) E r_238 (mem := m_305) e_309) (by decide) rfl rfl (Nat.le_of_ble_eq_true rfl) ?_
                      obtain ⟨m_312, e_312, h⟩ := bpE h
                      refine j_callVV (As := [.int r_309]) S D_M_takesE_312 mv_R6_222 (c_M_settle (cxL X) E N r_309 e_312) (by decide) sh_Mod rfl rfl rfl rfl (Nat.le_of_ble_eq_true rfl) ?_
                      refine j_aload_n S D_M_takesE_315 1 rfl rfl ?_
                      refine j_getR S D_M_takesE_316 fl_R6_39 sh_Mod rfl ?_
                      refine j_aload_n S D_M_takesE_319 1 rfl rfl ?_
                      refine j_getI S D_M_takesE_320 fl_R6_207 sh_Mod rfl ?_
                      refine j_iload S D_M_takesE_323 0 rfl ?_
                      obtain ⟨g_325, h⟩ := gdE h
                      obtain ⟨m_325, hm_325, h⟩ := ltE h
                      refine j_iast S D_M_takesE_325 sh_100 g_325 ?_
                      refine j_mem hm_325 ?_
                      refine j_aload_n S D_M_takesE_326 1 rfl rfl ?_
                      refine j_dup S D_M_takesE_327 rfl ?_
                      refine j_getI S D_M_takesE_328 fl_R6_207 sh_Mod rfl ?_
                      refine j_iconst S D_M_takesE_331 ci_1 ?_
                      refine j_iadd S D_M_takesE_332 ?_
                      obtain ⟨m_333, hm_333, h⟩ := ltE h
                      refine j_putI S D_M_takesE_333 fp_R6_207 sh_Mod rfl ?_
                      refine j_mem hm_333 ?_
                      refine j_iconst S D_M_takesE_336 ci_1 ?_
                      refine j_istore_n S D_M_takesE_337 (lv := [(3, .int 1), (4, .int r_238), (0, .ref (eb E + 91)), (1, .int b1), (2, .int b2)]) rfl ⟨rfl, (Nat.le_of_ble_eq_true rfl)⟩ ?_
                      refine j_aload_n S D_M_takesE_338 2 rfl rfl ?_
                      obtain ⟨m_339, e_339, h⟩ := bpE h
                      refine j_callVV (As := []) S D_M_takesE_339 mv_R6_204 (c_M_go (cxL X) E N e_339) (by decide) sh_Mod rfl rfl rfl rfl (Nat.le_of_ble_eq_true rfl) ?_
                      refine j_goto S D_M_takesE_342 ?_
                      refine j_locals [2, 3, 4, 0] rfl (ih b1 b2 1 m_339 h)
                    · have h := ifF c_288 h
                      refine j_aload_n S D_M_takesE_291 1 rfl rfl ?_
                      refine j_getR S D_M_takesE_292 fl_R6_42 sh_Mod rfl ?_
                      refine j_iload_n S D_M_takesE_295 2 rfl rfl ?_
                      obtain ⟨g_296, h⟩ := gdE h
                      refine j_zald S D_M_takesE_296 sh_101 g_296 ?_
                      refine j_dia (P := J X E 5 305 [(4, .int r_238), (0, .ref (eb E + 91)), (1, .int b1), (2, .int b2), (3, .int b3)] [.int (if mem 101 (ix b1) = 0 then (0 : Int32) else 1), .int b1, .ref (eb E + 101)] SH mem) (fun hj => ?_) ?_
                      · refine j_if_eq S D_M_takesE_297 (fun c_297 => ?_) (fun c_297 => ?_)
                        · refine j_iconst S D_M_takesE_304 ci_0 ?_
                          exact j_jnT hj c_297
                        · refine j_iconst S D_M_takesE_300 ci_1 ?_
                          refine j_goto S D_M_takesE_301 ?_
                          exact j_jnF hj c_297
                      obtain ⟨m_305, hm_305, h⟩ := ltE h
                      refine j_zast S D_M_takesE_305 sh_101 g_296 (isb_vn (isb_ite isb0 isb1)) ?_
                      refine j_mem hm_305 ?_
                      refine j_aload_n S D_M_takesE_306 1 rfl rfl ?_
                      refine j_iload S D_M_takesE_307 0 rfl ?_
                      obtain ⟨r_309, e_309, h⟩ := bpE h
                      refine j_callSI (As := [.int r_238]) S D_M_takesE_309 ms_R6_210 (c_M_rank (cxL X) E r_238 (mem := m_305) e_309) (by decide) rfl rfl (Nat.le_of_ble_eq_true rfl) ?_
                      obtain ⟨m_312, e_312, h⟩ := bpE h
                      refine j_callVV (As := [.int r_309]) S D_M_takesE_312 mv_R6_222 (c_M_settle (cxL X) E N r_309 e_312) (by decide) sh_Mod rfl rfl rfl rfl (Nat.le_of_ble_eq_true rfl) ?_
                      refine j_aload_n S D_M_takesE_315 1 rfl rfl ?_
                      refine j_getR S D_M_takesE_316 fl_R6_39 sh_Mod rfl ?_
                      refine j_aload_n S D_M_takesE_319 1 rfl rfl ?_
                      refine j_getI S D_M_takesE_320 fl_R6_207 sh_Mod rfl ?_
                      refine j_iload S D_M_takesE_323 0 rfl ?_
                      obtain ⟨g_325, h⟩ := gdE h
                      obtain ⟨m_325, hm_325, h⟩ := ltE h
                      refine j_iast S D_M_takesE_325 sh_100 g_325 ?_
                      refine j_mem hm_325 ?_
                      refine j_aload_n S D_M_takesE_326 1 rfl rfl ?_
                      refine j_dup S D_M_takesE_327 rfl ?_
                      refine j_getI S D_M_takesE_328 fl_R6_207 sh_Mod rfl ?_
                      refine j_iconst S D_M_takesE_331 ci_1 ?_
                      refine j_iadd S D_M_takesE_332 ?_
                      obtain ⟨m_333, hm_333, h⟩ := ltE h
                      refine j_putI S D_M_takesE_333 fp_R6_207 sh_Mod rfl ?_
                      refine j_mem hm_333 ?_
                      refine j_iconst S D_M_takesE_336 ci_1 ?_
                      refine j_istore_n S D_M_takesE_337 (lv := [(3, .int 1), (4, .int r_238), (0, .ref (eb E + 91)), (1, .int b1), (2, .int b2)]) rfl ⟨rfl, (Nat.le_of_ble_eq_true rfl)⟩ ?_
                      refine j_aload_n S D_M_takesE_338 2 rfl rfl ?_
                      obtain ⟨m_339, e_339, h⟩ := bpE h
                      refine j_callVV (As := []) S D_M_takesE_339 mv_R6_204 (c_M_go (cxL X) E N e_339) (by decide) sh_Mod rfl rfl rfl rfl (Nat.le_of_ble_eq_true rfl) ?_
                      refine j_goto S D_M_takesE_342 ?_
                      refine j_locals [2, 3, 4, 0] rfl (ih b1 b2 1 m_339 h)
                · have h := ifT c_254 h
                  refine j_aload_n S D_M_takesE_257 1 rfl rfl ?_
                  refine j_getR S D_M_takesE_258 fl_R6_42 sh_Mod rfl ?_
                  refine j_iload_n S D_M_takesE_261 2 rfl rfl ?_
                  obtain ⟨g_262, h⟩ := gdE h
                  refine j_zald S D_M_takesE_262 sh_101 g_262 ?_
                  refine j_if_eq S D_M_takesE_263 (fun c_263 => ?_) (fun c_263 => ?_)
                  · have h := ifT c_263 h
                    refine j_aload_n S D_M_takesE_268 1 rfl rfl ?_
                    refine j_getR S D_M_takesE_269 fl_R6_42 sh_Mod rfl ?_
                    refine j_iload_n S D_M_takesE_272 2 rfl rfl ?_
                    refine j_iload S D_M_takesE_273 0 rfl ?_
                    obtain ⟨r_275, e_275, h⟩ := bpE h
                    refine j_callSI (As := [.int r_238]) S D_M_takesE_275 ms_R6_210 (c_M_rank (cxL X) E r_238 (mem := mem) e_275) (by decide) rfl rfl (Nat.le_of_ble_eq_true rfl) ?_
                    refine j_iconst S D_M_takesE_278 ci_3 ?_
                    refine j_icmp_eq S D_M_takesE_279 (fun c_279 => ?_) (fun c_279 => ?_)
                    · have h := ifT c_279 h
                      refine j_iconst S D_M_takesE_300 ci_1 ?_
                      refine j_goto S D_M_takesE_301 ?_
                      obtain ⟨m_305, hm_305, h⟩ := ltE h
                      refine j_zast S D_M_takesE_305 sh_101 g_262 (isb_vn isb1) ?_
                      refine j_mem hm_305 ?_
                      refine j_aload_n S D_M_takesE_306 1 rfl rfl ?_
                      refine j_iload S D_M_takesE_307 0 rfl ?_
                      obtain ⟨r_309, e_309, h⟩ := bpE h
                      refine j_callSI (As := [.int r_238]) S D_M_takesE_309 ms_R6_210 (c_M_rank (cxL X) E r_238 (mem := m_305) e_309) (by decide) rfl rfl (Nat.le_of_ble_eq_true rfl) ?_
                      obtain ⟨m_312, e_312, h⟩ := bpE h
                      refine j_callVV (As := [.int r_309]) S D_M_takesE_312 mv_R6_222 (c_M_settle (cxL X) E N r_309 e_312) (by decide) sh_Mod rfl rfl rfl rfl (Nat.le_of_ble_eq_true rfl) ?_
                      refine j_aload_n S D_M_takesE_315 1 rfl rfl ?_
                      refine j_getR S D_M_takesE_316 fl_R6_39 sh_Mod rfl ?_
                      refine j_aload_n S D_M_takesE_319 1 rfl rfl ?_
                      refine j_getI S D_M_takesE_320 fl_R6_207 sh_Mod rfl ?_
                      refine j_iload S D_M_takesE_323 0 rfl ?_
                      obtain ⟨g_325, h⟩ := gdE h
                      obtain ⟨m_325, hm_325, h⟩ := ltE h
                      refine j_iast S D_M_takesE_325 sh_100 g_325 ?_
                      refine j_mem hm_325 ?_
                      refine j_aload_n S D_M_takesE_326 1 rfl rfl ?_
                      refine j_dup S D_M_takesE_327 rfl ?_
                      refine j_getI S D_M_takesE_328 fl_R6_207 sh_Mod rfl ?_
                      refine j_iconst S D_M_takesE_331 ci_1 ?_
                      refine j_iadd S D_M_takesE_332 ?_
                      obtain ⟨m_333, hm_333, h⟩ := ltE h
                      refine j_putI S D_M_takesE_333 fp_R6_207 sh_Mod rfl ?_
                      refine j_mem hm_333 ?_
                      refine j_iconst S D_M_takesE_336 ci_1 ?_
                      refine j_istore_n S D_M_takesE_337 (lv := [(3, .int 1), (4, .int r_238), (0, .ref (eb E + 91)), (1, .int b1), (2, .int b2)]) rfl ⟨rfl, (Nat.le_of_ble_eq_true rfl)⟩ ?_
                      refine j_aload_n S D_M_takesE_338 2 rfl rfl ?_
                      obtain ⟨m_339, e_339, h⟩ := bpE h
                      refine j_callVV (As := []) S D_M_takesE_339 mv_R6_204 (c_M_go (cxL X) E N e_339) (by decide) sh_Mod rfl rfl rfl rfl (Nat.le_of_ble_eq_true rfl) ?_
                      refine j_goto S D_M_takesE_342 ?_
                      refine j_locals [2, 3, 4, 0] rfl (ih b1 b2 1 m_339 h)
                    · have h := ifF c_279 h
                      refine j_iload S D_M_takesE_282 0 rfl ?_
                      obtain ⟨r_284, e_284, h⟩ := bpE h
                      refine j_callSI (As := [.int r_238]) S D_M_takesE_284 ms_R6_210 (c_M_rank (cxL X) E r_238 (mem := mem) e_284) (by decide) rfl rfl (Nat.le_of_ble_eq_true rfl) ?_
                      refine j_iconst S D_M_takesE_287 ci_3 ?_
                      refine j_dia (P := J X E 5 305 [(4, .int r_238), (0, .ref (eb E + 91)), (1, .int b1), (2, .int b2), (3, .int b3)] [.int (if r_284 ≤ 3 then (0 : Int32) else if mem 101 (ix b1) = 0 then (0 : Int32) else 1), .int b1, .ref (eb E + 101)] SH mem) (fun hj => ?_) ?_
                      · refine j_icmp_le S D_M_takesE_288 (fun c_288 => ?_) (fun c_288 => ?_)
                        · refine j_iconst S D_M_takesE_304 ci_0 ?_
                          exact j_jnT hj c_288
                        · refine j_aload_n S D_M_takesE_291 1 rfl rfl ?_
                          refine j_getR S D_M_takesE_292 fl_R6_42 sh_Mod rfl ?_
                          refine j_iload_n S D_M_takesE_295 2 rfl rfl ?_
                          refine j_zald S D_M_takesE_296 sh_101 g_262 ?_
                          refine j_dia (P := J X E 5 305 [(4, .int r_238), (0, .ref (eb E + 91)), (1, .int b1), (2, .int b2), (3, .int b3)] [.int (if mem 101 (ix b1) = 0 then (0 : Int32) else 1), .int b1, .ref (eb E + 101)] SH mem) (fun hj => ?_) ?_
                          · refine j_if_eq S D_M_takesE_297 (fun c_297 => ?_) (fun c_297 => ?_)
                            · refine j_iconst S D_M_takesE_304 ci_0 ?_
                              exact j_jnT hj c_297
                            · refine j_iconst S D_M_takesE_300 ci_1 ?_
                              refine j_goto S D_M_takesE_301 ?_
                              exact j_jnF hj c_297
                          exact j_jnF hj c_288
                      obtain ⟨m_305, hm_305, h⟩ := ltE h
                      refine j_zast S D_M_takesE_305 sh_101 g_262 (isb_vn (isb_ite isb0 (isb_ite isb0 isb1))) ?_
                      refine j_mem hm_305 ?_
                      refine j_aload_n S D_M_takesE_306 1 rfl rfl ?_
                      refine j_iload S D_M_takesE_307 0 rfl ?_
                      obtain ⟨r_309, e_309, h⟩ := bpE h
                      refine j_callSI (As := [.int r_238]) S D_M_takesE_309 ms_R6_210 (c_M_rank (cxL X) E r_238 (mem := m_305) e_309) (by decide) rfl rfl (Nat.le_of_ble_eq_true rfl) ?_
                      obtain ⟨m_312, e_312, h⟩ := bpE h
                      refine j_callVV (As := [.int r_309]) S D_M_takesE_312 mv_R6_222 (c_M_settle (cxL X) E N r_309 e_312) (by decide) sh_Mod rfl rfl rfl rfl (Nat.le_of_ble_eq_true rfl) ?_
                      refine j_aload_n S D_M_takesE_315 1 rfl rfl ?_
                      refine j_getR S D_M_takesE_316 fl_R6_39 sh_Mod rfl ?_
                      refine j_aload_n S D_M_takesE_319 1 rfl rfl ?_
                      refine j_getI S D_M_takesE_320 fl_R6_207 sh_Mod rfl ?_
                      refine j_iload S D_M_takesE_323 0 rfl ?_
                      obtain ⟨g_325, h⟩ := gdE h
                      obtain ⟨m_325, hm_325, h⟩ := ltE h
                      refine j_iast S D_M_takesE_325 sh_100 g_325 ?_
                      refine j_mem hm_325 ?_
                      refine j_aload_n S D_M_takesE_326 1 rfl rfl ?_
                      refine j_dup S D_M_takesE_327 rfl ?_
                      refine j_getI S D_M_takesE_328 fl_R6_207 sh_Mod rfl ?_
                      refine j_iconst S D_M_takesE_331 ci_1 ?_
                      refine j_iadd S D_M_takesE_332 ?_
                      obtain ⟨m_333, hm_333, h⟩ := ltE h
                      refine j_putI S D_M_takesE_333 fp_R6_207 sh_Mod rfl ?_
                      refine j_mem hm_333 ?_
                      refine j_iconst S D_M_takesE_336 ci_1 ?_
                      refine j_istore_n S D_M_takesE_337 (lv := [(3, .int 1), (4, .int r_238), (0, .ref (eb E + 91)), (1, .int b1), (2, .int b2)]) rfl ⟨rfl, (Nat.le_of_ble_eq_true rfl)⟩ ?_
                      refine j_aload_n S D_M_takesE_338 2 rfl rfl ?_
                      obtain ⟨m_339, e_339, h⟩ := bpE h
                      refine j_callVV (As := []) S D_M_takesE_339 mv_R6_204 (c_M_go (cxL X) E N e_339) (by decide) sh_Mod rfl rfl rfl rfl (Nat.le_of_ble_eq_true rfl) ?_
                      refine j_goto S D_M_takesE_342 ?_
                      refine j_locals [2, 3, 4, 0] rfl (ih b1 b2 1 m_339 h)
                  · have h := ifF c_263 h
                    refine j_iconst S D_M_takesE_266 ci_0 ?_
                    exact rtMZ hR h isb0 _ _ D_M_takesE_267
            · have h := ifT c_194 h
              refine j_iload_n S D_M_takesE_197 1 rfl rfl ?_
              refine j_if_le S D_M_takesE_198 (fun c_198 => ?_) (fun c_198 => ?_)
              · have h := ifT c_198 h
                refine j_aload_n S D_M_takesE_237 0 rfl rfl ?_
                obtain ⟨r_238, e_238, h⟩ := bpE h
                refine j_callVI (As := []) S D_M_takesE_238 mv_R6_232 (c_M_signHere (cxL X) E e_238) (by decide) sh_Mod rfl rfl rfl rfl (Nat.le_of_ble_eq_true rfl) ?_
                refine j_istore S D_M_takesE_241 (lv := [(4, .int r_238), (0, .ref (eb E + 91)), (1, .int b1), (2, .int b2), (3, .int b3)]) rfl (Nat.le_of_ble_eq_true rfl) ?_
                refine j_iload S D_M_takesE_243 0 rfl ?_
                refine j_if_eq S D_M_takesE_245 (fun c_245 => ?_) (fun c_245 => ?_)
                · have h := ifT c_245 h
                  refine j_iconst S D_M_takesE_266 ci_0 ?_
                  exact rtMZ hR h isb0 _ _ D_M_takesE_267
                · have h := ifF c_245 h
                  refine j_iload S D_M_takesE_248 0 rfl ?_
                  obtain ⟨r_250, e_250, h⟩ := bpE h
                  refine j_callSI (As := [.int r_238]) S D_M_takesE_250 ms_R6_210 (c_M_rank (cxL X) E r_238 (mem := mem) e_250) (by decide) rfl rfl (Nat.le_of_ble_eq_true rfl) ?_
                  refine j_iconst S D_M_takesE_253 ci_3 ?_
                  refine j_icmp_ne S D_M_takesE_254 (fun c_254 => ?_) (fun c_254 => ?_)
                  · have h := ifF c_254 h
                    refine j_aload_n S D_M_takesE_268 1 rfl rfl ?_
                    refine j_getR S D_M_takesE_269 fl_R6_42 sh_Mod rfl ?_
                    refine j_iload_n S D_M_takesE_272 2 rfl rfl ?_
                    refine j_iload S D_M_takesE_273 0 rfl ?_
                    obtain ⟨r_275, e_275, h⟩ := bpE h
                    refine j_callSI (As := [.int r_238]) S D_M_takesE_275 ms_R6_210 (c_M_rank (cxL X) E r_238 (mem := mem) e_275) (by decide) rfl rfl (Nat.le_of_ble_eq_true rfl) ?_
                    refine j_iconst S D_M_takesE_278 ci_3 ?_
                    refine j_icmp_eq S D_M_takesE_279 (fun c_279 => ?_) (fun c_279 => ?_)
                    · have h := ifT c_279 h
                      refine j_iconst S D_M_takesE_300 ci_1 ?_
                      refine j_goto S D_M_takesE_301 ?_
                      obtain ⟨g_305, h⟩ := gdE h
                      obtain ⟨m_305, hm_305, h⟩ := ltE h
                      refine j_zast S D_M_takesE_305 sh_101 g_305 (isb_vn isb1) ?_
                      refine j_mem hm_305 ?_
                      refine j_aload_n S D_M_takesE_306 1 rfl rfl ?_
                      refine j_iload S D_M_takesE_307 0 rfl ?_
                      obtain ⟨r_309, e_309, h⟩ := bpE h
                      refine j_callSI (As := [.int r_238]) S D_M_takesE_309 ms_R6_210 (c_M_rank (cxL X) E r_238 (mem := m_305) e_309) (by decide) rfl rfl (Nat.le_of_ble_eq_true rfl) ?_
                      obtain ⟨m_312, e_312, h⟩ := bpE h
                      refine j_callVV (As := [.int r_309]) S D_M_takesE_312 mv_R6_222 (c_M_settle (cxL X) E N r_309 e_312) (by decide) sh_Mod rfl rfl rfl rfl (Nat.le_of_ble_eq_true rfl) ?_
                      refine j_aload_n S D_M_takesE_315 1 rfl rfl ?_
                      refine j_getR S D_M_takesE_316 fl_R6_39 sh_Mod rfl ?_
                      refine j_aload_n S D_M_takesE_319 1 rfl rfl ?_
                      refine j_getI S D_M_takesE_320 fl_R6_207 sh_Mod rfl ?_
                      refine j_iload S D_M_takesE_323 0 rfl ?_
                      obtain ⟨g_325, h⟩ := gdE h
                      obtain ⟨m_325, hm_325, h⟩ := ltE h
                      refine j_iast S D_M_takesE_325 sh_100 g_325 ?_
                      refine j_mem hm_325 ?_
                      refine j_aload_n S D_M_takesE_326 1 rfl rfl ?_
                      refine j_dup S D_M_takesE_327 rfl ?_
                      refine j_getI S D_M_takesE_328 fl_R6_207 sh_Mod rfl ?_
                      refine j_iconst S D_M_takesE_331 ci_1 ?_
                      refine j_iadd S D_M_takesE_332 ?_
                      obtain ⟨m_333, hm_333, h⟩ := ltE h
                      refine j_putI S D_M_takesE_333 fp_R6_207 sh_Mod rfl ?_
                      refine j_mem hm_333 ?_
                      refine j_iconst S D_M_takesE_336 ci_1 ?_
                      refine j_istore_n S D_M_takesE_337 (lv := [(3, .int 1), (4, .int r_238), (0, .ref (eb E + 91)), (1, .int b1), (2, .int b2)]) rfl ⟨rfl, (Nat.le_of_ble_eq_true rfl)⟩ ?_
                      refine j_aload_n S D_M_takesE_338 2 rfl rfl ?_
                      obtain ⟨m_339, e_339, h⟩ := bpE h
                      refine j_callVV (As := []) S D_M_takesE_339 mv_R6_204 (c_M_go (cxL X) E N e_339) (by decide) sh_Mod rfl rfl rfl rfl (Nat.le_of_ble_eq_true rfl) ?_
                      refine j_goto S D_M_takesE_342 ?_
                      refine j_locals [2, 3, 4, 0] rfl (ih b1 b2 1 m_339 h)
                    · have h := ifF c_279 h
                      refine j_iload S D_M_takesE_282 0 rfl ?_
                      obtain ⟨r_284, e_284, h⟩ := bpE h
                      refine j_callSI (As := [.int r_238]) S D_M_takesE_284 ms_R6_210 (c_M_rank (cxL X) E r_238 (mem := mem) e_284) (by decide) rfl rfl (Nat.le_of_ble_eq_true rfl) ?_
                      refine j_iconst S D_M_takesE_287 ci_3 ?_
                      refine j_icmp_le S D_M_takesE_288 (fun c_288 => ?_) (fun c_288 => ?_)
                      · have h := ifT c_288 h
                        refine j_iconst S D_M_takesE_304 ci_0 ?_
                        obtain ⟨g_305, h⟩ := gdE h
                        obtain ⟨m_305, hm_305, h⟩ := ltE h
                        refine j_zast S D_M_takesE_305 sh_101 g_305 (isb_vn isb0) ?_
                        refine j_mem hm_305 ?_
                        refine j_aload_n S D_M_takesE_306 1 rfl rfl ?_
                        refine j_iload S D_M_takesE_307 0 rfl ?_
                        obtain ⟨r_309, e_309, h⟩ := bpE h
                        refine j_callSI (As := [.int r_238]) S D_M_takesE_309 ms_R6_210 (c_M_rank (cxL X) E r_238 (mem := m_305) e_309) (by decide) rfl rfl (Nat.le_of_ble_eq_true rfl) ?_
                        obtain ⟨m_312, e_312, h⟩ := bpE h
                        refine j_callVV (As := [.int r_309]) S D_M_takesE_312 mv_R6_222 (c_M_settle (cxL X) E N r_309 e_312) (by decide) sh_Mod rfl rfl rfl rfl (Nat.le_of_ble_eq_true rfl) ?_
                        refine j_aload_n S D_M_takesE_315 1 rfl rfl ?_
                        refine j_getR S D_M_takesE_316 fl_R6_39 sh_Mod rfl ?_
                        refine j_aload_n S D_M_takesE_319 1 rfl rfl ?_
                        refine j_getI S D_M_takesE_320 fl_R6_207 sh_Mod rfl ?_
                        refine j_iload S D_M_takesE_323 0 rfl ?_
                        obtain ⟨g_325, h⟩ := gdE h
                        obtain ⟨m_325, hm_325, h⟩ := ltE h
                        refine j_iast S D_M_takesE_325 sh_100 g_325 ?_
                        refine j_mem hm_325 ?_
                        refine j_aload_n S D_M_takesE_326 1 rfl rfl ?_
                        refine j_dup S D_M_takesE_327 rfl ?_
                        refine j_getI S D_M_takesE_328 fl_R6_207 sh_Mod rfl ?_
                        refine j_iconst S D_M_takesE_331 ci_1 ?_
                        refine j_iadd S D_M_takesE_332 ?_
                        obtain ⟨m_333, hm_333, h⟩ := ltE h
                        refine j_putI S D_M_takesE_333 fp_R6_207 sh_Mod rfl ?_
                        refine j_mem hm_333 ?_
                        refine j_iconst S D_M_takesE_336 ci_1 ?_
                        refine j_istore_n S D_M_takesE_337 (lv := [(3, .int 1), (4, .int r_238), (0, .ref (eb E + 91)), (1, .int b1), (2, .int b2)]) rfl ⟨rfl, (Nat.le_of_ble_eq_true rfl)⟩ ?_
                        refine j_aload_n S D_M_takesE_338 2 rfl rfl ?_
                        obtain ⟨m_339, e_339, h⟩ := bpE h
                        refine j_callVV (As := []) S D_M_takesE_339 mv_R6_204 (c_M_go (cxL X) E N e_339) (by decide) sh_Mod rfl rfl rfl rfl (Nat.le_of_ble_eq_true rfl) ?_
                        refine j_goto S D_M_takesE_342 ?_
                        refine j_locals [2, 3, 4, 0] rfl (ih b1 b2 1 m_339 h)
                      · have h := ifF c_288 h
                        refine j_aload_n S D_M_takesE_291 1 rfl rfl ?_
                        refine j_getR S D_M_takesE_292 fl_R6_42 sh_Mod rfl ?_
                        refine j_iload_n S D_M_takesE_295 2 rfl rfl ?_
                        obtain ⟨g_296, h⟩ := gdE h
                        refine j_zald S D_M_takesE_296 sh_101 g_296 ?_
                        refine j_dia (P := J X E 5 305 [(4, .int r_238), (0, .ref (eb E + 91)), (1, .int b1), (2, .int b2), (3, .int b3)] [.int (if mem 101 (ix b1) = 0 then (0 : Int32) else 1), .int b1, .ref (eb E + 101)] SH mem) (fun hj => ?_) ?_
                        · refine j_if_eq S D_M_takesE_297 (fun c_297 => ?_) (fun c_297 => ?_)
                          · refine j_iconst S D_M_takesE_304 ci_0 ?_
                            exact j_jnT hj c_297
                          · refine j_iconst S D_M_takesE_300 ci_1 ?_
                            refine j_goto S D_M_takesE_301 ?_
                            exact j_jnF hj c_297
                        obtain ⟨m_305, hm_305, h⟩ := ltE h
                        refine j_zast S D_M_takesE_305 sh_101 g_296 (isb_vn (isb_ite isb0 isb1)) ?_
                        refine j_mem hm_305 ?_
                        refine j_aload_n S D_M_takesE_306 1 rfl rfl ?_
                        refine j_iload S D_M_takesE_307 0 rfl ?_
                        obtain ⟨r_309, e_309, h⟩ := bpE h
                        refine j_callSI (As := [.int r_238]) S D_M_takesE_309 ms_R6_210 (c_M_rank (cxL X) E r_238 (mem := m_305) e_309) (by decide) rfl rfl (Nat.le_of_ble_eq_true rfl) ?_
                        obtain ⟨m_312, e_312, h⟩ := bpE h
                        refine j_callVV (As := [.int r_309]) S D_M_takesE_312 mv_R6_222 (c_M_settle (cxL X) E N r_309 e_312) (by decide) sh_Mod rfl rfl rfl rfl (Nat.le_of_ble_eq_true rfl) ?_
                        refine j_aload_n S D_M_takesE_315 1 rfl rfl ?_
                        refine j_getR S D_M_takesE_316 fl_R6_39 sh_Mod rfl ?_
                        refine j_aload_n S D_M_takesE_319 1 rfl rfl ?_
                        refine j_getI S D_M_takesE_320 fl_R6_207 sh_Mod rfl ?_
                        refine j_iload S D_M_takesE_323 0 rfl ?_
                        obtain ⟨g_325, h⟩ := gdE h
                        obtain ⟨m_325, hm_325, h⟩ := ltE h
                        refine j_iast S D_M_takesE_325 sh_100 g_325 ?_
                        refine j_mem hm_325 ?_
                        refine j_aload_n S D_M_takesE_326 1 rfl rfl ?_
                        refine j_dup S D_M_takesE_327 rfl ?_
                        refine j_getI S D_M_takesE_328 fl_R6_207 sh_Mod rfl ?_
                        refine j_iconst S D_M_takesE_331 ci_1 ?_
                        refine j_iadd S D_M_takesE_332 ?_
                        obtain ⟨m_333, hm_333, h⟩ := ltE h
                        refine j_putI S D_M_takesE_333 fp_R6_207 sh_Mod rfl ?_
                        refine j_mem hm_333 ?_
                        refine j_iconst S D_M_takesE_336 ci_1 ?_
                        refine j_istore_n S D_M_takesE_337 (lv := [(3, .int 1), (4, .int r_238), (0, .ref (eb E + 91)), (1, .int b1), (2, .int b2)]) rfl ⟨rfl, (Nat.le_of_ble_eq_true rfl)⟩ ?_
                        refine j_aload_n S D_M_takesE_338 2 rfl rfl ?_
                        obtain ⟨m_339, e_339, h⟩ := bpE h
                        refine j_callVV (As := []) S D_M_takesE_339 mv_R6_204 (c_M_go (cxL X) E N e_339) (by decide) sh_Mod rfl rfl rfl rfl (Nat.le_of_ble_eq_true rfl) ?_
                        refine j_goto S D_M_takesE_342 ?_
                        refine j_locals [2, 3, 4, 0] rfl (ih b1 b2 1 m_339 h)
                  · have h := ifT c_254 h
                    refine j_aload_n S D_M_takesE_257 1 rfl rfl ?_
                    refine j_getR S D_M_takesE_258 fl_R6_42 sh_Mod rfl ?_
                    refine j_iload_n S D_M_takesE_261 2 rfl rfl ?_
                    obtain ⟨g_262, h⟩ := gdE h
                    refine j_zald S D_M_takesE_262 sh_101 g_262 ?_
                    refine j_if_eq S D_M_takesE_263 (fun c_263 => ?_) (fun c_263 => ?_)
                    · have h := ifT c_263 h
                      refine j_aload_n S D_M_takesE_268 1 rfl rfl ?_
                      refine j_getR S D_M_takesE_269 fl_R6_42 sh_Mod rfl ?_
                      refine j_iload_n S D_M_takesE_272 2 rfl rfl ?_
                      refine j_iload S D_M_takesE_273 0 rfl ?_
                      obtain ⟨r_275, e_275, h⟩ := bpE h
                      refine j_callSI (As := [.int r_238]) S D_M_takesE_275 ms_R6_210 (c_M_rank (cxL X) E r_238 (mem := mem) e_275) (by decide) rfl rfl (Nat.le_of_ble_eq_true rfl) ?_
                      refine j_iconst S D_M_takesE_278 ci_3 ?_
                      refine j_icmp_eq S D_M_takesE_279 (fun c_279 => ?_) (fun c_279 => ?_)
                      · have h := ifT c_279 h
                        refine j_iconst S D_M_takesE_300 ci_1 ?_
                        refine j_goto S D_M_takesE_301 ?_
                        obtain ⟨m_305, hm_305, h⟩ := ltE h
                        refine j_zast S D_M_takesE_305 sh_101 g_262 (isb_vn isb1) ?_
                        refine j_mem hm_305 ?_
                        refine j_aload_n S D_M_takesE_306 1 rfl rfl ?_
                        refine j_iload S D_M_takesE_307 0 rfl ?_
                        obtain ⟨r_309, e_309, h⟩ := bpE h
                        refine j_callSI (As := [.int r_238]) S D_M_takesE_309 ms_R6_210 (c_M_rank (cxL X) E r_238 (mem := m_305) e_309) (by decide) rfl rfl (Nat.le_of_ble_eq_true rfl) ?_
                        obtain ⟨m_312, e_312, h⟩ := bpE h
                        refine j_callVV (As := [.int r_309]) S D_M_takesE_312 mv_R6_222 (c_M_settle (cxL X) E N r_309 e_312) (by decide) sh_Mod rfl rfl rfl rfl (Nat.le_of_ble_eq_true rfl) ?_
                        refine j_aload_n S D_M_takesE_315 1 rfl rfl ?_
                        refine j_getR S D_M_takesE_316 fl_R6_39 sh_Mod rfl ?_
                        refine j_aload_n S D_M_takesE_319 1 rfl rfl ?_
                        refine j_getI S D_M_takesE_320 fl_R6_207 sh_Mod rfl ?_
                        refine j_iload S D_M_takesE_323 0 rfl ?_
                        obtain ⟨g_325, h⟩ := gdE h
                        obtain ⟨m_325, hm_325, h⟩ := ltE h
                        refine j_iast S D_M_takesE_325 sh_100 g_325 ?_
                        refine j_mem hm_325 ?_
                        refine j_aload_n S D_M_takesE_326 1 rfl rfl ?_
                        refine j_dup S D_M_takesE_327 rfl ?_
                        refine j_getI S D_M_takesE_328 fl_R6_207 sh_Mod rfl ?_
                        refine j_iconst S D_M_takesE_331 ci_1 ?_
                        refine j_iadd S D_M_takesE_332 ?_
                        obtain ⟨m_333, hm_333, h⟩ := ltE h
                        refine j_putI S D_M_takesE_333 fp_R6_207 sh_Mod rfl ?_
                        refine j_mem hm_333 ?_
                        refine j_iconst S D_M_takesE_336 ci_1 ?_
                        refine j_istore_n S D_M_takesE_337 (lv := [(3, .int 1), (4, .int r_238), (0, .ref (eb E + 91)), (1, .int b1), (2, .int b2)]) rfl ⟨rfl, (Nat.le_of_ble_eq_true rfl)⟩ ?_
                        refine j_aload_n S D_M_takesE_338 2 rfl rfl ?_
                        obtain ⟨m_339, e_339, h⟩ := bpE h
                        refine j_callVV (As := []) S D_M_takesE_339 mv_R6_204 (c_M_go (cxL X) E N e_339) (by decide) sh_Mod rfl rfl rfl rfl (Nat.le_of_ble_eq_true rfl) ?_
                        refine j_goto S D_M_takesE_342 ?_
                        refine j_locals [2, 3, 4, 0] rfl (ih b1 b2 1 m_339 h)
                      · have h := ifF c_279 h
                        refine j_iload S D_M_takesE_282 0 rfl ?_
                        obtain ⟨r_284, e_284, h⟩ := bpE h
                        refine j_callSI (As := [.int r_238]) S D_M_takesE_284 ms_R6_210 (c_M_rank (cxL X) E r_238 (mem := mem) e_284) (by decide) rfl rfl (Nat.le_of_ble_eq_true rfl) ?_
                        refine j_iconst S D_M_takesE_287 ci_3 ?_
                        refine j_dia (P := J X E 5 305 [(4, .int r_238), (0, .ref (eb E + 91)), (1, .int b1), (2, .int b2), (3, .int b3)] [.int (if r_284 ≤ 3 then (0 : Int32) else if mem 101 (ix b1) = 0 then (0 : Int32) else 1), .int b1, .ref (eb E + 101)] SH mem) (fun hj => ?_) ?_
                        · refine j_icmp_le S D_M_takesE_288 (fun c_288 => ?_) (fun c_288 => ?_)
                          · refine j_iconst S D_M_takesE_304 ci_0 ?_
                            exact j_jnT hj c_288
                          · refine j_aload_n S D_M_takesE_291 1 rfl rfl ?_
                            refine j_getR S D_M_takesE_292 fl_R6_42 sh_Mod rfl ?_
                            refine j_iload_n S D_M_takesE_295 2 rfl rfl ?_
                            refine j_zald S D_M_takesE_296 sh_101 g_262 ?_
                            refine j_dia (P := J X E 5 305 [(4, .int r_238), (0, .ref (eb E + 91)), (1, .int b1), (2, .int b2), (3, .int b3)] [.int (if mem 101 (ix b1) = 0 then (0 : Int32) else 1), .int b1, .ref (eb E + 101)] SH mem) (fun hj => ?_) ?_
                            · refine j_if_eq S D_M_takesE_297 (fun c_297 => ?_) (fun c_297 => ?_)
                              · refine j_iconst S D_M_takesE_304 ci_0 ?_
                                exact j_jnT hj c_297
                              · refine j_iconst S D_M_takesE_300 ci_1 ?_
                                refine j_goto S D_M_takesE_301 ?_
                                exact j_jnF hj c_297
                            exact j_jnF hj c_288
                        obtain ⟨m_305, hm_305, h⟩ := ltE h
                        refine j_zast S D_M_takesE_305 sh_101 g_262 (isb_vn (isb_ite isb0 (isb_ite isb0 isb1))) ?_
                        refine j_mem hm_305 ?_
                        refine j_aload_n S D_M_takesE_306 1 rfl rfl ?_
                        refine j_iload S D_M_takesE_307 0 rfl ?_
                        obtain ⟨r_309, e_309, h⟩ := bpE h
                        refine j_callSI (As := [.int r_238]) S D_M_takesE_309 ms_R6_210 (c_M_rank (cxL X) E r_238 (mem := m_305) e_309) (by decide) rfl rfl (Nat.le_of_ble_eq_true rfl) ?_
                        obtain ⟨m_312, e_312, h⟩ := bpE h
                        refine j_callVV (As := [.int r_309]) S D_M_takesE_312 mv_R6_222 (c_M_settle (cxL X) E N r_309 e_312) (by decide) sh_Mod rfl rfl rfl rfl (Nat.le_of_ble_eq_true rfl) ?_
                        refine j_aload_n S D_M_takesE_315 1 rfl rfl ?_
                        refine j_getR S D_M_takesE_316 fl_R6_39 sh_Mod rfl ?_
                        refine j_aload_n S D_M_takesE_319 1 rfl rfl ?_
                        refine j_getI S D_M_takesE_320 fl_R6_207 sh_Mod rfl ?_
                        refine j_iload S D_M_takesE_323 0 rfl ?_
                        obtain ⟨g_325, h⟩ := gdE h
                        obtain ⟨m_325, hm_325, h⟩ := ltE h
                        refine j_iast S D_M_takesE_325 sh_100 g_325 ?_
                        refine j_mem hm_325 ?_
                        refine j_aload_n S D_M_takesE_326 1 rfl rfl ?_
                        refine j_dup S D_M_takesE_327 rfl ?_
                        refine j_getI S D_M_takesE_328 fl_R6_207 sh_Mod rfl ?_
                        refine j_iconst S D_M_takesE_331 ci_1 ?_
                        refine j_iadd S D_M_takesE_332 ?_
                        obtain ⟨m_333, hm_333, h⟩ := ltE h
                        refine j_putI S D_M_takesE_333 fp_R6_207 sh_Mod rfl ?_
                        refine j_mem hm_333 ?_
                        refine j_iconst S D_M_takesE_336 ci_1 ?_
                        refine j_istore_n S D_M_takesE_337 (lv := [(3, .int 1), (4, .int r_238), (0, .ref (eb E + 91)), (1, .int b1), (2, .int b2)]) rfl ⟨rfl, (Nat.le_of_ble_eq_true rfl)⟩ ?_
                        refine j_aload_n S D_M_takesE_338 2 rfl rfl ?_
                        obtain ⟨m_339, e_339, h⟩ := bpE h
                        refine j_callVV (As := []) S D_M_takesE_339 mv_R6_204 (c_M_go (cxL X) E N e_339) (by decide) sh_Mod rfl rfl rfl rfl (Nat.le_of_ble_eq_true rfl) ?_
                        refine j_goto S D_M_takesE_342 ?_
                        refine j_locals [2, 3, 4, 0] rfl (ih b1 b2 1 m_339 h)
                    · have h := ifF c_263 h
                      refine j_iconst S D_M_takesE_266 ci_0 ?_
                      exact rtMZ hR h isb0 _ _ D_M_takesE_267
              · have h := ifF c_198 h
                refine j_aload_n S D_M_takesE_201 0 rfl rfl ?_
                refine j_iconst S D_M_takesE_202 ci_0 ?_
                obtain ⟨m_203, e_203, h⟩ := bpE h
                refine j_callVV (As := [.int 0]) S D_M_takesE_203 mv_R6_222 (c_M_settle (cxL X) E N 0 e_203) (by decide) sh_Mod rfl rfl rfl rfl (Nat.le_of_ble_eq_true rfl) ?_
                refine j_aload_n S D_M_takesE_206 0 rfl rfl ?_
                refine j_dup S D_M_takesE_207 rfl ?_
                refine j_getI S D_M_takesE_208 fl_R6_207 sh_Mod rfl ?_
                refine j_iconst S D_M_takesE_211 ci_1 ?_
                refine j_isub S D_M_takesE_212 ?_
                obtain ⟨m_213, hm_213, h⟩ := ltE h
                refine j_putI S D_M_takesE_213 fp_R6_207 sh_Mod rfl ?_
                refine j_mem hm_213 ?_
                refine j_iinc S D_M_takesE_216 1 rfl (congrArg (fun z => b1 + z) ci_m1) (lv := [(1, .int (b1 + (-1))), (0, .ref (eb E + 91)), (2, .int b2), (3, .int b3)]) rfl (Nat.le_of_ble_eq_true rfl) ?_
                refine j_aload_n S D_M_takesE_219 1 rfl rfl ?_
                refine j_bipush S D_M_takesE_220 cb_6 ?_
                obtain ⟨m_222, e_222, h⟩ := bpE h
                refine j_callVV (As := [.int 6]) S D_M_takesE_222 mv_R6_222 (c_M_settle (cxL X) E N 6 e_222) (by decide) sh_Mod rfl rfl rfl rfl (Nat.le_of_ble_eq_true rfl) ?_
                refine j_aload_n S D_M_takesE_225 1 rfl rfl ?_
                obtain ⟨r_226, e_226, h⟩ := bpE h
                refine j_callVI (As := []) S D_M_takesE_226 mv_R6_229 (c_M_notsOpen (cxL X) E N e_226) (by decide) sh_Mod rfl rfl rfl rfl (Nat.le_of_ble_eq_true rfl) ?_
                refine j_istore_n S D_M_takesE_229 (lv := [(2, .int r_226), (1, .int (b1 + (-1))), (0, .ref (eb E + 91)), (3, .int b3)]) rfl ⟨rfl, (Nat.le_of_ble_eq_true rfl)⟩ ?_
                refine j_aload_n S D_M_takesE_230 2 rfl rfl ?_
                obtain ⟨m_231, e_231, h⟩ := bpE h
                refine j_callVV (As := []) S D_M_takesE_231 mv_R6_204 (c_M_go (cxL X) E N e_231) (by decide) sh_Mod rfl rfl rfl rfl (Nat.le_of_ble_eq_true rfl) ?_
                refine j_goto S D_M_takesE_234 ?_
                refine j_locals [2, 1, 0, 3] rfl (ih (b1 + (-1)) r_226 b3 m_231 h)
        · have h := ifF c_40 h
          refine j_aload_n S D_M_takesE_43 0 rfl rfl ?_
          refine j_getI S D_M_takesE_44 fl_R6_189 sh_Mod rfl ?_
          refine j_iconst S D_M_takesE_47 ci_3 ?_
          refine j_icmp_ne S D_M_takesE_48 (fun c_48 => ?_) (fun c_48 => ?_)
          · have h := ifF c_48 h
            refine j_aload_n S D_M_takesE_97 0 rfl rfl ?_
            refine j_getI S D_M_takesE_98 fl_R6_189 sh_Mod rfl ?_
            refine j_iconst S D_M_takesE_101 ci_3 ?_
            refine j_icmp_ne S D_M_takesE_102 (fun c_102 => ?_) (fun c_102 => ?_)
            · have h := ifF c_102 h
              refine j_aload_n S D_M_takesE_158 0 rfl rfl ?_
              obtain ⟨r_159, m_159, e_159, h⟩ := bdE h
              refine j_callVI (As := []) S D_M_takesE_159 mv_R6_225 (c_M_takesPart (cxL X) E N e_159) (by decide) sh_Mod rfl rfl rfl rfl (Nat.le_of_ble_eq_true rfl) ?_
              refine j_if_eq S D_M_takesE_162 (fun c_162 => ?_) (fun c_162 => ?_)
              · have h := ifT c_162 h
                refine j_iconst S D_M_takesE_170 ci_0 ?_
                exact rtMZ hR h isb0 _ _ D_M_takesE_171
              · have h := ifF c_162 h
                refine j_iconst S D_M_takesE_165 ci_0 ?_
                refine j_istore_n S D_M_takesE_166 (lv := [(3, .int 0), (0, .ref (eb E + 91)), (1, .int b1), (2, .int b2)]) rfl ⟨rfl, (Nat.le_of_ble_eq_true rfl)⟩ ?_
                refine j_goto S D_M_takesE_167 ?_
                refine j_aload_n S D_M_takesE_172 1 rfl rfl ?_
                obtain ⟨r_173, e_173, h⟩ := bpE h
                refine j_callVI (As := []) S D_M_takesE_173 mv_R6_229 (c_M_notsOpen (cxL X) E N e_173) (by decide) sh_Mod rfl rfl rfl rfl (Nat.le_of_ble_eq_true rfl) ?_
                refine j_istore_n S D_M_takesE_176 (lv := [(2, .int r_173), (3, .int 0), (0, .ref (eb E + 91)), (1, .int b1)]) rfl ⟨rfl, (Nat.le_of_ble_eq_true rfl)⟩ ?_
                refine j_goto S D_M_takesE_177 ?_
                refine j_locals [2, 3, 0, 1] rfl (ih b1 r_173 0 m_159 h)
            · have h := ifT c_102 h
              refine j_aload_n S D_M_takesE_105 0 rfl rfl ?_
              refine j_getI S D_M_takesE_106 fl_R6_195 sh_Mod rfl ?_
              refine j_bipush S D_M_takesE_109 cb_40 ?_
              refine j_icmp_ne S D_M_takesE_111 (fun c_111 => ?_) (fun c_111 => ?_)
              · have h := ifF c_111 h
                refine j_aload_n S D_M_takesE_158 0 rfl rfl ?_
                obtain ⟨r_159, m_159, e_159, h⟩ := bdE h
                refine j_callVI (As := []) S D_M_takesE_159 mv_R6_225 (c_M_takesPart (cxL X) E N e_159) (by decide) sh_Mod rfl rfl rfl rfl (Nat.le_of_ble_eq_true rfl) ?_
                refine j_if_eq S D_M_takesE_162 (fun c_162 => ?_) (fun c_162 => ?_)
                · have h := ifT c_162 h
                  refine j_iconst S D_M_takesE_170 ci_0 ?_
                  exact rtMZ hR h isb0 _ _ D_M_takesE_171
                · have h := ifF c_162 h
                  refine j_iconst S D_M_takesE_165 ci_0 ?_
                  refine j_istore_n S D_M_takesE_166 (lv := [(3, .int 0), (0, .ref (eb E + 91)), (1, .int b1), (2, .int b2)]) rfl ⟨rfl, (Nat.le_of_ble_eq_true rfl)⟩ ?_
                  refine j_goto S D_M_takesE_167 ?_
                  refine j_aload_n S D_M_takesE_172 1 rfl rfl ?_
                  obtain ⟨r_173, e_173, h⟩ := bpE h
                  refine j_callVI (As := []) S D_M_takesE_173 mv_R6_229 (c_M_notsOpen (cxL X) E N e_173) (by decide) sh_Mod rfl rfl rfl rfl (Nat.le_of_ble_eq_true rfl) ?_
                  refine j_istore_n S D_M_takesE_176 (lv := [(2, .int r_173), (3, .int 0), (0, .ref (eb E + 91)), (1, .int b1)]) rfl ⟨rfl, (Nat.le_of_ble_eq_true rfl)⟩ ?_
                  refine j_goto S D_M_takesE_177 ?_
                  refine j_locals [2, 3, 0, 1] rfl (ih b1 r_173 0 m_159 h)
              · have h := ifT c_111 h
                refine j_iload_n S D_M_takesE_114 1 rfl rfl ?_
                refine j_bipush S D_M_takesE_115 cb_8 ?_
                refine j_icmp_ge S D_M_takesE_117 (fun c_117 => ?_) (fun c_117 => ?_)
                · have h := ifT c_117 h
                  refine j_aload_n S D_M_takesE_158 0 rfl rfl ?_
                  obtain ⟨r_159, m_159, e_159, h⟩ := bdE h
                  refine j_callVI (As := []) S D_M_takesE_159 mv_R6_225 (c_M_takesPart (cxL X) E N e_159) (by decide) sh_Mod rfl rfl rfl rfl (Nat.le_of_ble_eq_true rfl) ?_
                  refine j_if_eq S D_M_takesE_162 (fun c_162 => ?_) (fun c_162 => ?_)
                  · have h := ifT c_162 h
                    refine j_iconst S D_M_takesE_170 ci_0 ?_
                    exact rtMZ hR h isb0 _ _ D_M_takesE_171
                  · have h := ifF c_162 h
                    refine j_iconst S D_M_takesE_165 ci_0 ?_
                    refine j_istore_n S D_M_takesE_166 (lv := [(3, .int 0), (0, .ref (eb E + 91)), (1, .int b1), (2, .int b2)]) rfl ⟨rfl, (Nat.le_of_ble_eq_true rfl)⟩ ?_
                    refine j_goto S D_M_takesE_167 ?_
                    refine j_aload_n S D_M_takesE_172 1 rfl rfl ?_
                    obtain ⟨r_173, e_173, h⟩ := bpE h
                    refine j_callVI (As := []) S D_M_takesE_173 mv_R6_229 (c_M_notsOpen (cxL X) E N e_173) (by decide) sh_Mod rfl rfl rfl rfl (Nat.le_of_ble_eq_true rfl) ?_
                    refine j_istore_n S D_M_takesE_176 (lv := [(2, .int r_173), (3, .int 0), (0, .ref (eb E + 91)), (1, .int b1)]) rfl ⟨rfl, (Nat.le_of_ble_eq_true rfl)⟩ ?_
                    refine j_goto S D_M_takesE_177 ?_
                    refine j_locals [2, 3, 0, 1] rfl (ih b1 r_173 0 m_159 h)
                · have h := ifF c_117 h
                  refine j_aload_n S D_M_takesE_120 0 rfl rfl ?_
                  refine j_getR S D_M_takesE_121 fl_R6_39 sh_Mod rfl ?_
                  refine j_aload_n S D_M_takesE_124 0 rfl rfl ?_
                  refine j_getI S D_M_takesE_125 fl_R6_207 sh_Mod rfl ?_
                  refine j_bipush S D_M_takesE_128 cb_m11 ?_
                  obtain ⟨g_130, h⟩ := gdE h
                  obtain ⟨m_130, hm_130, h⟩ := ltE h
                  refine j_iast S D_M_takesE_130 sh_100 g_130 ?_
                  refine j_mem hm_130 ?_
                  refine j_aload_n S D_M_takesE_131 0 rfl rfl ?_
                  refine j_dup S D_M_takesE_132 rfl ?_
                  refine j_getI S D_M_takesE_133 fl_R6_207 sh_Mod rfl ?_
                  refine j_iconst S D_M_takesE_136 ci_1 ?_
                  refine j_iadd S D_M_takesE_137 ?_
                  obtain ⟨m_138, hm_138, h⟩ := ltE h
                  refine j_putI S D_M_takesE_138 fp_R6_207 sh_Mod rfl ?_
                  refine j_mem hm_138 ?_
                  refine j_iinc S D_M_takesE_141 1 rfl (congrArg (fun z => b1 + z) ci_1) (lv := [(1, .int (b1 + 1)), (0, .ref (eb E + 91)), (2, .int b2), (3, .int b3)]) rfl (Nat.le_of_ble_eq_true rfl) ?_
                  refine j_aload_n S D_M_takesE_144 1 rfl rfl ?_
                  refine j_getR S D_M_takesE_145 fl_R6_42 sh_Mod rfl ?_
                  refine j_iload_n S D_M_takesE_148 0 rfl rfl ?_
                  refine j_iconst S D_M_takesE_149 ci_0 ?_
                  obtain ⟨g_150, h⟩ := gdE h
                  obtain ⟨m_150, hm_150, h⟩ := ltE h
                  refine j_zast S D_M_takesE_150 sh_101 g_150 (isb_vn isb0) ?_
                  refine j_mem hm_150 ?_
                  refine j_aload_n S D_M_takesE_151 1 rfl rfl ?_
                  obtain ⟨m_152, e_152, h⟩ := bpE h
                  refine j_callVV (As := []) S D_M_takesE_152 mv_R6_204 (c_M_go (cxL X) E N e_152) (by decide) sh_Mod rfl rfl rfl rfl (Nat.le_of_ble_eq_true rfl) ?_
                  refine j_goto S D_M_takesE_155 ?_
                  refine j_aload_n S D_M_takesE_172 1 rfl rfl ?_
                  obtain ⟨r_173, e_173, h⟩ := bpE h
                  refine j_callVI (As := []) S D_M_takesE_173 mv_R6_229 (c_M_notsOpen (cxL X) E N e_173) (by decide) sh_Mod rfl rfl rfl rfl (Nat.le_of_ble_eq_true rfl) ?_
                  refine j_istore_n S D_M_takesE_176 (lv := [(2, .int r_173), (1, .int (b1 + 1)), (0, .ref (eb E + 91)), (3, .int b3)]) rfl ⟨rfl, (Nat.le_of_ble_eq_true rfl)⟩ ?_
                  refine j_goto S D_M_takesE_177 ?_
                  refine j_locals [2, 1, 0, 3] rfl (ih (b1 + 1) r_173 b3 m_152 h)
          · have h := ifT c_48 h
            refine j_aload_n S D_M_takesE_51 0 rfl rfl ?_
            refine j_getI S D_M_takesE_52 fl_R6_195 sh_Mod rfl ?_
            refine j_bipush S D_M_takesE_55 cb_33 ?_
            refine j_icmp_ne S D_M_takesE_57 (fun c_57 => ?_) (fun c_57 => ?_)
            · have h := ifF c_57 h
              refine j_aload_n S D_M_takesE_97 0 rfl rfl ?_
              refine j_getI S D_M_takesE_98 fl_R6_189 sh_Mod rfl ?_
              refine j_iconst S D_M_takesE_101 ci_3 ?_
              refine j_icmp_ne S D_M_takesE_102 (fun c_102 => ?_) (fun c_102 => ?_)
              · have h := ifF c_102 h
                refine j_aload_n S D_M_takesE_158 0 rfl rfl ?_
                obtain ⟨r_159, m_159, e_159, h⟩ := bdE h
                refine j_callVI (As := []) S D_M_takesE_159 mv_R6_225 (c_M_takesPart (cxL X) E N e_159) (by decide) sh_Mod rfl rfl rfl rfl (Nat.le_of_ble_eq_true rfl) ?_
                refine j_if_eq S D_M_takesE_162 (fun c_162 => ?_) (fun c_162 => ?_)
                · have h := ifT c_162 h
                  refine j_iconst S D_M_takesE_170 ci_0 ?_
                  exact rtMZ hR h isb0 _ _ D_M_takesE_171
                · have h := ifF c_162 h
                  refine j_iconst S D_M_takesE_165 ci_0 ?_
                  refine j_istore_n S D_M_takesE_166 (lv := [(3, .int 0), (0, .ref (eb E + 91)), (1, .int b1), (2, .int b2)]) rfl ⟨rfl, (Nat.le_of_ble_eq_true rfl)⟩ ?_
                  refine j_goto S D_M_takesE_167 ?_
                  refine j_aload_n S D_M_takesE_172 1 rfl rfl ?_
                  obtain ⟨r_173, e_173, h⟩ := bpE h
                  refine j_callVI (As := []) S D_M_takesE_173 mv_R6_229 (c_M_notsOpen (cxL X) E N e_173) (by decide) sh_Mod rfl rfl rfl rfl (Nat.le_of_ble_eq_true rfl) ?_
                  refine j_istore_n S D_M_takesE_176 (lv := [(2, .int r_173), (3, .int 0), (0, .ref (eb E + 91)), (1, .int b1)]) rfl ⟨rfl, (Nat.le_of_ble_eq_true rfl)⟩ ?_
                  refine j_goto S D_M_takesE_177 ?_
                  refine j_locals [2, 3, 0, 1] rfl (ih b1 r_173 0 m_159 h)
              · have h := ifT c_102 h
                refine j_aload_n S D_M_takesE_105 0 rfl rfl ?_
                refine j_getI S D_M_takesE_106 fl_R6_195 sh_Mod rfl ?_
                refine j_bipush S D_M_takesE_109 cb_40 ?_
                refine j_icmp_ne S D_M_takesE_111 (fun c_111 => ?_) (fun c_111 => ?_)
                · have h := ifF c_111 h
                  refine j_aload_n S D_M_takesE_158 0 rfl rfl ?_
                  obtain ⟨r_159, m_159, e_159, h⟩ := bdE h
                  refine j_callVI (As := []) S D_M_takesE_159 mv_R6_225 (c_M_takesPart (cxL X) E N e_159) (by decide) sh_Mod rfl rfl rfl rfl (Nat.le_of_ble_eq_true rfl) ?_
                  refine j_if_eq S D_M_takesE_162 (fun c_162 => ?_) (fun c_162 => ?_)
                  · have h := ifT c_162 h
                    refine j_iconst S D_M_takesE_170 ci_0 ?_
                    exact rtMZ hR h isb0 _ _ D_M_takesE_171
                  · have h := ifF c_162 h
                    refine j_iconst S D_M_takesE_165 ci_0 ?_
                    refine j_istore_n S D_M_takesE_166 (lv := [(3, .int 0), (0, .ref (eb E + 91)), (1, .int b1), (2, .int b2)]) rfl ⟨rfl, (Nat.le_of_ble_eq_true rfl)⟩ ?_
                    refine j_goto S D_M_takesE_167 ?_
                    refine j_aload_n S D_M_takesE_172 1 rfl rfl ?_
                    obtain ⟨r_173, e_173, h⟩ := bpE h
                    refine j_callVI (As := []) S D_M_takesE_173 mv_R6_229 (c_M_notsOpen (cxL X) E N e_173) (by decide) sh_Mod rfl rfl rfl rfl (Nat.le_of_ble_eq_true rfl) ?_
                    refine j_istore_n S D_M_takesE_176 (lv := [(2, .int r_173), (3, .int 0), (0, .ref (eb E + 91)), (1, .int b1)]) rfl ⟨rfl, (Nat.le_of_ble_eq_true rfl)⟩ ?_
                    refine j_goto S D_M_takesE_177 ?_
                    refine j_locals [2, 3, 0, 1] rfl (ih b1 r_173 0 m_159 h)
                · have h := ifT c_111 h
                  refine j_iload_n S D_M_takesE_114 1 rfl rfl ?_
                  refine j_bipush S D_M_takesE_115 cb_8 ?_
                  refine j_icmp_ge S D_M_takesE_117 (fun c_117 => ?_) (fun c_117 => ?_)
                  · have h := ifT c_117 h
                    refine j_aload_n S D_M_takesE_158 0 rfl rfl ?_
                    obtain ⟨r_159, m_159, e_159, h⟩ := bdE h
                    refine j_callVI (As := []) S D_M_takesE_159 mv_R6_225 (c_M_takesPart (cxL X) E N e_159) (by decide) sh_Mod rfl rfl rfl rfl (Nat.le_of_ble_eq_true rfl) ?_
                    refine j_if_eq S D_M_takesE_162 (fun c_162 => ?_) (fun c_162 => ?_)
                    · have h := ifT c_162 h
                      refine j_iconst S D_M_takesE_170 ci_0 ?_
                      exact rtMZ hR h isb0 _ _ D_M_takesE_171
                    · have h := ifF c_162 h
                      refine j_iconst S D_M_takesE_165 ci_0 ?_
                      refine j_istore_n S D_M_takesE_166 (lv := [(3, .int 0), (0, .ref (eb E + 91)), (1, .int b1), (2, .int b2)]) rfl ⟨rfl, (Nat.le_of_ble_eq_true rfl)⟩ ?_
                      refine j_goto S D_M_takesE_167 ?_
                      refine j_aload_n S D_M_takesE_172 1 rfl rfl ?_
                      obtain ⟨r_173, e_173, h⟩ := bpE h
                      refine j_callVI (As := []) S D_M_takesE_173 mv_R6_229 (c_M_notsOpen (cxL X) E N e_173) (by decide) sh_Mod rfl rfl rfl rfl (Nat.le_of_ble_eq_true rfl) ?_
                      refine j_istore_n S D_M_takesE_176 (lv := [(2, .int r_173), (3, .int 0), (0, .ref (eb E + 91)), (1, .int b1)]) rfl ⟨rfl, (Nat.le_of_ble_eq_true rfl)⟩ ?_
                      refine j_goto S D_M_takesE_177 ?_
                      refine j_locals [2, 3, 0, 1] rfl (ih b1 r_173 0 m_159 h)
                  · have h := ifF c_117 h
                    refine j_aload_n S D_M_takesE_120 0 rfl rfl ?_
                    refine j_getR S D_M_takesE_121 fl_R6_39 sh_Mod rfl ?_
                    refine j_aload_n S D_M_takesE_124 0 rfl rfl ?_
                    refine j_getI S D_M_takesE_125 fl_R6_207 sh_Mod rfl ?_
                    refine j_bipush S D_M_takesE_128 cb_m11 ?_
                    obtain ⟨g_130, h⟩ := gdE h
                    obtain ⟨m_130, hm_130, h⟩ := ltE h
                    refine j_iast S D_M_takesE_130 sh_100 g_130 ?_
                    refine j_mem hm_130 ?_
                    refine j_aload_n S D_M_takesE_131 0 rfl rfl ?_
                    refine j_dup S D_M_takesE_132 rfl ?_
                    refine j_getI S D_M_takesE_133 fl_R6_207 sh_Mod rfl ?_
                    refine j_iconst S D_M_takesE_136 ci_1 ?_
                    refine j_iadd S D_M_takesE_137 ?_
                    obtain ⟨m_138, hm_138, h⟩ := ltE h
                    refine j_putI S D_M_takesE_138 fp_R6_207 sh_Mod rfl ?_
                    refine j_mem hm_138 ?_
                    refine j_iinc S D_M_takesE_141 1 rfl (congrArg (fun z => b1 + z) ci_1) (lv := [(1, .int (b1 + 1)), (0, .ref (eb E + 91)), (2, .int b2), (3, .int b3)]) rfl (Nat.le_of_ble_eq_true rfl) ?_
                    refine j_aload_n S D_M_takesE_144 1 rfl rfl ?_
                    refine j_getR S D_M_takesE_145 fl_R6_42 sh_Mod rfl ?_
                    refine j_iload_n S D_M_takesE_148 0 rfl rfl ?_
                    refine j_iconst S D_M_takesE_149 ci_0 ?_
                    obtain ⟨g_150, h⟩ := gdE h
                    obtain ⟨m_150, hm_150, h⟩ := ltE h
                    refine j_zast S D_M_takesE_150 sh_101 g_150 (isb_vn isb0) ?_
                    refine j_mem hm_150 ?_
                    refine j_aload_n S D_M_takesE_151 1 rfl rfl ?_
                    obtain ⟨m_152, e_152, h⟩ := bpE h
                    refine j_callVV (As := []) S D_M_takesE_152 mv_R6_204 (c_M_go (cxL X) E N e_152) (by decide) sh_Mod rfl rfl rfl rfl (Nat.le_of_ble_eq_true rfl) ?_
                    refine j_goto S D_M_takesE_155 ?_
                    refine j_aload_n S D_M_takesE_172 1 rfl rfl ?_
                    obtain ⟨r_173, e_173, h⟩ := bpE h
                    refine j_callVI (As := []) S D_M_takesE_173 mv_R6_229 (c_M_notsOpen (cxL X) E N e_173) (by decide) sh_Mod rfl rfl rfl rfl (Nat.le_of_ble_eq_true rfl) ?_
                    refine j_istore_n S D_M_takesE_176 (lv := [(2, .int r_173), (1, .int (b1 + 1)), (0, .ref (eb E + 91)), (3, .int b3)]) rfl ⟨rfl, (Nat.le_of_ble_eq_true rfl)⟩ ?_
                    refine j_goto S D_M_takesE_177 ?_
                    refine j_locals [2, 1, 0, 3] rfl (ih (b1 + 1) r_173 b3 m_152 h)
            · have h := ifT c_57 h
              refine j_iload_n S D_M_takesE_60 2 rfl rfl ?_
              refine j_bipush S D_M_takesE_61 cb_8 ?_
              refine j_icmp_ge S D_M_takesE_63 (fun c_63 => ?_) (fun c_63 => ?_)
              · have h := ifT c_63 h
                refine j_aload_n S D_M_takesE_97 0 rfl rfl ?_
                refine j_getI S D_M_takesE_98 fl_R6_189 sh_Mod rfl ?_
                refine j_iconst S D_M_takesE_101 ci_3 ?_
                refine j_icmp_ne S D_M_takesE_102 (fun c_102 => ?_) (fun c_102 => ?_)
                · have h := ifF c_102 h
                  refine j_aload_n S D_M_takesE_158 0 rfl rfl ?_
                  obtain ⟨r_159, m_159, e_159, h⟩ := bdE h
                  refine j_callVI (As := []) S D_M_takesE_159 mv_R6_225 (c_M_takesPart (cxL X) E N e_159) (by decide) sh_Mod rfl rfl rfl rfl (Nat.le_of_ble_eq_true rfl) ?_
                  refine j_if_eq S D_M_takesE_162 (fun c_162 => ?_) (fun c_162 => ?_)
                  · have h := ifT c_162 h
                    refine j_iconst S D_M_takesE_170 ci_0 ?_
                    exact rtMZ hR h isb0 _ _ D_M_takesE_171
                  · have h := ifF c_162 h
                    refine j_iconst S D_M_takesE_165 ci_0 ?_
                    refine j_istore_n S D_M_takesE_166 (lv := [(3, .int 0), (0, .ref (eb E + 91)), (1, .int b1), (2, .int b2)]) rfl ⟨rfl, (Nat.le_of_ble_eq_true rfl)⟩ ?_
                    refine j_goto S D_M_takesE_167 ?_
                    refine j_aload_n S D_M_takesE_172 1 rfl rfl ?_
                    obtain ⟨r_173, e_173, h⟩ := bpE h
                    refine j_callVI (As := []) S D_M_takesE_173 mv_R6_229 (c_M_notsOpen (cxL X) E N e_173) (by decide) sh_Mod rfl rfl rfl rfl (Nat.le_of_ble_eq_true rfl) ?_
                    refine j_istore_n S D_M_takesE_176 (lv := [(2, .int r_173), (3, .int 0), (0, .ref (eb E + 91)), (1, .int b1)]) rfl ⟨rfl, (Nat.le_of_ble_eq_true rfl)⟩ ?_
                    refine j_goto S D_M_takesE_177 ?_
                    refine j_locals [2, 3, 0, 1] rfl (ih b1 r_173 0 m_159 h)
                · have h := ifT c_102 h
                  refine j_aload_n S D_M_takesE_105 0 rfl rfl ?_
                  refine j_getI S D_M_takesE_106 fl_R6_195 sh_Mod rfl ?_
                  refine j_bipush S D_M_takesE_109 cb_40 ?_
                  refine j_icmp_ne S D_M_takesE_111 (fun c_111 => ?_) (fun c_111 => ?_)
                  · have h := ifF c_111 h
                    refine j_aload_n S D_M_takesE_158 0 rfl rfl ?_
                    obtain ⟨r_159, m_159, e_159, h⟩ := bdE h
                    refine j_callVI (As := []) S D_M_takesE_159 mv_R6_225 (c_M_takesPart (cxL X) E N e_159) (by decide) sh_Mod rfl rfl rfl rfl (Nat.le_of_ble_eq_true rfl) ?_
                    refine j_if_eq S D_M_takesE_162 (fun c_162 => ?_) (fun c_162 => ?_)
                    · have h := ifT c_162 h
                      refine j_iconst S D_M_takesE_170 ci_0 ?_
                      exact rtMZ hR h isb0 _ _ D_M_takesE_171
                    · have h := ifF c_162 h
                      refine j_iconst S D_M_takesE_165 ci_0 ?_
                      refine j_istore_n S D_M_takesE_166 (lv := [(3, .int 0), (0, .ref (eb E + 91)), (1, .int b1), (2, .int b2)]) rfl ⟨rfl, (Nat.le_of_ble_eq_true rfl)⟩ ?_
                      refine j_goto S D_M_takesE_167 ?_
                      refine j_aload_n S D_M_takesE_172 1 rfl rfl ?_
                      obtain ⟨r_173, e_173, h⟩ := bpE h
                      refine j_callVI (As := []) S D_M_takesE_173 mv_R6_229 (c_M_notsOpen (cxL X) E N e_173) (by decide) sh_Mod rfl rfl rfl rfl (Nat.le_of_ble_eq_true rfl) ?_
                      refine j_istore_n S D_M_takesE_176 (lv := [(2, .int r_173), (3, .int 0), (0, .ref (eb E + 91)), (1, .int b1)]) rfl ⟨rfl, (Nat.le_of_ble_eq_true rfl)⟩ ?_
                      refine j_goto S D_M_takesE_177 ?_
                      refine j_locals [2, 3, 0, 1] rfl (ih b1 r_173 0 m_159 h)
                  · have h := ifT c_111 h
                    refine j_iload_n S D_M_takesE_114 1 rfl rfl ?_
                    refine j_bipush S D_M_takesE_115 cb_8 ?_
                    refine j_icmp_ge S D_M_takesE_117 (fun c_117 => ?_) (fun c_117 => ?_)
                    · have h := ifT c_117 h
                      refine j_aload_n S D_M_takesE_158 0 rfl rfl ?_
                      obtain ⟨r_159, m_159, e_159, h⟩ := bdE h
                      refine j_callVI (As := []) S D_M_takesE_159 mv_R6_225 (c_M_takesPart (cxL X) E N e_159) (by decide) sh_Mod rfl rfl rfl rfl (Nat.le_of_ble_eq_true rfl) ?_
                      refine j_if_eq S D_M_takesE_162 (fun c_162 => ?_) (fun c_162 => ?_)
                      · have h := ifT c_162 h
                        refine j_iconst S D_M_takesE_170 ci_0 ?_
                        exact rtMZ hR h isb0 _ _ D_M_takesE_171
                      · have h := ifF c_162 h
                        refine j_iconst S D_M_takesE_165 ci_0 ?_
                        refine j_istore_n S D_M_takesE_166 (lv := [(3, .int 0), (0, .ref (eb E + 91)), (1, .int b1), (2, .int b2)]) rfl ⟨rfl, (Nat.le_of_ble_eq_true rfl)⟩ ?_
                        refine j_goto S D_M_takesE_167 ?_
                        refine j_aload_n S D_M_takesE_172 1 rfl rfl ?_
                        obtain ⟨r_173, e_173, h⟩ := bpE h
                        refine j_callVI (As := []) S D_M_takesE_173 mv_R6_229 (c_M_notsOpen (cxL X) E N e_173) (by decide) sh_Mod rfl rfl rfl rfl (Nat.le_of_ble_eq_true rfl) ?_
                        refine j_istore_n S D_M_takesE_176 (lv := [(2, .int r_173), (3, .int 0), (0, .ref (eb E + 91)), (1, .int b1)]) rfl ⟨rfl, (Nat.le_of_ble_eq_true rfl)⟩ ?_
                        refine j_goto S D_M_takesE_177 ?_
                        refine j_locals [2, 3, 0, 1] rfl (ih b1 r_173 0 m_159 h)
                    · have h := ifF c_117 h
                      refine j_aload_n S D_M_takesE_120 0 rfl rfl ?_
                      refine j_getR S D_M_takesE_121 fl_R6_39 sh_Mod rfl ?_
                      refine j_aload_n S D_M_takesE_124 0 rfl rfl ?_
                      refine j_getI S D_M_takesE_125 fl_R6_207 sh_Mod rfl ?_
                      refine j_bipush S D_M_takesE_128 cb_m11 ?_
                      obtain ⟨g_130, h⟩ := gdE h
                      obtain ⟨m_130, hm_130, h⟩ := ltE h
                      refine j_iast S D_M_takesE_130 sh_100 g_130 ?_
                      refine j_mem hm_130 ?_
                      refine j_aload_n S D_M_takesE_131 0 rfl rfl ?_
                      refine j_dup S D_M_takesE_132 rfl ?_
                      refine j_getI S D_M_takesE_133 fl_R6_207 sh_Mod rfl ?_
                      refine j_iconst S D_M_takesE_136 ci_1 ?_
                      refine j_iadd S D_M_takesE_137 ?_
                      obtain ⟨m_138, hm_138, h⟩ := ltE h
                      refine j_putI S D_M_takesE_138 fp_R6_207 sh_Mod rfl ?_
                      refine j_mem hm_138 ?_
                      refine j_iinc S D_M_takesE_141 1 rfl (congrArg (fun z => b1 + z) ci_1) (lv := [(1, .int (b1 + 1)), (0, .ref (eb E + 91)), (2, .int b2), (3, .int b3)]) rfl (Nat.le_of_ble_eq_true rfl) ?_
                      refine j_aload_n S D_M_takesE_144 1 rfl rfl ?_
                      refine j_getR S D_M_takesE_145 fl_R6_42 sh_Mod rfl ?_
                      refine j_iload_n S D_M_takesE_148 0 rfl rfl ?_
                      refine j_iconst S D_M_takesE_149 ci_0 ?_
                      obtain ⟨g_150, h⟩ := gdE h
                      obtain ⟨m_150, hm_150, h⟩ := ltE h
                      refine j_zast S D_M_takesE_150 sh_101 g_150 (isb_vn isb0) ?_
                      refine j_mem hm_150 ?_
                      refine j_aload_n S D_M_takesE_151 1 rfl rfl ?_
                      obtain ⟨m_152, e_152, h⟩ := bpE h
                      refine j_callVV (As := []) S D_M_takesE_152 mv_R6_204 (c_M_go (cxL X) E N e_152) (by decide) sh_Mod rfl rfl rfl rfl (Nat.le_of_ble_eq_true rfl) ?_
                      refine j_goto S D_M_takesE_155 ?_
                      refine j_aload_n S D_M_takesE_172 1 rfl rfl ?_
                      obtain ⟨r_173, e_173, h⟩ := bpE h
                      refine j_callVI (As := []) S D_M_takesE_173 mv_R6_229 (c_M_notsOpen (cxL X) E N e_173) (by decide) sh_Mod rfl rfl rfl rfl (Nat.le_of_ble_eq_true rfl) ?_
                      refine j_istore_n S D_M_takesE_176 (lv := [(2, .int r_173), (1, .int (b1 + 1)), (0, .ref (eb E + 91)), (3, .int b3)]) rfl ⟨rfl, (Nat.le_of_ble_eq_true rfl)⟩ ?_
                      refine j_goto S D_M_takesE_177 ?_
                      refine j_locals [2, 1, 0, 3] rfl (ih (b1 + 1) r_173 b3 m_152 h)
              · have h := ifF c_63 h
                refine j_aload_n S D_M_takesE_66 0 rfl rfl ?_
                refine j_getR S D_M_takesE_67 fl_R6_39 sh_Mod rfl ?_
                refine j_aload_n S D_M_takesE_70 0 rfl rfl ?_
                refine j_getI S D_M_takesE_71 fl_R6_207 sh_Mod rfl ?_
                refine j_bipush S D_M_takesE_74 cb_m10 ?_
                obtain ⟨g_76, h⟩ := gdE h
                obtain ⟨m_76, hm_76, h⟩ := ltE h
                refine j_iast S D_M_takesE_76 sh_100 g_76 ?_
                refine j_mem hm_76 ?_
                refine j_aload_n S D_M_takesE_77 0 rfl rfl ?_
                refine j_dup S D_M_takesE_78 rfl ?_
                refine j_getI S D_M_takesE_79 fl_R6_207 sh_Mod rfl ?_
                refine j_iconst S D_M_takesE_82 ci_1 ?_
                refine j_iadd S D_M_takesE_83 ?_
                obtain ⟨m_84, hm_84, h⟩ := ltE h
                refine j_putI S D_M_takesE_84 fp_R6_207 sh_Mod rfl ?_
                refine j_mem hm_84 ?_
                refine j_iinc S D_M_takesE_87 2 rfl (congrArg (fun z => b2 + z) ci_1) (lv := [(2, .int (b2 + 1)), (0, .ref (eb E + 91)), (1, .int b1), (3, .int b3)]) rfl (Nat.le_of_ble_eq_true rfl) ?_
                refine j_aload_n S D_M_takesE_90 1 rfl rfl ?_
                obtain ⟨m_91, e_91, h⟩ := bpE h
                refine j_callVV (As := []) S D_M_takesE_91 mv_R6_204 (c_M_go (cxL X) E N e_91) (by decide) sh_Mod rfl rfl rfl rfl (Nat.le_of_ble_eq_true rfl) ?_
                refine j_goto S D_M_takesE_94 ?_
                refine j_aload_n S D_M_takesE_172 1 rfl rfl ?_
                obtain ⟨r_173, e_173, h⟩ := bpE h
                refine j_callVI (As := []) S D_M_takesE_173 mv_R6_229 (c_M_notsOpen (cxL X) E N e_173) (by decide) sh_Mod rfl rfl rfl rfl (Nat.le_of_ble_eq_true rfl) ?_
                refine j_istore_n S D_M_takesE_176 (lv := [(2, .int r_173), (0, .ref (eb E + 91)), (1, .int b1), (3, .int b3)]) rfl ⟨rfl, (Nat.le_of_ble_eq_true rfl)⟩ ?_
                refine j_goto S D_M_takesE_177 ?_
                refine j_locals [1, 2, 0, 3] rfl (ih b1 r_173 b3 m_91 h)
theorem c_M_takesE (l : Launch) (E : En) (N : Nat)  {mem : Mm} {r : Int32} {m2 : Mm} (h : f_M_takesE N mem = some (r, m2)) : CtI l E 3 y_M_takesE prog_9_method_62_code 5 (some .boolean) [.ref (eb E + 91)] SH mem r m2 := by
  refine mk_CtZ ⟨by decide, (Nat.le_of_ble_eq_true rfl)⟩ (fun X S hl hR => ?_)
  have S : Std X E prog_9_method_62_code R6 5 3 := S
  show J X E 5 0 [(0, .ref (eb E + 91))] [] SH mem
  unfold f_M_takesE at h
  refine j_iconst S D_M_takesE_0 ci_0 ?_
  refine j_istore_n S D_M_takesE_1 (lv := [(1, .int 0), (0, .ref (eb E + 91))]) rfl ⟨rfl, (Nat.le_of_ble_eq_true rfl)⟩ ?_
  refine j_iconst S D_M_takesE_2 ci_0 ?_
  refine j_istore_n S D_M_takesE_3 (lv := [(2, .int 0), (1, .int 0), (0, .ref (eb E + 91))]) rfl ⟨rfl, (Nat.le_of_ble_eq_true rfl)⟩ ?_
  refine j_iconst S D_M_takesE_4 ci_1 ?_
  refine j_istore_n S D_M_takesE_5 (lv := [(3, .int 1), (2, .int 0), (1, .int 0), (0, .ref (eb E + 91))]) rfl ⟨rfl, (Nat.le_of_ble_eq_true rfl)⟩ ?_
  refine j_aload_n S D_M_takesE_6 3 rfl rfl ?_
  refine j_iconst S D_M_takesE_7 ci_0 ?_
  obtain ⟨m_8, hm_8, h⟩ := ltE h
  refine j_putI S D_M_takesE_8 fp_R6_213 sh_Mod rfl ?_
  refine j_mem hm_8 ?_
  refine j_aload_n S D_M_takesE_11 3 rfl rfl ?_
  refine j_iconst S D_M_takesE_12 ci_0 ?_
  obtain ⟨m_13, hm_13, h⟩ := ltE h
  refine j_putI S D_M_takesE_13 fp_R6_219 sh_Mod rfl ?_
  refine j_mem hm_13 ?_
  refine j_aload_n S D_M_takesE_16 3 rfl rfl ?_
  refine j_iconst S D_M_takesE_17 ci_0 ?_
  obtain ⟨m_18, hm_18, h⟩ := ltE h
  refine j_putI S D_M_takesE_18 fp_R6_207 sh_Mod rfl ?_
  refine j_mem hm_18 ?_
  refine j_aload_n S D_M_takesE_21 3 rfl rfl ?_
  refine j_getR S D_M_takesE_22 fl_R6_42 sh_Mod rfl ?_
  refine j_iconst S D_M_takesE_25 ci_0 ?_
  refine j_iconst S D_M_takesE_26 ci_0 ?_
  obtain ⟨m_27, hm_27, h⟩ := ltE h
  refine j_zast S D_M_takesE_27 sh_101 inbc_0_10 (isb_vn isb0) ?_
  refine j_mem hm_27 ?_
  refine j_locals [3, 2, 1, 0] rfl ?_
  exact L_M_takesE_28 S N hR N 0 0 1 m_27 h

def y_M_text : MethodName := ⟨"SandPictureModel", "text", "()I"⟩
theorem D_M_text_0 : decode prog_9_method_64_code 0 = .ok (.aload_n 0, 1) ∧ 0 + 1 = 1 := by decide +kernel
theorem D_M_text_1 : decode prog_9_method_64_code 1 = .ok (.iconst 0, 1) ∧ 1 + 1 = 2 := by decide +kernel
theorem D_M_text_2 : decode prog_9_method_64_code 2 = .ok (.putfield 180, 3) ∧ 2 + 3 = 5 := by decide +kernel
theorem D_M_text_5 : decode prog_9_method_64_code 5 = .ok (.aload_n 0, 1) ∧ 5 + 1 = 6 := by decide +kernel
theorem D_M_text_6 : decode prog_9_method_64_code 6 = .ok (.iconst (-1), 1) ∧ 6 + 1 = 7 := by decide +kernel
theorem D_M_text_7 : decode prog_9_method_64_code 7 = .ok (.putfield 186, 3) ∧ 7 + 3 = 10 := by decide +kernel
theorem D_M_text_10 : decode prog_9_method_64_code 10 = .ok (.aload_n 0, 1) ∧ 10 + 1 = 11 := by decide +kernel
theorem D_M_text_11 : decode prog_9_method_64_code 11 = .ok (.invokevirtual 204, 3) ∧ 11 + 3 = 14 := by decide +kernel
theorem D_M_text_14 : decode prog_9_method_64_code 14 = .ok (.aload_n 0, 1) ∧ 14 + 1 = 15 := by decide +kernel
theorem D_M_text_15 : decode prog_9_method_64_code 15 = .ok (.invokevirtual 235, 3) ∧ 15 + 3 = 18 := by decide +kernel
theorem D_M_text_18 : decode prog_9_method_64_code 18 = .ok (.ifCond .eq 14, 3) ∧ ((18 : Nat) : Int) + 14 = ((32 : Nat) : Int) ∧ 18 + 3 = 21 := by decide +kernel
theorem D_M_text_32 : decode prog_9_method_64_code 32 = .ok (.iconst 0, 1) ∧ 32 + 1 = 33 := by decide +kernel
theorem D_M_text_33 : decode prog_9_method_64_code 33 = .ok (.istore_n 1, 1) ∧ 33 + 1 = 34 := by decide +kernel
theorem D_M_text_34 : decode prog_9_method_64_code 34 = .ok (.aload_n 0, 1) ∧ 34 + 1 = 35 := by decide +kernel
theorem D_M_text_35 : decode prog_9_method_64_code 35 = .ok (.iconst 0, 1) ∧ 35 + 1 = 36 := by decide +kernel
theorem D_M_text_36 : decode prog_9_method_64_code 36 = .ok (.putfield 177, 3) ∧ 36 + 3 = 39 := by decide +kernel
theorem D_M_text_39 : decode prog_9_method_64_code 39 = .ok (.iload_n 1, 1) ∧ 39 + 1 = 40 := by decide +kernel
theorem D_M_text_40 : decode prog_9_method_64_code 40 = .ok (.ifCond .ne 11, 3) ∧ ((40 : Nat) : Int) + 11 = ((51 : Nat) : Int) ∧ 40 + 3 = 43 := by decide +kernel
theorem D_M_text_43 : decode prog_9_method_64_code 43 = .ok (.bipush (-100), 2) ∧ 43 + 2 = 45 := by decide +kernel
theorem D_M_text_45 : decode prog_9_method_64_code 45 = .ok (.aload_n 0, 1) ∧ 45 + 1 = 46 := by decide +kernel
theorem D_M_text_46 : decode prog_9_method_64_code 46 = .ok (.getfield 183, 3) ∧ 46 + 3 = 49 := by decide +kernel
theorem D_M_text_49 : decode prog_9_method_64_code 49 = .ok (.isub, 1) ∧ 49 + 1 = 50 := by decide +kernel
theorem D_M_text_50 : decode prog_9_method_64_code 50 = .ok (.ireturn, 1) := by decide +kernel
theorem D_M_text_21 : decode prog_9_method_64_code 21 = .ok (.aload_n 0, 1) ∧ 21 + 1 = 22 := by decide +kernel
theorem D_M_text_22 : decode prog_9_method_64_code 22 = .ok (.invokevirtual 238, 3) ∧ 22 + 3 = 25 := by decide +kernel
theorem D_M_text_28 : decode prog_9_method_64_code 28 = .ok (.iconst 1, 1) ∧ 28 + 1 = 29 := by decide +kernel
theorem D_M_text_29 : decode prog_9_method_64_code 29 = .ok (.goto 4, 3) ∧ ((29 : Nat) : Int) + 4 = ((33 : Nat) : Int) := by decide +kernel
theorem D_M_text_25 : decode prog_9_method_64_code 25 = .ok (.ifCond .eq 7, 3) ∧ ((25 : Nat) : Int) + 7 = ((32 : Nat) : Int) ∧ 25 + 3 = 28 := by decide +kernel
theorem D_M_text_51 : decode prog_9_method_64_code 51 = .ok (.aload_n 0, 1) ∧ 51 + 1 = 52 := by decide +kernel
theorem D_M_text_52 : decode prog_9_method_64_code 52 = .ok (.getfield 9, 3) ∧ 52 + 3 = 55 := by decide +kernel
theorem D_M_text_55 : decode prog_9_method_64_code 55 = .ok (.bipush 6, 2) ∧ 55 + 2 = 57 := by decide +kernel
theorem D_M_text_57 : decode prog_9_method_64_code 57 = .ok (.iaload, 1) ∧ 57 + 1 = 58 := by decide +kernel
theorem D_M_text_58 : decode prog_9_method_64_code 58 = .ok (.bipush 14, 2) ∧ 58 + 2 = 60 := by decide +kernel
theorem D_M_text_60 : decode prog_9_method_64_code 60 = .ok (.if_icmp .ne 6, 3) ∧ ((60 : Nat) : Int) + 6 = ((66 : Nat) : Int) ∧ 60 + 3 = 63 := by decide +kernel
theorem D_M_text_66 : decode prog_9_method_64_code 66 = .ok (.aload_n 0, 1) ∧ 66 + 1 = 67 := by decide +kernel
theorem D_M_text_67 : decode prog_9_method_64_code 67 = .ok (.getfield 9, 3) ∧ 67 + 3 = 70 := by decide +kernel
theorem D_M_text_70 : decode prog_9_method_64_code 70 = .ok (.bipush 6, 2) ∧ 70 + 2 = 72 := by decide +kernel
theorem D_M_text_72 : decode prog_9_method_64_code 72 = .ok (.iaload, 1) ∧ 72 + 1 = 73 := by decide +kernel
theorem D_M_text_73 : decode prog_9_method_64_code 73 = .ok (.istore_n 2, 1) ∧ 73 + 1 = 74 := by decide +kernel
theorem D_M_text_74 : decode prog_9_method_64_code 74 = .ok (.aload_n 0, 1) ∧ 74 + 1 = 75 := by decide +kernel
theorem D_M_text_75 : decode prog_9_method_64_code 75 = .ok (.getfield 9, 3) ∧ 75 + 3 = 78 := by decide +kernel
theorem D_M_text_78 : decode prog_9_method_64_code 78 = .ok (.bipush 64, 2) ∧ 78 + 2 = 80 := by decide +kernel
theorem D_M_text_80 : decode prog_9_method_64_code 80 = .ok (.iconst 2, 1) ∧ 80 + 1 = 81 := by decide +kernel
theorem D_M_text_81 : decode prog_9_method_64_code 81 = .ok (.iload_n 2, 1) ∧ 81 + 1 = 82 := by decide +kernel
theorem D_M_text_82 : decode prog_9_method_64_code 82 = .ok (.imul, 1) ∧ 82 + 1 = 83 := by decide +kernel
theorem D_M_text_83 : decode prog_9_method_64_code 83 = .ok (.iadd, 1) ∧ 83 + 1 = 84 := by decide +kernel
theorem D_M_text_84 : decode prog_9_method_64_code 84 = .ok (.sipush 1000, 3) ∧ 84 + 3 = 87 := by decide +kernel
theorem D_M_text_87 : decode prog_9_method_64_code 87 = .ok (.aload_n 0, 1) ∧ 87 + 1 = 88 := by decide +kernel
theorem D_M_text_88 : decode prog_9_method_64_code 88 = .ok (.getfield 201, 3) ∧ 88 + 3 = 91 := by decide +kernel
theorem D_M_text_91 : decode prog_9_method_64_code 91 = .ok (.imul, 1) ∧ 91 + 1 = 92 := by decide +kernel
theorem D_M_text_92 : decode prog_9_method_64_code 92 = .ok (.aload_n 0, 1) ∧ 92 + 1 = 93 := by decide +kernel
theorem D_M_text_93 : decode prog_9_method_64_code 93 = .ok (.getfield 213, 3) ∧ 93 + 3 = 96 := by decide +kernel
theorem D_M_text_96 : decode prog_9_method_64_code 96 = .ok (.iadd, 1) ∧ 96 + 1 = 97 := by decide +kernel
theorem D_M_text_97 : decode prog_9_method_64_code 97 = .ok (.iastore, 1) ∧ 97 + 1 = 98 := by decide +kernel
theorem D_M_text_98 : decode prog_9_method_64_code 98 = .ok (.aload_n 0, 1) ∧ 98 + 1 = 99 := by decide +kernel
theorem D_M_text_99 : decode prog_9_method_64_code 99 = .ok (.getfield 9, 3) ∧ 99 + 3 = 102 := by decide +kernel
theorem D_M_text_102 : decode prog_9_method_64_code 102 = .ok (.bipush 64, 2) ∧ 102 + 2 = 104 := by decide +kernel
theorem D_M_text_104 : decode prog_9_method_64_code 104 = .ok (.iconst 2, 1) ∧ 104 + 1 = 105 := by decide +kernel
theorem D_M_text_105 : decode prog_9_method_64_code 105 = .ok (.iload_n 2, 1) ∧ 105 + 1 = 106 := by decide +kernel
theorem D_M_text_106 : decode prog_9_method_64_code 106 = .ok (.imul, 1) ∧ 106 + 1 = 107 := by decide +kernel
theorem D_M_text_107 : decode prog_9_method_64_code 107 = .ok (.iadd, 1) ∧ 107 + 1 = 108 := by decide +kernel
theorem D_M_text_108 : decode prog_9_method_64_code 108 = .ok (.iconst 1, 1) ∧ 108 + 1 = 109 := by decide +kernel
theorem D_M_text_109 : decode prog_9_method_64_code 109 = .ok (.iadd, 1) ∧ 109 + 1 = 110 := by decide +kernel
theorem D_M_text_110 : decode prog_9_method_64_code 110 = .ok (.aload_n 0, 1) ∧ 110 + 1 = 111 := by decide +kernel
theorem D_M_text_111 : decode prog_9_method_64_code 111 = .ok (.getfield 219, 3) ∧ 111 + 3 = 114 := by decide +kernel
theorem D_M_text_114 : decode prog_9_method_64_code 114 = .ok (.iastore, 1) ∧ 114 + 1 = 115 := by decide +kernel
theorem D_M_text_115 : decode prog_9_method_64_code 115 = .ok (.iconst 0, 1) ∧ 115 + 1 = 116 := by decide +kernel
theorem D_M_text_116 : decode prog_9_method_64_code 116 = .ok (.istore_n 3, 1) ∧ 116 + 1 = 117 := by decide +kernel
theorem D_M_text_117 : decode prog_9_method_64_code 117 = .ok (.iload_n 3, 1) ∧ 117 + 1 = 118 := by decide +kernel
theorem D_M_text_118 : decode prog_9_method_64_code 118 = .ok (.aload_n 0, 1) ∧ 118 + 1 = 119 := by decide +kernel
theorem D_M_text_119 : decode prog_9_method_64_code 119 = .ok (.getfield 213, 3) ∧ 119 + 3 = 122 := by decide +kernel
theorem D_M_text_122 : decode prog_9_method_64_code 122 = .ok (.if_icmp .ge 29, 3) ∧ ((122 : Nat) : Int) + 29 = ((151 : Nat) : Int) ∧ 122 + 3 = 125 := by decide +kernel
theorem D_M_text_125 : decode prog_9_method_64_code 125 = .ok (.aload_n 0, 1) ∧ 125 + 1 = 126 := by decide +kernel
theorem D_M_text_126 : decode prog_9_method_64_code 126 = .ok (.getfield 9, 3) ∧ 126 + 3 = 129 := by decide +kernel
theorem D_M_text_129 : decode prog_9_method_64_code 129 = .ok (.bipush 92, 2) ∧ 129 + 2 = 131 := by decide +kernel
theorem D_M_text_131 : decode prog_9_method_64_code 131 = .ok (.bipush 96, 2) ∧ 131 + 2 = 133 := by decide +kernel
theorem D_M_text_133 : decode prog_9_method_64_code 133 = .ok (.iload_n 2, 1) ∧ 133 + 1 = 134 := by decide +kernel
theorem D_M_text_134 : decode prog_9_method_64_code 134 = .ok (.imul, 1) ∧ 134 + 1 = 135 := by decide +kernel
theorem D_M_text_135 : decode prog_9_method_64_code 135 = .ok (.iadd, 1) ∧ 135 + 1 = 136 := by decide +kernel
theorem D_M_text_136 : decode prog_9_method_64_code 136 = .ok (.iload_n 3, 1) ∧ 136 + 1 = 137 := by decide +kernel
theorem D_M_text_137 : decode prog_9_method_64_code 137 = .ok (.iadd, 1) ∧ 137 + 1 = 138 := by decide +kernel
theorem D_M_text_138 : decode prog_9_method_64_code 138 = .ok (.aload_n 0, 1) ∧ 138 + 1 = 139 := by decide +kernel
theorem D_M_text_139 : decode prog_9_method_64_code 139 = .ok (.getfield 36, 3) ∧ 139 + 3 = 142 := by decide +kernel
theorem D_M_text_142 : decode prog_9_method_64_code 142 = .ok (.iload_n 3, 1) ∧ 142 + 1 = 143 := by decide +kernel
theorem D_M_text_143 : decode prog_9_method_64_code 143 = .ok (.iaload, 1) ∧ 143 + 1 = 144 := by decide +kernel
theorem D_M_text_144 : decode prog_9_method_64_code 144 = .ok (.iastore, 1) ∧ 144 + 1 = 145 := by decide +kernel
theorem D_M_text_145 : decode prog_9_method_64_code 145 = .ok (.iinc 3 1, 3) ∧ 145 + 3 = 148 := by decide +kernel
theorem D_M_text_148 : decode prog_9_method_64_code 148 = .ok (.goto (-31), 3) ∧ ((148 : Nat) : Int) + (-31) = ((117 : Nat) : Int) := by decide +kernel
theorem D_M_text_151 : decode prog_9_method_64_code 151 = .ok (.aload_n 0, 1) ∧ 151 + 1 = 152 := by decide +kernel
theorem D_M_text_152 : decode prog_9_method_64_code 152 = .ok (.getfield 9, 3) ∧ 152 + 3 = 155 := by decide +kernel
theorem D_M_text_155 : decode prog_9_method_64_code 155 = .ok (.bipush 6, 2) ∧ 155 + 2 = 157 := by decide +kernel
theorem D_M_text_157 : decode prog_9_method_64_code 157 = .ok (.dup2, 1) ∧ 157 + 1 = 158 := by decide +kernel
theorem D_M_text_158 : decode prog_9_method_64_code 158 = .ok (.iaload, 1) ∧ 158 + 1 = 159 := by decide +kernel
theorem D_M_text_159 : decode prog_9_method_64_code 159 = .ok (.iconst 1, 1) ∧ 159 + 1 = 160 := by decide +kernel
theorem D_M_text_160 : decode prog_9_method_64_code 160 = .ok (.iadd, 1) ∧ 160 + 1 = 161 := by decide +kernel
theorem D_M_text_161 : decode prog_9_method_64_code 161 = .ok (.iastore, 1) ∧ 161 + 1 = 162 := by decide +kernel
theorem D_M_text_162 : decode prog_9_method_64_code 162 = .ok (.iload_n 2, 1) ∧ 162 + 1 = 163 := by decide +kernel
theorem D_M_text_163 : decode prog_9_method_64_code 163 = .ok (.ireturn, 1) := by decide +kernel
theorem D_M_text_63 : decode prog_9_method_64_code 63 = .ok (.ldc 88, 2) ∧ 63 + 2 = 65 := by decide +kernel
theorem D_M_text_65 : decode prog_9_method_64_code 65 = .ok (.ireturn, 1) := by decide +kernel
def f_M_text_L117  : Nat → Int32 → Int32 → Int32 → Mm → Option (Int32 × Mm)
  | 0, _, _, _, _ => none
  | n + 1, b1, b2, b3, mem => if mem 91 17 ≤ b3 then some (b3, mem) else if inb b3 96 = true then if inb ((92 + (96 * b2)) + b3) 1436 = true then lt (mst mem 92 (ix ((92 + (96 * b2)) + b3)) (mem 99 (ix b3))) fun m_144 => f_M_text_L117 n b1 b2 (b3 + 1) m_144 else none else none
def f_M_text (N : Nat)  (mem : Mm) : Option (Int32 × Mm) := lt (mst mem 91 8 0) fun m_2 => lt (mst m_2 91 12 (-1)) fun m_7 => bp (f_M_go N m_7) fun m_11 => bd (f_M_takesKey N m_11) fun r_15 m_15 => if r_15 = 0 then lt (mst m_15 91 7 0) fun m_36 => some ((-100) - (m_36 91 9), m_36) else bd (f_M_takesE N m_15) fun r_22 m_22 => lt (if r_22 = 0 then (0 : Int32) else 1) fun x_33 => lt (mst m_22 91 7 0) fun m_36 => if x_33 = 0 then some ((-100) - (m_36 91 9), m_36) else if m_36 92 (ix 6) = 14 then some ((-1000000003), m_36) else lt (m_36 92 (ix 6)) fun x_73 => if inb (64 + (2 * x_73)) 1436 = true then lt (mst m_36 92 (ix (64 + (2 * x_73))) ((1000 * (m_36 91 13)) + (m_36 91 17))) fun m_97 => if inb ((64 + (2 * x_73)) + 1) 1436 = true then lt (mst m_97 92 (ix ((64 + (2 * x_73)) + 1)) (m_97 91 18)) fun m_114 => bd (f_M_text_L117 N x_33 x_73 0 m_114) fun y_117 m_117 => lt (mst m_117 92 (ix 6) ((m_117 92 (ix 6)) + 1)) fun m_161 => some (x_73, m_161) else none else none
theorem L_M_text_117 {X : Cx} {E : En} (S : Std X E prog_9_method_64_code R6 4 4)  : ∀ (n : Nat) (b1 : Int32) (b2 : Int32) (b3 : Int32) (mem : Mm) (z : Int32) (m2 : Mm), f_M_text_L117 n b1 b2 b3 mem = some (z, m2) → J X E 4 151 [(0, .ref (eb E + 91)), (1, .int b1), (2, .int b2), (3, .int z)] [] SH m2 → J X E 4 117 [(0, .ref (eb E + 91)), (1, .int b1), (2, .int b2), (3, .int b3)] [] SH mem := by
  intro n
  induction n with
  | zero =>
    intro b1 b2 b3 mem z m2 h hk; cases h
  | succ n ih =>
    intro b1 b2 b3 mem z m2 h hk
    rw [f_M_text_L117] at h
    refine j_iload_n S D_M_text_117 3 rfl rfl ?_
    refine j_aload_n S D_M_text_118 0 rfl rfl ?_
    refine j_getI S D_M_text_119 fl_R6_213 sh_Mod rfl ?_
    refine j_icmp_ge S D_M_text_122 (fun c_122 => ?_) (fun c_122 => ?_)
    · have h := ifT c_122 h
      cases h
      exact j_locals [0, 1, 2, 3] rfl hk
    · have h := ifF c_122 h
      refine j_aload_n S D_M_text_125 0 rfl rfl ?_
      refine j_getR S D_M_text_126 fl_R6_9 sh_Mod rfl ?_
      refine j_bipush S D_M_text_129 cb_92 ?_
      refine j_bipush S D_M_text_131 cb_96 ?_
      refine j_iload_n S D_M_text_133 2 rfl rfl ?_
      refine j_imul S D_M_text_134 ?_
      refine j_iadd S D_M_text_135 ?_
      refine j_iload_n S D_M_text_136 3 rfl rfl ?_
      refine j_iadd S D_M_text_137 ?_
      refine j_aload_n S D_M_text_138 0 rfl rfl ?_
      refine j_getR S D_M_text_139 fl_R6_36 sh_Mod rfl ?_
      refine j_iload_n S D_M_text_142 3 rfl rfl ?_
      obtain ⟨g_143, h⟩ := gdE h
      refine j_iald S D_M_text_143 sh_99 g_143 ?_
      obtain ⟨g_144, h⟩ := gdE h
      obtain ⟨m_144, hm_144, h⟩ := ltE h
      refine j_iast S D_M_text_144 sh_92 g_144 ?_
      refine j_mem hm_144 ?_
      refine j_iinc S D_M_text_145 3 rfl (congrArg (fun z => b3 + z) ci_1) (lv := [(3, .int (b3 + 1)), (0, .ref (eb E + 91)), (1, .int b1), (2, .int b2)]) rfl (Nat.le_of_ble_eq_true rfl) ?_
      refine j_goto S D_M_text_148 ?_
      refine j_locals [1, 2, 3, 0] rfl (ih b1 b2 (b3 + 1) m_144 _ _ h hk)
theorem c_M_text (l : Launch) (E : En) (N : Nat)  {mem : Mm} {r : Int32} {m2 : Mm} (h : f_M_text N mem = some (r, m2)) : CtI l E 4 y_M_text prog_9_method_64_code 4 (some .int) [.ref (eb E + 91)] SH mem r m2 := by
  refine mk_CtI ⟨by decide, (Nat.le_of_ble_eq_true rfl)⟩ (fun X S hl hR => ?_)
  have S : Std X E prog_9_method_64_code R6 4 4 := S
  show J X E 4 0 [(0, .ref (eb E + 91))] [] SH mem
  unfold f_M_text at h
  refine j_aload_n S D_M_text_0 0 rfl rfl ?_
  refine j_iconst S D_M_text_1 ci_0 ?_
  obtain ⟨m_2, hm_2, h⟩ := ltE h
  refine j_putI S D_M_text_2 fp_R6_180 sh_Mod rfl ?_
  refine j_mem hm_2 ?_
  refine j_aload_n S D_M_text_5 0 rfl rfl ?_
  refine j_iconst S D_M_text_6 ci_m1 ?_
  obtain ⟨m_7, hm_7, h⟩ := ltE h
  refine j_putI S D_M_text_7 fp_R6_186 sh_Mod rfl ?_
  refine j_mem hm_7 ?_
  refine j_aload_n S D_M_text_10 0 rfl rfl ?_
  obtain ⟨m_11, e_11, h⟩ := bpE h
  refine j_callVV (As := []) S D_M_text_11 mv_R6_204 (c_M_go (cxL X) E N e_11) (by decide) sh_Mod rfl rfl rfl rfl (Nat.le_of_ble_eq_true rfl) ?_
  refine j_aload_n S D_M_text_14 0 rfl rfl ?_
  obtain ⟨r_15, m_15, e_15, h⟩ := bdE h
  refine j_callVI (As := []) S D_M_text_15 mv_R6_235 (c_M_takesKey (cxL X) E N e_15) (by decide) sh_Mod rfl rfl rfl rfl (Nat.le_of_ble_eq_true rfl) ?_
  refine j_if_eq S D_M_text_18 (fun c_18 => ?_) (fun c_18 => ?_)
  · have h := ifT c_18 h
    refine j_iconst S D_M_text_32 ci_0 ?_
    refine j_istore_n S D_M_text_33 (lv := [(1, .int 0), (0, .ref (eb E + 91))]) rfl ⟨rfl, (Nat.le_of_ble_eq_true rfl)⟩ ?_
    refine j_aload_n S D_M_text_34 1 rfl rfl ?_
    refine j_iconst S D_M_text_35 ci_0 ?_
    obtain ⟨m_36, hm_36, h⟩ := ltE h
    refine j_putI S D_M_text_36 fp_R6_177 sh_Mod rfl ?_
    refine j_mem hm_36 ?_
    refine j_iload_n S D_M_text_39 0 rfl rfl ?_
    refine j_if_ne S D_M_text_40 (fun c_ => absurd c_ (by decide +kernel)) (fun _ => ?_)
    refine j_bipush S D_M_text_43 cb_m100 ?_
    refine j_aload_n S D_M_text_45 1 rfl rfl ?_
    refine j_getI S D_M_text_46 fl_R6_183 sh_Mod rfl ?_
    refine j_isub S D_M_text_49 ?_
    exact rtM hR h _ _ D_M_text_50
  · have h := ifF c_18 h
    refine j_aload_n S D_M_text_21 0 rfl rfl ?_
    obtain ⟨r_22, m_22, e_22, h⟩ := bdE h
    refine j_callVI (As := []) S D_M_text_22 mv_R6_238 (c_M_takesE (cxL X) E N e_22) (by decide) sh_Mod rfl rfl rfl rfl (Nat.le_of_ble_eq_true rfl) ?_
    refine j_dia (P := J X E 4 33 [(0, .ref (eb E + 91))] [.int (if r_22 = 0 then (0 : Int32) else 1)] SH m_22) (fun hj => ?_) ?_
    · refine j_if_eq S D_M_text_25 (fun c_25 => ?_) (fun c_25 => ?_)
      · refine j_iconst S D_M_text_32 ci_0 ?_
        exact j_jnT hj c_25
      · refine j_iconst S D_M_text_28 ci_1 ?_
        refine j_goto S D_M_text_29 ?_
        exact j_jnF hj c_25
    obtain ⟨x_33, hx_33, h⟩ := ltE h
    refine j_nm hx_33 ?_
    refine j_istore_n S D_M_text_33 (lv := [(1, .int x_33), (0, .ref (eb E + 91))]) rfl ⟨rfl, (Nat.le_of_ble_eq_true rfl)⟩ ?_
    refine j_aload_n S D_M_text_34 1 rfl rfl ?_
    refine j_iconst S D_M_text_35 ci_0 ?_
    obtain ⟨m_36, hm_36, h⟩ := ltE h
    refine j_putI S D_M_text_36 fp_R6_177 sh_Mod rfl ?_
    refine j_mem hm_36 ?_
    refine j_iload_n S D_M_text_39 0 rfl rfl ?_
    refine j_if_ne S D_M_text_40 (fun c_40 => ?_) (fun c_40 => ?_)
    · have h := ifF c_40 h
      refine j_aload_n S D_M_text_51 1 rfl rfl ?_
      refine j_getR S D_M_text_52 fl_R6_9 sh_Mod rfl ?_
      refine j_bipush S D_M_text_55 cb_6 ?_
      refine j_iald S D_M_text_57 sh_92 inbc_6_1436 ?_
      refine j_bipush S D_M_text_58 cb_14 ?_
      refine j_icmp_ne S D_M_text_60 (fun c_60 => ?_) (fun c_60 => ?_)
      · have h := ifF c_60 h
        refine j_aload_n S D_M_text_66 1 rfl rfl ?_
        refine j_getR S D_M_text_67 fl_R6_9 sh_Mod rfl ?_
        refine j_bipush S D_M_text_70 cb_6 ?_
        refine j_iald S D_M_text_72 sh_92 inbc_6_1436 ?_
        obtain ⟨x_73, hx_73, h⟩ := ltE h
        refine j_nm hx_73 ?_
        refine j_istore_n S D_M_text_73 (lv := [(2, .int x_73), (1, .int x_33), (0, .ref (eb E + 91))]) rfl ⟨rfl, (Nat.le_of_ble_eq_true rfl)⟩ ?_
        refine j_aload_n S D_M_text_74 2 rfl rfl ?_
        refine j_getR S D_M_text_75 fl_R6_9 sh_Mod rfl ?_
        refine j_bipush S D_M_text_78 cb_64 ?_
        refine j_iconst S D_M_text_80 ci_2 ?_
        refine j_iload_n S D_M_text_81 0 rfl rfl ?_
        refine j_imul S D_M_text_82 ?_
        refine j_iadd S D_M_text_83 ?_
        refine j_sipush S D_M_text_84 cs_1000 ?_
        refine j_aload_n S D_M_text_87 2 rfl rfl ?_
        refine j_getI S D_M_text_88 fl_R6_201 sh_Mod rfl ?_
        refine j_imul S D_M_text_91 ?_
        refine j_aload_n S D_M_text_92 2 rfl rfl ?_
        refine j_getI S D_M_text_93 fl_R6_213 sh_Mod rfl ?_
        refine j_iadd S D_M_text_96 ?_
        obtain ⟨g_97, h⟩ := gdE h
        obtain ⟨m_97, hm_97, h⟩ := ltE h
        refine j_iast S D_M_text_97 sh_92 g_97 ?_
        refine j_mem hm_97 ?_
        refine j_aload_n S D_M_text_98 2 rfl rfl ?_
        refine j_getR S D_M_text_99 fl_R6_9 sh_Mod rfl ?_
        refine j_bipush S D_M_text_102 cb_64 ?_
        refine j_iconst S D_M_text_104 ci_2 ?_
        refine j_iload_n S D_M_text_105 0 rfl rfl ?_
        refine j_imul S D_M_text_106 ?_
        refine j_iadd S D_M_text_107 ?_
        refine j_iconst S D_M_text_108 ci_1 ?_
        refine j_iadd S D_M_text_109 ?_
        refine j_aload_n S D_M_text_110 2 rfl rfl ?_
        refine j_getI S D_M_text_111 fl_R6_219 sh_Mod rfl ?_
        obtain ⟨g_114, h⟩ := gdE h
        obtain ⟨m_114, hm_114, h⟩ := ltE h
        refine j_iast S D_M_text_114 sh_92 g_114 ?_
        refine j_mem hm_114 ?_
        refine j_iconst S D_M_text_115 ci_0 ?_
        refine j_istore_n S D_M_text_116 (lv := [(3, .int 0), (2, .int x_73), (1, .int x_33), (0, .ref (eb E + 91))]) rfl ⟨rfl, (Nat.le_of_ble_eq_true rfl)⟩ ?_
        refine j_locals [3, 2, 1, 0] rfl ?_
        obtain ⟨y_117, m_117, e_117, h⟩ := bdE h
        refine L_M_text_117 S  N x_33 x_73 0 m_114 _ _ e_117 ?_
        refine j_aload_n S D_M_text_151 0 rfl rfl ?_
        refine j_getR S D_M_text_152 fl_R6_9 sh_Mod rfl ?_
        refine j_bipush S D_M_text_155 cb_6 ?_
        refine j_dup2 S D_M_text_157 ⟨rfl, rfl⟩ ?_
        refine j_iald S D_M_text_158 sh_92 inbc_6_1436 ?_
        refine j_iconst S D_M_text_159 ci_1 ?_
        refine j_iadd S D_M_text_160 ?_
        obtain ⟨m_161, hm_161, h⟩ := ltE h
        refine j_iast S D_M_text_161 sh_92 inbc_6_1436 ?_
        refine j_mem hm_161 ?_
        refine j_iload_n S D_M_text_162 2 rfl rfl ?_
        exact rtM hR h _ _ D_M_text_163
      · have h := ifT c_60 h
        refine j_ldc S D_M_text_63 co_R6_88 ?_
        exact rtM hR h _ _ D_M_text_65
    · have h := ifT c_40 h
      refine j_bipush S D_M_text_43 cb_m100 ?_
      refine j_aload_n S D_M_text_45 1 rfl rfl ?_
      refine j_getI S D_M_text_46 fl_R6_183 sh_Mod rfl ?_
      refine j_isub S D_M_text_49 ?_
      exact rtM hR h _ _ D_M_text_50

def y_M_textTold : MethodName := ⟨"SandPictureModel", "textTold", "(II)I"⟩
theorem D_M_textTold_0 : decode prog_9_method_65_code 0 = .ok (.iload_n 1, 1) ∧ 0 + 1 = 1 := by decide +kernel
theorem D_M_textTold_1 : decode prog_9_method_65_code 1 = .ok (.iconst 0, 1) ∧ 1 + 1 = 2 := by decide +kernel
theorem D_M_textTold_2 : decode prog_9_method_65_code 2 = .ok (.aload_n 0, 1) ∧ 2 + 1 = 3 := by decide +kernel
theorem D_M_textTold_3 : decode prog_9_method_65_code 3 = .ok (.getfield 9, 3) ∧ 3 + 3 = 6 := by decide +kernel
theorem D_M_textTold_6 : decode prog_9_method_65_code 6 = .ok (.bipush 6, 2) ∧ 6 + 2 = 8 := by decide +kernel
theorem D_M_textTold_8 : decode prog_9_method_65_code 8 = .ok (.iaload, 1) ∧ 8 + 1 = 9 := by decide +kernel
theorem D_M_textTold_9 : decode prog_9_method_65_code 9 = .ok (.iconst 1, 1) ∧ 9 + 1 = 10 := by decide +kernel
theorem D_M_textTold_10 : decode prog_9_method_65_code 10 = .ok (.isub, 1) ∧ 10 + 1 = 11 := by decide +kernel
theorem D_M_textTold_11 : decode prog_9_method_65_code 11 = .ok (.invokestatic 79, 3) ∧ 11 + 3 = 14 := by decide +kernel
theorem D_M_textTold_14 : decode prog_9_method_65_code 14 = .ok (.ifCond .eq 12, 3) ∧ ((14 : Nat) : Int) + 12 = ((26 : Nat) : Int) ∧ 14 + 3 = 17 := by decide +kernel
theorem D_M_textTold_26 : decode prog_9_method_65_code 26 = .ok (.ldc 87, 2) ∧ 26 + 2 = 28 := by decide +kernel
theorem D_M_textTold_28 : decode prog_9_method_65_code 28 = .ok (.ireturn, 1) := by decide +kernel
theorem D_M_textTold_17 : decode prog_9_method_65_code 17 = .ok (.iload_n 2, 1) ∧ 17 + 1 = 18 := by decide +kernel
theorem D_M_textTold_18 : decode prog_9_method_65_code 18 = .ok (.iconst 0, 1) ∧ 18 + 1 = 19 := by decide +kernel
theorem D_M_textTold_19 : decode prog_9_method_65_code 19 = .ok (.iconst 1, 1) ∧ 19 + 1 = 20 := by decide +kernel
theorem D_M_textTold_20 : decode prog_9_method_65_code 20 = .ok (.invokestatic 79, 3) ∧ 20 + 3 = 23 := by decide +kernel
theorem D_M_textTold_23 : decode prog_9_method_65_code 23 = .ok (.ifCond .ne 6, 3) ∧ ((23 : Nat) : Int) + 6 = ((29 : Nat) : Int) ∧ 23 + 3 = 26 := by decide +kernel
theorem D_M_textTold_29 : decode prog_9_method_65_code 29 = .ok (.iload_n 2, 1) ∧ 29 + 1 = 30 := by decide +kernel
theorem D_M_textTold_30 : decode prog_9_method_65_code 30 = .ok (.ifCond .ne 21, 3) ∧ ((30 : Nat) : Int) + 21 = ((51 : Nat) : Int) ∧ 30 + 3 = 33 := by decide +kernel
theorem D_M_textTold_51 : decode prog_9_method_65_code 51 = .ok (.aload_n 0, 1) ∧ 51 + 1 = 52 := by decide +kernel
theorem D_M_textTold_52 : decode prog_9_method_65_code 52 = .ok (.getfield 9, 3) ∧ 52 + 3 = 55 := by decide +kernel
theorem D_M_textTold_55 : decode prog_9_method_65_code 55 = .ok (.bipush 64, 2) ∧ 55 + 2 = 57 := by decide +kernel
theorem D_M_textTold_57 : decode prog_9_method_65_code 57 = .ok (.iconst 2, 1) ∧ 57 + 1 = 58 := by decide +kernel
theorem D_M_textTold_58 : decode prog_9_method_65_code 58 = .ok (.iload_n 1, 1) ∧ 58 + 1 = 59 := by decide +kernel
theorem D_M_textTold_59 : decode prog_9_method_65_code 59 = .ok (.imul, 1) ∧ 59 + 1 = 60 := by decide +kernel
theorem D_M_textTold_60 : decode prog_9_method_65_code 60 = .ok (.iadd, 1) ∧ 60 + 1 = 61 := by decide +kernel
theorem D_M_textTold_61 : decode prog_9_method_65_code 61 = .ok (.iconst 1, 1) ∧ 61 + 1 = 62 := by decide +kernel
theorem D_M_textTold_62 : decode prog_9_method_65_code 62 = .ok (.iadd, 1) ∧ 62 + 1 = 63 := by decide +kernel
theorem D_M_textTold_63 : decode prog_9_method_65_code 63 = .ok (.iaload, 1) ∧ 63 + 1 = 64 := by decide +kernel
theorem D_M_textTold_64 : decode prog_9_method_65_code 64 = .ok (.ireturn, 1) := by decide +kernel
theorem D_M_textTold_33 : decode prog_9_method_65_code 33 = .ok (.aload_n 0, 1) ∧ 33 + 1 = 34 := by decide +kernel
theorem D_M_textTold_34 : decode prog_9_method_65_code 34 = .ok (.getfield 9, 3) ∧ 34 + 3 = 37 := by decide +kernel
theorem D_M_textTold_37 : decode prog_9_method_65_code 37 = .ok (.bipush 64, 2) ∧ 37 + 2 = 39 := by decide +kernel
theorem D_M_textTold_39 : decode prog_9_method_65_code 39 = .ok (.iconst 2, 1) ∧ 39 + 1 = 40 := by decide +kernel
theorem D_M_textTold_40 : decode prog_9_method_65_code 40 = .ok (.iload_n 1, 1) ∧ 40 + 1 = 41 := by decide +kernel
theorem D_M_textTold_41 : decode prog_9_method_65_code 41 = .ok (.imul, 1) ∧ 41 + 1 = 42 := by decide +kernel
theorem D_M_textTold_42 : decode prog_9_method_65_code 42 = .ok (.iadd, 1) ∧ 42 + 1 = 43 := by decide +kernel
theorem D_M_textTold_43 : decode prog_9_method_65_code 43 = .ok (.iaload, 1) ∧ 43 + 1 = 44 := by decide +kernel
theorem D_M_textTold_44 : decode prog_9_method_65_code 44 = .ok (.sipush 1000, 3) ∧ 44 + 3 = 47 := by decide +kernel
theorem D_M_textTold_47 : decode prog_9_method_65_code 47 = .ok (.idiv, 1) ∧ 47 + 1 = 48 := by decide +kernel
theorem D_M_textTold_48 : decode prog_9_method_65_code 48 = .ok (.goto 16, 3) ∧ ((48 : Nat) : Int) + 16 = ((64 : Nat) : Int) := by decide +kernel
def f_M_textTold (a1 : Int32) (a2 : Int32) (mem : Mm) : Option (Int32) := bp (f_M_in a1 0 ((mem 92 (ix 6)) - 1)) fun r_11 => if r_11 = 0 then some (-1000000001) else bp (f_M_in a2 0 1) fun r_20 => if r_20 = 0 then some (-1000000001) else if a2 = 0 then if inb (64 + (2 * a1)) 1436 = true then some ((mem 92 (ix (64 + (2 * a1)))) / 1000) else none else if inb ((64 + (2 * a1)) + 1) 1436 = true then some (mem 92 (ix ((64 + (2 * a1)) + 1))) else none
theorem c_M_textTold (l : Launch) (E : En) (a1 : Int32) (a2 : Int32) {mem : Mm} {r : Int32} (h : f_M_textTold a1 a2 mem = some r) : CtI l E 1 y_M_textTold prog_9_method_65_code 3 (some .int) [.ref (eb E + 91), .int a1, .int a2] SH mem r mem := by
  refine mk_CtI ⟨by decide, (Nat.le_of_ble_eq_true rfl)⟩ (fun X S hl hR => ?_)
  have S : Std X E prog_9_method_65_code R6 3 1 := S
  show J X E 3 0 [(0, .ref (eb E + 91)), (1, .int a1), (2, .int a2)] [] SH mem
  unfold f_M_textTold at h
  refine j_iload_n S D_M_textTold_0 1 rfl rfl ?_
  refine j_iconst S D_M_textTold_1 ci_0 ?_
  refine j_aload_n S D_M_textTold_2 0 rfl rfl ?_
  refine j_getR S D_M_textTold_3 fl_R6_9 sh_Mod rfl ?_
  refine j_bipush S D_M_textTold_6 cb_6 ?_
  refine j_iald S D_M_textTold_8 sh_92 inbc_6_1436 ?_
  refine j_iconst S D_M_textTold_9 ci_1 ?_
  refine j_isub S D_M_textTold_10 ?_
  obtain ⟨r_11, e_11, h⟩ := bpE h
  refine j_callSI (As := [.int a1, .int 0, .int ((mem 92 (ix 6)) - 1)]) S D_M_textTold_11 ms_R6_79 (c_M_in (cxL X) E a1 0 ((mem 92 (ix 6)) - 1) (mem := mem) e_11) (by decide) rfl rfl (Nat.le_of_ble_eq_true rfl) ?_
  refine j_if_eq S D_M_textTold_14 (fun c_14 => ?_) (fun c_14 => ?_)
  · have h := ifT c_14 h
    refine j_ldc S D_M_textTold_26 co_R6_87 ?_
    exact rtI hR h _ _ D_M_textTold_28
  · have h := ifF c_14 h
    refine j_iload_n S D_M_textTold_17 2 rfl rfl ?_
    refine j_iconst S D_M_textTold_18 ci_0 ?_
    refine j_iconst S D_M_textTold_19 ci_1 ?_
    obtain ⟨r_20, e_20, h⟩ := bpE h
    refine j_callSI (As := [.int a2, .int 0, .int 1]) S D_M_textTold_20 ms_R6_79 (c_M_in (cxL X) E a2 0 1 (mem := mem) e_20) (by decide) rfl rfl (Nat.le_of_ble_eq_true rfl) ?_
    refine j_if_ne S D_M_textTold_23 (fun c_23 => ?_) (fun c_23 => ?_)
    · have h := ifF c_23 h
      refine j_iload_n S D_M_textTold_29 2 rfl rfl ?_
      refine j_if_ne S D_M_textTold_30 (fun c_30 => ?_) (fun c_30 => ?_)
      · have h := ifF c_30 h
        refine j_aload_n S D_M_textTold_51 0 rfl rfl ?_
        refine j_getR S D_M_textTold_52 fl_R6_9 sh_Mod rfl ?_
        refine j_bipush S D_M_textTold_55 cb_64 ?_
        refine j_iconst S D_M_textTold_57 ci_2 ?_
        refine j_iload_n S D_M_textTold_58 1 rfl rfl ?_
        refine j_imul S D_M_textTold_59 ?_
        refine j_iadd S D_M_textTold_60 ?_
        refine j_iconst S D_M_textTold_61 ci_1 ?_
        refine j_iadd S D_M_textTold_62 ?_
        obtain ⟨g_63, h⟩ := gdE h
        refine j_iald S D_M_textTold_63 sh_92 g_63 ?_
        exact rtI hR h _ _ D_M_textTold_64
      · have h := ifT c_30 h
        refine j_aload_n S D_M_textTold_33 0 rfl rfl ?_
        refine j_getR S D_M_textTold_34 fl_R6_9 sh_Mod rfl ?_
        refine j_bipush S D_M_textTold_37 cb_64 ?_
        refine j_iconst S D_M_textTold_39 ci_2 ?_
        refine j_iload_n S D_M_textTold_40 1 rfl rfl ?_
        refine j_imul S D_M_textTold_41 ?_
        refine j_iadd S D_M_textTold_42 ?_
        obtain ⟨g_43, h⟩ := gdE h
        refine j_iald S D_M_textTold_43 sh_92 g_43 ?_
        refine j_sipush S D_M_textTold_44 cs_1000 ?_
        refine j_idiv S D_M_textTold_47 nz_1000 ?_
        refine j_goto S D_M_textTold_48 ?_
        exact rtI hR h _ _ D_M_textTold_64
    · have h := ifT c_23 h
      refine j_ldc S D_M_textTold_26 co_R6_87 ?_
      exact rtI hR h _ _ D_M_textTold_28

def y_M_why : MethodName := ⟨"SandPictureModel", "why", "(I)I"⟩
theorem D_M_why_0 : decode prog_9_method_67_code 0 = .ok (.iload_n 1, 1) ∧ 0 + 1 = 1 := by decide +kernel
theorem D_M_why_1 : decode prog_9_method_67_code 1 = .ok (.iconst 0, 1) ∧ 1 + 1 = 2 := by decide +kernel
theorem D_M_why_2 : decode prog_9_method_67_code 2 = .ok (.iconst 2, 1) ∧ 2 + 1 = 3 := by decide +kernel
theorem D_M_why_3 : decode prog_9_method_67_code 3 = .ok (.invokestatic 79, 3) ∧ 3 + 3 = 6 := by decide +kernel
theorem D_M_why_6 : decode prog_9_method_67_code 6 = .ok (.ifCond .ne 6, 3) ∧ ((6 : Nat) : Int) + 6 = ((12 : Nat) : Int) ∧ 6 + 3 = 9 := by decide +kernel
theorem D_M_why_12 : decode prog_9_method_67_code 12 = .ok (.aload_n 0, 1) ∧ 12 + 1 = 13 := by decide +kernel
theorem D_M_why_13 : decode prog_9_method_67_code 13 = .ok (.iload_n 1, 1) ∧ 13 + 1 = 14 := by decide +kernel
theorem D_M_why_14 : decode prog_9_method_67_code 14 = .ok (.invokevirtual 104, 3) ∧ 14 + 3 = 17 := by decide +kernel
theorem D_M_why_17 : decode prog_9_method_67_code 17 = .ok (.istore_n 2, 1) ∧ 17 + 1 = 18 := by decide +kernel
theorem D_M_why_18 : decode prog_9_method_67_code 18 = .ok (.iload_n 2, 1) ∧ 18 + 1 = 19 := by decide +kernel
theorem D_M_why_27 : decode prog_9_method_67_code 27 = .ok (.iload_n 2, 1) ∧ 27 + 1 = 28 := by decide +kernel
theorem D_M_why_22 : decode prog_9_method_67_code 22 = .ok (.ldc 168, 2) ∧ 22 + 2 = 24 := by decide +kernel
theorem D_M_why_24 : decode prog_9_method_67_code 24 = .ok (.goto 4, 3) ∧ ((24 : Nat) : Int) + 4 = ((28 : Nat) : Int) := by decide +kernel
theorem D_M_why_19 : decode prog_9_method_67_code 19 = .ok (.ifCond .ge 8, 3) ∧ ((19 : Nat) : Int) + 8 = ((27 : Nat) : Int) ∧ 19 + 3 = 22 := by decide +kernel
theorem D_M_why_28 : decode prog_9_method_67_code 28 = .ok (.ireturn, 1) := by decide +kernel
theorem D_M_why_9 : decode prog_9_method_67_code 9 = .ok (.ldc 87, 2) ∧ 9 + 2 = 11 := by decide +kernel
theorem D_M_why_11 : decode prog_9_method_67_code 11 = .ok (.ireturn, 1) := by decide +kernel
def f_M_why (N : Nat) (a1 : Int32) (mem : Mm) : Option (Int32) := bp (f_M_in a1 0 2) fun r_3 => if r_3 = 0 then some (-1000000001) else bp (f_M_counts N a1 mem) fun r_14 => some (if 0 ≤ r_14 then r_14 else (-1000000005))
theorem c_M_why (l : Launch) (E : En) (N : Nat) (a1 : Int32) {mem : Mm} {r : Int32} (h : f_M_why N a1 mem = some r) : CtI l E 1 y_M_why prog_9_method_67_code 3 (some .int) [.ref (eb E + 91), .int a1] SH mem r mem := by
  refine mk_CtI ⟨by decide, (Nat.le_of_ble_eq_true rfl)⟩ (fun X S hl hR => ?_)
  have S : Std X E prog_9_method_67_code R6 3 1 := S
  show J X E 3 0 [(0, .ref (eb E + 91)), (1, .int a1)] [] SH mem
  unfold f_M_why at h
  refine j_iload_n S D_M_why_0 1 rfl rfl ?_
  refine j_iconst S D_M_why_1 ci_0 ?_
  refine j_iconst S D_M_why_2 ci_2 ?_
  obtain ⟨r_3, e_3, h⟩ := bpE h
  refine j_callSI (As := [.int a1, .int 0, .int 2]) S D_M_why_3 ms_R6_79 (c_M_in (cxL X) E a1 0 2 (mem := mem) e_3) (by decide) rfl rfl (Nat.le_of_ble_eq_true rfl) ?_
  refine j_if_ne S D_M_why_6 (fun c_6 => ?_) (fun c_6 => ?_)
  · have h := ifF c_6 h
    refine j_aload_n S D_M_why_12 0 rfl rfl ?_
    refine j_iload_n S D_M_why_13 1 rfl rfl ?_
    obtain ⟨r_14, e_14, h⟩ := bpE h
    refine j_callVI (As := [.int a1]) S D_M_why_14 mv_R6_104 (c_M_counts (cxL X) E N a1 e_14) (by decide) sh_Mod rfl rfl rfl rfl (Nat.le_of_ble_eq_true rfl) ?_
    refine j_istore_n S D_M_why_17 (lv := [(2, .int r_14), (0, .ref (eb E + 91)), (1, .int a1)]) rfl ⟨rfl, (Nat.le_of_ble_eq_true rfl)⟩ ?_
    refine j_iload_n S D_M_why_18 0 rfl rfl ?_
    refine j_dia (P := J X E 3 28 [(2, .int r_14), (0, .ref (eb E + 91)), (1, .int a1)] [.int (if 0 ≤ r_14 then r_14 else (-1000000005))] SH mem) (fun hj => ?_) ?_
    · refine j_if_ge S D_M_why_19 (fun c_19 => ?_) (fun c_19 => ?_)
      · refine j_iload_n S D_M_why_27 0 rfl rfl ?_
        exact j_jnT hj c_19
      · refine j_ldc S D_M_why_22 co_R6_168 ?_
        refine j_goto S D_M_why_24 ?_
        exact j_jnF hj c_19
    exact rtI hR h _ _ D_M_why_28
  · have h := ifT c_6 h
    refine j_ldc S D_M_why_9 co_R6_87 ?_
    exact rtI hR h _ _ D_M_why_11

def y_M_isSlot : MethodName := ⟨"SandPictureModel", "isSlot", "(I)Z"⟩
theorem D_M_isSlot_0 : decode prog_9_method_71_code 0 = .ok (.iload_n 0, 1) ∧ 0 + 1 = 1 := by decide +kernel
theorem D_M_isSlot_1 : decode prog_9_method_71_code 1 = .ok (.iconst 0, 1) ∧ 1 + 1 = 2 := by decide +kernel
theorem D_M_isSlot_2 : decode prog_9_method_71_code 2 = .ok (.iconst 4, 1) ∧ 2 + 1 = 3 := by decide +kernel
theorem D_M_isSlot_3 : decode prog_9_method_71_code 3 = .ok (.invokestatic 79, 3) ∧ 3 + 3 = 6 := by decide +kernel
theorem D_M_isSlot_6 : decode prog_9_method_71_code 6 = .ok (.ireturn, 1) := by decide +kernel
def f_M_isSlot (a1 : Int32) : Option (Int32) := bp (f_M_in a1 0 4) fun r_3 => if isb r_3 = true then some r_3 else none
theorem c_M_isSlot (l : Launch) (E : En) (a1 : Int32) {mem : Mm} {r : Int32} (h : f_M_isSlot a1 = some r) : CtI l E 1 y_M_isSlot prog_9_method_71_code 1 (some .boolean) [.int a1] SH mem r mem := by
  refine mk_CtZ ⟨by decide, (Nat.le_of_ble_eq_true rfl)⟩ (fun X S hl hR => ?_)
  have S : Std X E prog_9_method_71_code R6 1 1 := S
  show J X E 1 0 [(0, .int a1)] [] SH mem
  unfold f_M_isSlot at h
  refine j_iload_n S D_M_isSlot_0 0 rfl rfl ?_
  refine j_iconst S D_M_isSlot_1 ci_0 ?_
  refine j_iconst S D_M_isSlot_2 ci_4 ?_
  obtain ⟨r_3, e_3, h⟩ := bpE h
  refine j_callSI (As := [.int a1, .int 0, .int 4]) S D_M_isSlot_3 ms_R6_79 (c_M_in (cxL X) E a1 0 4 (mem := mem) e_3) (by decide) rfl rfl (Nat.le_of_ble_eq_true rfl) ?_
  obtain ⟨z_6, h⟩ := gdE h
  exact rtIZ hR h z_6 _ _ D_M_isSlot_6

def y_M_sheet : MethodName := ⟨"SandPictureModel", "sheet", "(III)I"⟩
theorem D_M_sheet_0 : decode prog_9_method_72_code 0 = .ok (.iload_n 1, 1) ∧ 0 + 1 = 1 := by decide +kernel
theorem D_M_sheet_1 : decode prog_9_method_72_code 1 = .ok (.invokestatic 169, 3) ∧ 1 + 3 = 4 := by decide +kernel
theorem D_M_sheet_4 : decode prog_9_method_72_code 4 = .ok (.ifCond .eq 22, 3) ∧ ((4 : Nat) : Int) + 22 = ((26 : Nat) : Int) ∧ 4 + 3 = 7 := by decide +kernel
theorem D_M_sheet_26 : decode prog_9_method_72_code 26 = .ok (.ldc 87, 2) ∧ 26 + 2 = 28 := by decide +kernel
theorem D_M_sheet_28 : decode prog_9_method_72_code 28 = .ok (.ireturn, 1) := by decide +kernel
theorem D_M_sheet_7 : decode prog_9_method_72_code 7 = .ok (.iload_n 2, 1) ∧ 7 + 1 = 8 := by decide +kernel
theorem D_M_sheet_8 : decode prog_9_method_72_code 8 = .ok (.iconst (-1), 1) ∧ 8 + 1 = 9 := by decide +kernel
theorem D_M_sheet_9 : decode prog_9_method_72_code 9 = .ok (.iconst 1, 1) ∧ 9 + 1 = 10 := by decide +kernel
theorem D_M_sheet_10 : decode prog_9_method_72_code 10 = .ok (.invokestatic 79, 3) ∧ 10 + 3 = 13 := by decide +kernel
theorem D_M_sheet_13 : decode prog_9_method_72_code 13 = .ok (.ifCond .eq 13, 3) ∧ ((13 : Nat) : Int) + 13 = ((26 : Nat) : Int) ∧ 13 + 3 = 16 := by decide +kernel
theorem D_M_sheet_16 : decode prog_9_method_72_code 16 = .ok (.iload_n 2, 1) ∧ 16 + 1 = 17 := by decide +kernel
theorem D_M_sheet_17 : decode prog_9_method_72_code 17 = .ok (.ifCond .lt 12, 3) ∧ ((17 : Nat) : Int) + 12 = ((29 : Nat) : Int) ∧ 17 + 3 = 20 := by decide +kernel
theorem D_M_sheet_29 : decode prog_9_method_72_code 29 = .ok (.iload_n 2, 1) ∧ 29 + 1 = 30 := by decide +kernel
theorem D_M_sheet_30 : decode prog_9_method_72_code 30 = .ok (.ifCond .lt 10, 3) ∧ ((30 : Nat) : Int) + 10 = ((40 : Nat) : Int) ∧ 30 + 3 = 33 := by decide +kernel
theorem D_M_sheet_40 : decode prog_9_method_72_code 40 = .ok (.aload_n 0, 1) ∧ 40 + 1 = 41 := by decide +kernel
theorem D_M_sheet_41 : decode prog_9_method_72_code 41 = .ok (.getfield 52, 3) ∧ 41 + 3 = 44 := by decide +kernel
theorem D_M_sheet_44 : decode prog_9_method_72_code 44 = .ok (.iload_n 1, 1) ∧ 44 + 1 = 45 := by decide +kernel
theorem D_M_sheet_45 : decode prog_9_method_72_code 45 = .ok (.iload_n 2, 1) ∧ 45 + 1 = 46 := by decide +kernel
theorem D_M_sheet_46 : decode prog_9_method_72_code 46 = .ok (.iastore, 1) ∧ 46 + 1 = 47 := by decide +kernel
theorem D_M_sheet_47 : decode prog_9_method_72_code 47 = .ok (.aload_n 0, 1) ∧ 47 + 1 = 48 := by decide +kernel
theorem D_M_sheet_48 : decode prog_9_method_72_code 48 = .ok (.getfield 55, 3) ∧ 48 + 3 = 51 := by decide +kernel
theorem D_M_sheet_51 : decode prog_9_method_72_code 51 = .ok (.iload_n 1, 1) ∧ 51 + 1 = 52 := by decide +kernel
theorem D_M_sheet_52 : decode prog_9_method_72_code 52 = .ok (.iload_n 2, 1) ∧ 52 + 1 = 53 := by decide +kernel
theorem D_M_sheet_60 : decode prog_9_method_72_code 60 = .ok (.iload_n 3, 1) ∧ 60 + 1 = 61 := by decide +kernel
theorem D_M_sheet_56 : decode prog_9_method_72_code 56 = .ok (.iconst 0, 1) ∧ 56 + 1 = 57 := by decide +kernel
theorem D_M_sheet_57 : decode prog_9_method_72_code 57 = .ok (.goto 4, 3) ∧ ((57 : Nat) : Int) + 4 = ((61 : Nat) : Int) := by decide +kernel
theorem D_M_sheet_53 : decode prog_9_method_72_code 53 = .ok (.ifCond .ge 7, 3) ∧ ((53 : Nat) : Int) + 7 = ((60 : Nat) : Int) ∧ 53 + 3 = 56 := by decide +kernel
theorem D_M_sheet_61 : decode prog_9_method_72_code 61 = .ok (.iastore, 1) ∧ 61 + 1 = 62 := by decide +kernel
theorem D_M_sheet_62 : decode prog_9_method_72_code 62 = .ok (.iconst 0, 1) ∧ 62 + 1 = 63 := by decide +kernel
theorem D_M_sheet_63 : decode prog_9_method_72_code 63 = .ok (.istore 4, 2) ∧ 63 + 2 = 65 := by decide +kernel
theorem D_M_sheet_65 : decode prog_9_method_72_code 65 = .ok (.iload 4, 2) ∧ 65 + 2 = 67 := by decide +kernel
theorem D_M_sheet_67 : decode prog_9_method_72_code 67 = .ok (.bipush 24, 2) ∧ 67 + 2 = 69 := by decide +kernel
theorem D_M_sheet_69 : decode prog_9_method_72_code 69 = .ok (.if_icmp .ge 22, 3) ∧ ((69 : Nat) : Int) + 22 = ((91 : Nat) : Int) ∧ 69 + 3 = 72 := by decide +kernel
theorem D_M_sheet_72 : decode prog_9_method_72_code 72 = .ok (.aload_n 0, 1) ∧ 72 + 1 = 73 := by decide +kernel
theorem D_M_sheet_73 : decode prog_9_method_72_code 73 = .ok (.getfield 58, 3) ∧ 73 + 3 = 76 := by decide +kernel
theorem D_M_sheet_76 : decode prog_9_method_72_code 76 = .ok (.bipush 24, 2) ∧ 76 + 2 = 78 := by decide +kernel
theorem D_M_sheet_78 : decode prog_9_method_72_code 78 = .ok (.iload_n 1, 1) ∧ 78 + 1 = 79 := by decide +kernel
theorem D_M_sheet_79 : decode prog_9_method_72_code 79 = .ok (.imul, 1) ∧ 79 + 1 = 80 := by decide +kernel
theorem D_M_sheet_80 : decode prog_9_method_72_code 80 = .ok (.iload 4, 2) ∧ 80 + 2 = 82 := by decide +kernel
theorem D_M_sheet_82 : decode prog_9_method_72_code 82 = .ok (.iadd, 1) ∧ 82 + 1 = 83 := by decide +kernel
theorem D_M_sheet_83 : decode prog_9_method_72_code 83 = .ok (.iconst 0, 1) ∧ 83 + 1 = 84 := by decide +kernel
theorem D_M_sheet_84 : decode prog_9_method_72_code 84 = .ok (.iastore, 1) ∧ 84 + 1 = 85 := by decide +kernel
theorem D_M_sheet_85 : decode prog_9_method_72_code 85 = .ok (.iinc 4 1, 3) ∧ 85 + 3 = 88 := by decide +kernel
theorem D_M_sheet_88 : decode prog_9_method_72_code 88 = .ok (.goto (-23), 3) ∧ ((88 : Nat) : Int) + (-23) = ((65 : Nat) : Int) := by decide +kernel
theorem D_M_sheet_91 : decode prog_9_method_72_code 91 = .ok (.aload_n 0, 1) ∧ 91 + 1 = 92 := by decide +kernel
theorem D_M_sheet_92 : decode prog_9_method_72_code 92 = .ok (.getfield 55, 3) ∧ 92 + 3 = 95 := by decide +kernel
theorem D_M_sheet_95 : decode prog_9_method_72_code 95 = .ok (.iload_n 1, 1) ∧ 95 + 1 = 96 := by decide +kernel
theorem D_M_sheet_96 : decode prog_9_method_72_code 96 = .ok (.iaload, 1) ∧ 96 + 1 = 97 := by decide +kernel
theorem D_M_sheet_97 : decode prog_9_method_72_code 97 = .ok (.ireturn, 1) := by decide +kernel
theorem D_M_sheet_33 : decode prog_9_method_72_code 33 = .ok (.iload_n 3, 1) ∧ 33 + 1 = 34 := by decide +kernel
theorem D_M_sheet_34 : decode prog_9_method_72_code 34 = .ok (.ifCond .ge 6, 3) ∧ ((34 : Nat) : Int) + 6 = ((40 : Nat) : Int) ∧ 34 + 3 = 37 := by decide +kernel
theorem D_M_sheet_37 : decode prog_9_method_72_code 37 = .ok (.ldc 244, 2) ∧ 37 + 2 = 39 := by decide +kernel
theorem D_M_sheet_39 : decode prog_9_method_72_code 39 = .ok (.ireturn, 1) := by decide +kernel
theorem D_M_sheet_20 : decode prog_9_method_72_code 20 = .ok (.iload_n 3, 1) ∧ 20 + 1 = 21 := by decide +kernel
theorem D_M_sheet_21 : decode prog_9_method_72_code 21 = .ok (.bipush 24, 2) ∧ 21 + 2 = 23 := by decide +kernel
theorem D_M_sheet_23 : decode prog_9_method_72_code 23 = .ok (.if_icmp .le 6, 3) ∧ ((23 : Nat) : Int) + 6 = ((29 : Nat) : Int) ∧ 23 + 3 = 26 := by decide +kernel
def f_M_sheet_L65  : Nat → Int32 → Int32 → Int32 → Int32 → Mm → Option (Int32 × Mm)
  | 0, _, _, _, _, _ => none
  | n + 1, b1, b2, b3, b4, mem => if 24 ≤ b4 then some (b4, mem) else if inb ((24 * b1) + b4) 96 = true then lt (mst mem 106 (ix ((24 * b1) + b4)) 0) fun m_84 => f_M_sheet_L65 n b1 b2 b3 (b4 + 1) m_84 else none
def f_M_sheet (N : Nat) (a1 : Int32) (a2 : Int32) (a3 : Int32) (mem : Mm) : Option (Int32 × Mm) := bp (f_M_isSheet a1) fun r_1 => if r_1 = 0 then some ((-1000000001), mem) else bp (f_M_in a2 (-1) 1) fun r_10 => if r_10 = 0 then some ((-1000000001), mem) else if a2 < 0 then if a2 < 0 then if inb a1 4 = true then lt (mst mem 104 (ix a1) a2) fun m_46 => lt (mst m_46 105 (ix a1) (if 0 ≤ a2 then a3 else 0)) fun m_61 => bd (f_M_sheet_L65 N a1 a2 a3 0 m_61) fun y_65 m_65 => some (m_65 105 (ix a1), m_65) else none else if 0 ≤ a3 then if inb a1 4 = true then lt (mst mem 104 (ix a1) a2) fun m_46 => lt (mst m_46 105 (ix a1) (if 0 ≤ a2 then a3 else 0)) fun m_61 => bd (f_M_sheet_L65 N a1 a2 a3 0 m_61) fun y_65 m_65 => some (m_65 105 (ix a1), m_65) else none else some ((-1000000014), mem) else if a3 ≤ 24 then if a2 < 0 then if inb a1 4 = true then lt (mst mem 104 (ix a1) a2) fun m_46 => lt (mst m_46 105 (ix a1) (if 0 ≤ a2 then a3 else 0)) fun m_61 => bd (f_M_sheet_L65 N a1 a2 a3 0 m_61) fun y_65 m_65 => some (m_65 105 (ix a1), m_65) else none else if 0 ≤ a3 then if inb a1 4 = true then lt (mst mem 104 (ix a1) a2) fun m_46 => lt (mst m_46 105 (ix a1) (if 0 ≤ a2 then a3 else 0)) fun m_61 => bd (f_M_sheet_L65 N a1 a2 a3 0 m_61) fun y_65 m_65 => some (m_65 105 (ix a1), m_65) else none else some ((-1000000014), mem) else some ((-1000000001), mem)
theorem L_M_sheet_65 {X : Cx} {E : En} (S : Std X E prog_9_method_72_code R6 5 2)  : ∀ (n : Nat) (b1 : Int32) (b2 : Int32) (b3 : Int32) (b4 : Int32) (mem : Mm) (z : Int32) (m2 : Mm), f_M_sheet_L65 n b1 b2 b3 b4 mem = some (z, m2) → J X E 5 91 [(0, .ref (eb E + 91)), (1, .int b1), (2, .int b2), (3, .int b3), (4, .int z)] [] SH m2 → J X E 5 65 [(0, .ref (eb E + 91)), (1, .int b1), (2, .int b2), (3, .int b3), (4, .int b4)] [] SH mem := by
  intro n
  induction n with
  | zero =>
    intro b1 b2 b3 b4 mem z m2 h hk; cases h
  | succ n ih =>
    intro b1 b2 b3 b4 mem z m2 h hk
    rw [f_M_sheet_L65] at h
    refine j_iload S D_M_sheet_65 4 rfl ?_
    refine j_bipush S D_M_sheet_67 cb_24 ?_
    refine j_icmp_ge S D_M_sheet_69 (fun c_69 => ?_) (fun c_69 => ?_)
    · have h := ifT c_69 h
      cases h
      exact j_locals [0, 1, 2, 3, 4] rfl hk
    · have h := ifF c_69 h
      refine j_aload_n S D_M_sheet_72 0 rfl rfl ?_
      refine j_getR S D_M_sheet_73 fl_R6_58 sh_Mod rfl ?_
      refine j_bipush S D_M_sheet_76 cb_24 ?_
      refine j_iload_n S D_M_sheet_78 1 rfl rfl ?_
      refine j_imul S D_M_sheet_79 ?_
      refine j_iload S D_M_sheet_80 4 rfl ?_
      refine j_iadd S D_M_sheet_82 ?_
      refine j_iconst S D_M_sheet_83 ci_0 ?_
      obtain ⟨g_84, h⟩ := gdE h
      obtain ⟨m_84, hm_84, h⟩ := ltE h
      refine j_iast S D_M_sheet_84 sh_106 g_84 ?_
      refine j_mem hm_84 ?_
      refine j_iinc S D_M_sheet_85 4 rfl (congrArg (fun z => b4 + z) ci_1) (lv := [(4, .int (b4 + 1)), (0, .ref (eb E + 91)), (1, .int b1), (2, .int b2), (3, .int b3)]) rfl (Nat.le_of_ble_eq_true rfl) ?_
      refine j_goto S D_M_sheet_88 ?_
      refine j_locals [1, 2, 3, 4, 0] rfl (ih b1 b2 b3 (b4 + 1) m_84 _ _ h hk)
theorem c_M_sheet (l : Launch) (E : En) (N : Nat) (a1 : Int32) (a2 : Int32) (a3 : Int32) {mem : Mm} {r : Int32} {m2 : Mm} (h : f_M_sheet N a1 a2 a3 mem = some (r, m2)) : CtI l E 2 y_M_sheet prog_9_method_72_code 5 (some .int) [.ref (eb E + 91), .int a1, .int a2, .int a3] SH mem r m2 := by
  refine mk_CtI ⟨by decide, (Nat.le_of_ble_eq_true rfl)⟩ (fun X S hl hR => ?_)
  have S : Std X E prog_9_method_72_code R6 5 2 := S
  show J X E 5 0 [(0, .ref (eb E + 91)), (1, .int a1), (2, .int a2), (3, .int a3)] [] SH mem
  unfold f_M_sheet at h
  refine j_iload_n S D_M_sheet_0 1 rfl rfl ?_
  obtain ⟨r_1, e_1, h⟩ := bpE h
  refine j_callSI (As := [.int a1]) S D_M_sheet_1 ms_R6_169 (c_M_isSheet (cxL X) E a1 (mem := mem) e_1) (by decide) rfl rfl (Nat.le_of_ble_eq_true rfl) ?_
  refine j_if_eq S D_M_sheet_4 (fun c_4 => ?_) (fun c_4 => ?_)
  · have h := ifT c_4 h
    refine j_ldc S D_M_sheet_26 co_R6_87 ?_
    exact rtM hR h _ _ D_M_sheet_28
  · have h := ifF c_4 h
    refine j_iload_n S D_M_sheet_7 2 rfl rfl ?_
    refine j_iconst S D_M_sheet_8 ci_m1 ?_
    refine j_iconst S D_M_sheet_9 ci_1 ?_
    obtain ⟨r_10, e_10, h⟩ := bpE h
    refine j_callSI (As := [.int a2, .int (-1), .int 1]) S D_M_sheet_10 ms_R6_79 (c_M_in (cxL X) E a2 (-1) 1 (mem := mem) e_10) (by decide) rfl rfl (Nat.le_of_ble_eq_true rfl) ?_
    refine j_if_eq S D_M_sheet_13 (fun c_13 => ?_) (fun c_13 => ?_)
    · have h := ifT c_13 h
      refine j_ldc S D_M_sheet_26 co_R6_87 ?_
      exact rtM hR h _ _ D_M_sheet_28
    · have h := ifF c_13 h
      refine j_iload_n S D_M_sheet_16 2 rfl rfl ?_
      refine j_if_lt S D_M_sheet_17 (fun c_17 => ?_) (fun c_17 => ?_)
      · have h := ifT c_17 h
        refine j_iload_n S D_M_sheet_29 2 rfl rfl ?_
        refine j_if_lt S D_M_sheet_30 (fun c_30 => ?_) (fun c_30 => ?_)
        · have h := ifT c_30 h
          refine j_aload_n S D_M_sheet_40 0 rfl rfl ?_
          refine j_getR S D_M_sheet_41 fl_R6_52 sh_Mod rfl ?_
          refine j_iload_n S D_M_sheet_44 1 rfl rfl ?_
          refine j_iload_n S D_M_sheet_45 2 rfl rfl ?_
          obtain ⟨g_46, h⟩ := gdE h
          obtain ⟨m_46, hm_46, h⟩ := ltE h
          refine j_iast S D_M_sheet_46 sh_104 g_46 ?_
          refine j_mem hm_46 ?_
          refine j_aload_n S D_M_sheet_47 0 rfl rfl ?_
          refine j_getR S D_M_sheet_48 fl_R6_55 sh_Mod rfl ?_
          refine j_iload_n S D_M_sheet_51 1 rfl rfl ?_
          refine j_iload_n S D_M_sheet_52 2 rfl rfl ?_
          refine j_dia (P := J X E 5 61 [(0, .ref (eb E + 91)), (1, .int a1), (2, .int a2), (3, .int a3)] [.int (if 0 ≤ a2 then a3 else 0), .int a1, .ref (eb E + 105)] SH m_46) (fun hj => ?_) ?_
          · refine j_if_ge S D_M_sheet_53 (fun c_53 => ?_) (fun c_53 => ?_)
            · refine j_iload_n S D_M_sheet_60 3 rfl rfl ?_
              exact j_jnT hj c_53
            · refine j_iconst S D_M_sheet_56 ci_0 ?_
              refine j_goto S D_M_sheet_57 ?_
              exact j_jnF hj c_53
          obtain ⟨m_61, hm_61, h⟩ := ltE h
          refine j_iast S D_M_sheet_61 sh_105 g_46 ?_
          refine j_mem hm_61 ?_
          refine j_iconst S D_M_sheet_62 ci_0 ?_
          refine j_istore S D_M_sheet_63 (lv := [(4, .int 0), (0, .ref (eb E + 91)), (1, .int a1), (2, .int a2), (3, .int a3)]) rfl (Nat.le_of_ble_eq_true rfl) ?_
          refine j_locals [1, 2, 3, 4, 0] rfl ?_
          obtain ⟨y_65, m_65, e_65, h⟩ := bdE h
          refine L_M_sheet_65 S  N a1 a2 a3 0 m_61 _ _ e_65 ?_
          refine j_aload_n S D_M_sheet_91 0 rfl rfl ?_
          refine j_getR S D_M_sheet_92 fl_R6_55 sh_Mod rfl ?_
          refine j_iload_n S D_M_sheet_95 1 rfl rfl ?_
          refine j_iald S D_M_sheet_96 sh_105 g_46 ?_
          exact rtM hR h _ _ D_M_sheet_97
        · have h := ifF c_30 h
          refine j_iload_n S D_M_sheet_33 3 rfl rfl ?_
          refine j_if_ge S D_M_sheet_34 (fun c_34 => ?_) (fun c_34 => ?_)
          · have h := ifT c_34 h
            refine j_aload_n S D_M_sheet_40 0 rfl rfl ?_
            refine j_getR S D_M_sheet_41 fl_R6_52 sh_Mod rfl ?_
            refine j_iload_n S D_M_sheet_44 1 rfl rfl ?_
            refine j_iload_n S D_M_sheet_45 2 rfl rfl ?_
            obtain ⟨g_46, h⟩ := gdE h
            obtain ⟨m_46, hm_46, h⟩ := ltE h
            refine j_iast S D_M_sheet_46 sh_104 g_46 ?_
            refine j_mem hm_46 ?_
            refine j_aload_n S D_M_sheet_47 0 rfl rfl ?_
            refine j_getR S D_M_sheet_48 fl_R6_55 sh_Mod rfl ?_
            refine j_iload_n S D_M_sheet_51 1 rfl rfl ?_
            refine j_iload_n S D_M_sheet_52 2 rfl rfl ?_
            refine j_dia (P := J X E 5 61 [(0, .ref (eb E + 91)), (1, .int a1), (2, .int a2), (3, .int a3)] [.int (if 0 ≤ a2 then a3 else 0), .int a1, .ref (eb E + 105)] SH m_46) (fun hj => ?_) ?_
            · refine j_if_ge S D_M_sheet_53 (fun c_53 => ?_) (fun c_53 => ?_)
              · refine j_iload_n S D_M_sheet_60 3 rfl rfl ?_
                exact j_jnT hj c_53
              · refine j_iconst S D_M_sheet_56 ci_0 ?_
                refine j_goto S D_M_sheet_57 ?_
                exact j_jnF hj c_53
            obtain ⟨m_61, hm_61, h⟩ := ltE h
            refine j_iast S D_M_sheet_61 sh_105 g_46 ?_
            refine j_mem hm_61 ?_
            refine j_iconst S D_M_sheet_62 ci_0 ?_
            refine j_istore S D_M_sheet_63 (lv := [(4, .int 0), (0, .ref (eb E + 91)), (1, .int a1), (2, .int a2), (3, .int a3)]) rfl (Nat.le_of_ble_eq_true rfl) ?_
            refine j_locals [1, 2, 3, 4, 0] rfl ?_
            obtain ⟨y_65, m_65, e_65, h⟩ := bdE h
            refine L_M_sheet_65 S  N a1 a2 a3 0 m_61 _ _ e_65 ?_
            refine j_aload_n S D_M_sheet_91 0 rfl rfl ?_
            refine j_getR S D_M_sheet_92 fl_R6_55 sh_Mod rfl ?_
            refine j_iload_n S D_M_sheet_95 1 rfl rfl ?_
            refine j_iald S D_M_sheet_96 sh_105 g_46 ?_
            exact rtM hR h _ _ D_M_sheet_97
          · have h := ifF c_34 h
            refine j_ldc S D_M_sheet_37 co_R6_244 ?_
            exact rtM hR h _ _ D_M_sheet_39
      · have h := ifF c_17 h
        refine j_iload_n S D_M_sheet_20 3 rfl rfl ?_
        refine j_bipush S D_M_sheet_21 cb_24 ?_
        refine j_icmp_le S D_M_sheet_23 (fun c_23 => ?_) (fun c_23 => ?_)
        · have h := ifT c_23 h
          refine j_iload_n S D_M_sheet_29 2 rfl rfl ?_
          refine j_if_lt S D_M_sheet_30 (fun c_30 => ?_) (fun c_30 => ?_)
          · have h := ifT c_30 h
            refine j_aload_n S D_M_sheet_40 0 rfl rfl ?_
            refine j_getR S D_M_sheet_41 fl_R6_52 sh_Mod rfl ?_
            refine j_iload_n S D_M_sheet_44 1 rfl rfl ?_
            refine j_iload_n S D_M_sheet_45 2 rfl rfl ?_
            obtain ⟨g_46, h⟩ := gdE h
            obtain ⟨m_46, hm_46, h⟩ := ltE h
            refine j_iast S D_M_sheet_46 sh_104 g_46 ?_
            refine j_mem hm_46 ?_
            refine j_aload_n S D_M_sheet_47 0 rfl rfl ?_
            refine j_getR S D_M_sheet_48 fl_R6_55 sh_Mod rfl ?_
            refine j_iload_n S D_M_sheet_51 1 rfl rfl ?_
            refine j_iload_n S D_M_sheet_52 2 rfl rfl ?_
            refine j_dia (P := J X E 5 61 [(0, .ref (eb E + 91)), (1, .int a1), (2, .int a2), (3, .int a3)] [.int (if 0 ≤ a2 then a3 else 0), .int a1, .ref (eb E + 105)] SH m_46) (fun hj => ?_) ?_
            · refine j_if_ge S D_M_sheet_53 (fun c_53 => ?_) (fun c_53 => ?_)
              · refine j_iload_n S D_M_sheet_60 3 rfl rfl ?_
                exact j_jnT hj c_53
              · refine j_iconst S D_M_sheet_56 ci_0 ?_
                refine j_goto S D_M_sheet_57 ?_
                exact j_jnF hj c_53
            obtain ⟨m_61, hm_61, h⟩ := ltE h
            refine j_iast S D_M_sheet_61 sh_105 g_46 ?_
            refine j_mem hm_61 ?_
            refine j_iconst S D_M_sheet_62 ci_0 ?_
            refine j_istore S D_M_sheet_63 (lv := [(4, .int 0), (0, .ref (eb E + 91)), (1, .int a1), (2, .int a2), (3, .int a3)]) rfl (Nat.le_of_ble_eq_true rfl) ?_
            refine j_locals [1, 2, 3, 4, 0] rfl ?_
            obtain ⟨y_65, m_65, e_65, h⟩ := bdE h
            refine L_M_sheet_65 S  N a1 a2 a3 0 m_61 _ _ e_65 ?_
            refine j_aload_n S D_M_sheet_91 0 rfl rfl ?_
            refine j_getR S D_M_sheet_92 fl_R6_55 sh_Mod rfl ?_
            refine j_iload_n S D_M_sheet_95 1 rfl rfl ?_
            refine j_iald S D_M_sheet_96 sh_105 g_46 ?_
            exact rtM hR h _ _ D_M_sheet_97
          · have h := ifF c_30 h
            refine j_iload_n S D_M_sheet_33 3 rfl rfl ?_
            refine j_if_ge S D_M_sheet_34 (fun c_34 => ?_) (fun c_34 => ?_)
            · have h := ifT c_34 h
              refine j_aload_n S D_M_sheet_40 0 rfl rfl ?_
              refine j_getR S D_M_sheet_41 fl_R6_52 sh_Mod rfl ?_
              refine j_iload_n S D_M_sheet_44 1 rfl rfl ?_
              refine j_iload_n S D_M_sheet_45 2 rfl rfl ?_
              obtain ⟨g_46, h⟩ := gdE h
              obtain ⟨m_46, hm_46, h⟩ := ltE h
              refine j_iast S D_M_sheet_46 sh_104 g_46 ?_
              refine j_mem hm_46 ?_
              refine j_aload_n S D_M_sheet_47 0 rfl rfl ?_
              refine j_getR S D_M_sheet_48 fl_R6_55 sh_Mod rfl ?_
              refine j_iload_n S D_M_sheet_51 1 rfl rfl ?_
              refine j_iload_n S D_M_sheet_52 2 rfl rfl ?_
              refine j_dia (P := J X E 5 61 [(0, .ref (eb E + 91)), (1, .int a1), (2, .int a2), (3, .int a3)] [.int (if 0 ≤ a2 then a3 else 0), .int a1, .ref (eb E + 105)] SH m_46) (fun hj => ?_) ?_
              · refine j_if_ge S D_M_sheet_53 (fun c_53 => ?_) (fun c_53 => ?_)
                · refine j_iload_n S D_M_sheet_60 3 rfl rfl ?_
                  exact j_jnT hj c_53
                · refine j_iconst S D_M_sheet_56 ci_0 ?_
                  refine j_goto S D_M_sheet_57 ?_
                  exact j_jnF hj c_53
              obtain ⟨m_61, hm_61, h⟩ := ltE h
              refine j_iast S D_M_sheet_61 sh_105 g_46 ?_
              refine j_mem hm_61 ?_
              refine j_iconst S D_M_sheet_62 ci_0 ?_
              refine j_istore S D_M_sheet_63 (lv := [(4, .int 0), (0, .ref (eb E + 91)), (1, .int a1), (2, .int a2), (3, .int a3)]) rfl (Nat.le_of_ble_eq_true rfl) ?_
              refine j_locals [1, 2, 3, 4, 0] rfl ?_
              obtain ⟨y_65, m_65, e_65, h⟩ := bdE h
              refine L_M_sheet_65 S  N a1 a2 a3 0 m_61 _ _ e_65 ?_
              refine j_aload_n S D_M_sheet_91 0 rfl rfl ?_
              refine j_getR S D_M_sheet_92 fl_R6_55 sh_Mod rfl ?_
              refine j_iload_n S D_M_sheet_95 1 rfl rfl ?_
              refine j_iald S D_M_sheet_96 sh_105 g_46 ?_
              exact rtM hR h _ _ D_M_sheet_97
            · have h := ifF c_34 h
              refine j_ldc S D_M_sheet_37 co_R6_244 ?_
              exact rtM hR h _ _ D_M_sheet_39
        · have h := ifF c_23 h
          refine j_ldc S D_M_sheet_26 co_R6_87 ?_
          exact rtM hR h _ _ D_M_sheet_28

def y_M_mark : MethodName := ⟨"SandPictureModel", "mark", "(III)I"⟩
theorem D_M_mark_0 : decode prog_9_method_73_code 0 = .ok (.iload_n 1, 1) ∧ 0 + 1 = 1 := by decide +kernel
theorem D_M_mark_1 : decode prog_9_method_73_code 1 = .ok (.invokestatic 169, 3) ∧ 1 + 3 = 4 := by decide +kernel
theorem D_M_mark_4 : decode prog_9_method_73_code 4 = .ok (.ifCond .ne 6, 3) ∧ ((4 : Nat) : Int) + 6 = ((10 : Nat) : Int) ∧ 4 + 3 = 7 := by decide +kernel
theorem D_M_mark_10 : decode prog_9_method_73_code 10 = .ok (.aload_n 0, 1) ∧ 10 + 1 = 11 := by decide +kernel
theorem D_M_mark_11 : decode prog_9_method_73_code 11 = .ok (.getfield 52, 3) ∧ 11 + 3 = 14 := by decide +kernel
theorem D_M_mark_14 : decode prog_9_method_73_code 14 = .ok (.iload_n 1, 1) ∧ 14 + 1 = 15 := by decide +kernel
theorem D_M_mark_15 : decode prog_9_method_73_code 15 = .ok (.iaload, 1) ∧ 15 + 1 = 16 := by decide +kernel
theorem D_M_mark_16 : decode prog_9_method_73_code 16 = .ok (.ifCond .ge 6, 3) ∧ ((16 : Nat) : Int) + 6 = ((22 : Nat) : Int) ∧ 16 + 3 = 19 := by decide +kernel
theorem D_M_mark_22 : decode prog_9_method_73_code 22 = .ok (.iload_n 2, 1) ∧ 22 + 1 = 23 := by decide +kernel
theorem D_M_mark_23 : decode prog_9_method_73_code 23 = .ok (.iconst 0, 1) ∧ 23 + 1 = 24 := by decide +kernel
theorem D_M_mark_24 : decode prog_9_method_73_code 24 = .ok (.aload_n 0, 1) ∧ 24 + 1 = 25 := by decide +kernel
theorem D_M_mark_25 : decode prog_9_method_73_code 25 = .ok (.getfield 55, 3) ∧ 25 + 3 = 28 := by decide +kernel
theorem D_M_mark_28 : decode prog_9_method_73_code 28 = .ok (.iload_n 1, 1) ∧ 28 + 1 = 29 := by decide +kernel
theorem D_M_mark_29 : decode prog_9_method_73_code 29 = .ok (.iaload, 1) ∧ 29 + 1 = 30 := by decide +kernel
theorem D_M_mark_30 : decode prog_9_method_73_code 30 = .ok (.iconst 1, 1) ∧ 30 + 1 = 31 := by decide +kernel
theorem D_M_mark_31 : decode prog_9_method_73_code 31 = .ok (.isub, 1) ∧ 31 + 1 = 32 := by decide +kernel
theorem D_M_mark_32 : decode prog_9_method_73_code 32 = .ok (.invokestatic 79, 3) ∧ 32 + 3 = 35 := by decide +kernel
theorem D_M_mark_35 : decode prog_9_method_73_code 35 = .ok (.ifCond .ne 6, 3) ∧ ((35 : Nat) : Int) + 6 = ((41 : Nat) : Int) ∧ 35 + 3 = 38 := by decide +kernel
theorem D_M_mark_41 : decode prog_9_method_73_code 41 = .ok (.aload_n 0, 1) ∧ 41 + 1 = 42 := by decide +kernel
theorem D_M_mark_42 : decode prog_9_method_73_code 42 = .ok (.getfield 52, 3) ∧ 42 + 3 = 45 := by decide +kernel
theorem D_M_mark_45 : decode prog_9_method_73_code 45 = .ok (.iload_n 1, 1) ∧ 45 + 1 = 46 := by decide +kernel
theorem D_M_mark_46 : decode prog_9_method_73_code 46 = .ok (.iaload, 1) ∧ 46 + 1 = 47 := by decide +kernel
theorem D_M_mark_47 : decode prog_9_method_73_code 47 = .ok (.ifCond .ne 12, 3) ∧ ((47 : Nat) : Int) + 12 = ((59 : Nat) : Int) ∧ 47 + 3 = 50 := by decide +kernel
theorem D_M_mark_59 : decode prog_9_method_73_code 59 = .ok (.aload_n 0, 1) ∧ 59 + 1 = 60 := by decide +kernel
theorem D_M_mark_60 : decode prog_9_method_73_code 60 = .ok (.getfield 52, 3) ∧ 60 + 3 = 63 := by decide +kernel
theorem D_M_mark_63 : decode prog_9_method_73_code 63 = .ok (.iload_n 1, 1) ∧ 63 + 1 = 64 := by decide +kernel
theorem D_M_mark_64 : decode prog_9_method_73_code 64 = .ok (.iaload, 1) ∧ 64 + 1 = 65 := by decide +kernel
theorem D_M_mark_65 : decode prog_9_method_73_code 65 = .ok (.iconst 1, 1) ∧ 65 + 1 = 66 := by decide +kernel
theorem D_M_mark_66 : decode prog_9_method_73_code 66 = .ok (.if_icmp .ne 23, 3) ∧ ((66 : Nat) : Int) + 23 = ((89 : Nat) : Int) ∧ 66 + 3 = 69 := by decide +kernel
theorem D_M_mark_89 : decode prog_9_method_73_code 89 = .ok (.aload_n 0, 1) ∧ 89 + 1 = 90 := by decide +kernel
theorem D_M_mark_90 : decode prog_9_method_73_code 90 = .ok (.getfield 58, 3) ∧ 90 + 3 = 93 := by decide +kernel
theorem D_M_mark_93 : decode prog_9_method_73_code 93 = .ok (.bipush 24, 2) ∧ 93 + 2 = 95 := by decide +kernel
theorem D_M_mark_95 : decode prog_9_method_73_code 95 = .ok (.iload_n 1, 1) ∧ 95 + 1 = 96 := by decide +kernel
theorem D_M_mark_96 : decode prog_9_method_73_code 96 = .ok (.imul, 1) ∧ 96 + 1 = 97 := by decide +kernel
theorem D_M_mark_97 : decode prog_9_method_73_code 97 = .ok (.iload_n 2, 1) ∧ 97 + 1 = 98 := by decide +kernel
theorem D_M_mark_98 : decode prog_9_method_73_code 98 = .ok (.iadd, 1) ∧ 98 + 1 = 99 := by decide +kernel
theorem D_M_mark_99 : decode prog_9_method_73_code 99 = .ok (.aload_n 0, 1) ∧ 99 + 1 = 100 := by decide +kernel
theorem D_M_mark_100 : decode prog_9_method_73_code 100 = .ok (.getfield 52, 3) ∧ 100 + 3 = 103 := by decide +kernel
theorem D_M_mark_103 : decode prog_9_method_73_code 103 = .ok (.iload_n 1, 1) ∧ 103 + 1 = 104 := by decide +kernel
theorem D_M_mark_104 : decode prog_9_method_73_code 104 = .ok (.iaload, 1) ∧ 104 + 1 = 105 := by decide +kernel
theorem D_M_mark_113 : decode prog_9_method_73_code 113 = .ok (.iload_n 3, 1) ∧ 113 + 1 = 114 := by decide +kernel
theorem D_M_mark_108 : decode prog_9_method_73_code 108 = .ok (.iload_n 3, 1) ∧ 108 + 1 = 109 := by decide +kernel
theorem D_M_mark_109 : decode prog_9_method_73_code 109 = .ok (.i2s, 1) ∧ 109 + 1 = 110 := by decide +kernel
theorem D_M_mark_110 : decode prog_9_method_73_code 110 = .ok (.goto 4, 3) ∧ ((110 : Nat) : Int) + 4 = ((114 : Nat) : Int) := by decide +kernel
theorem D_M_mark_105 : decode prog_9_method_73_code 105 = .ok (.ifCond .ne 8, 3) ∧ ((105 : Nat) : Int) + 8 = ((113 : Nat) : Int) ∧ 105 + 3 = 108 := by decide +kernel
theorem D_M_mark_114 : decode prog_9_method_73_code 114 = .ok (.iastore, 1) ∧ 114 + 1 = 115 := by decide +kernel
theorem D_M_mark_115 : decode prog_9_method_73_code 115 = .ok (.iconst 1, 1) ∧ 115 + 1 = 116 := by decide +kernel
theorem D_M_mark_116 : decode prog_9_method_73_code 116 = .ok (.ireturn, 1) := by decide +kernel
theorem D_M_mark_69 : decode prog_9_method_73_code 69 = .ok (.iload_n 3, 1) ∧ 69 + 1 = 70 := by decide +kernel
theorem D_M_mark_70 : decode prog_9_method_73_code 70 = .ok (.ldc 168, 2) ∧ 70 + 2 = 72 := by decide +kernel
theorem D_M_mark_72 : decode prog_9_method_73_code 72 = .ok (.if_icmp .eq 17, 3) ∧ ((72 : Nat) : Int) + 17 = ((89 : Nat) : Int) ∧ 72 + 3 = 75 := by decide +kernel
theorem D_M_mark_75 : decode prog_9_method_73_code 75 = .ok (.iload_n 3, 1) ∧ 75 + 1 = 76 := by decide +kernel
theorem D_M_mark_76 : decode prog_9_method_73_code 76 = .ok (.ldc 246, 2) ∧ 76 + 2 = 78 := by decide +kernel
theorem D_M_mark_78 : decode prog_9_method_73_code 78 = .ok (.ldc 133, 2) ∧ 78 + 2 = 80 := by decide +kernel
theorem D_M_mark_80 : decode prog_9_method_73_code 80 = .ok (.invokestatic 79, 3) ∧ 80 + 3 = 83 := by decide +kernel
theorem D_M_mark_83 : decode prog_9_method_73_code 83 = .ok (.ifCond .ne 6, 3) ∧ ((83 : Nat) : Int) + 6 = ((89 : Nat) : Int) ∧ 83 + 3 = 86 := by decide +kernel
theorem D_M_mark_86 : decode prog_9_method_73_code 86 = .ok (.ldc 87, 2) ∧ 86 + 2 = 88 := by decide +kernel
theorem D_M_mark_88 : decode prog_9_method_73_code 88 = .ok (.ireturn, 1) := by decide +kernel
theorem D_M_mark_50 : decode prog_9_method_73_code 50 = .ok (.iload_n 3, 1) ∧ 50 + 1 = 51 := by decide +kernel
theorem D_M_mark_51 : decode prog_9_method_73_code 51 = .ok (.ldc 168, 2) ∧ 51 + 2 = 53 := by decide +kernel
theorem D_M_mark_53 : decode prog_9_method_73_code 53 = .ok (.if_icmp .ne 6, 3) ∧ ((53 : Nat) : Int) + 6 = ((59 : Nat) : Int) ∧ 53 + 3 = 56 := by decide +kernel
theorem D_M_mark_56 : decode prog_9_method_73_code 56 = .ok (.ldc 129, 2) ∧ 56 + 2 = 58 := by decide +kernel
theorem D_M_mark_58 : decode prog_9_method_73_code 58 = .ok (.ireturn, 1) := by decide +kernel
theorem D_M_mark_38 : decode prog_9_method_73_code 38 = .ok (.ldc 245, 2) ∧ 38 + 2 = 40 := by decide +kernel
theorem D_M_mark_40 : decode prog_9_method_73_code 40 = .ok (.ireturn, 1) := by decide +kernel
theorem D_M_mark_19 : decode prog_9_method_73_code 19 = .ok (.ldc 172, 2) ∧ 19 + 2 = 21 := by decide +kernel
theorem D_M_mark_21 : decode prog_9_method_73_code 21 = .ok (.ireturn, 1) := by decide +kernel
theorem D_M_mark_7 : decode prog_9_method_73_code 7 = .ok (.ldc 87, 2) ∧ 7 + 2 = 9 := by decide +kernel
theorem D_M_mark_9 : decode prog_9_method_73_code 9 = .ok (.ireturn, 1) := by decide +kernel
def f_M_mark (a1 : Int32) (a2 : Int32) (a3 : Int32) (mem : Mm) : Option (Int32 × Mm) := bp (f_M_isSheet a1) fun r_1 => if r_1 = 0 then some ((-1000000001), mem) else if inb a1 4 = true then if 0 ≤ mem 104 (ix a1) then bp (f_M_in a2 0 ((mem 105 (ix a1)) - 1)) fun r_32 => if r_32 = 0 then some ((-1000000013), mem) else if mem 104 (ix a1) = 0 then if a3 = (-1000000005) then some ((-1000000012), mem) else if mem 104 (ix a1) = 1 then if a3 = (-1000000005) then if inb ((24 * a1) + a2) 96 = true then lt (mst mem 106 (ix ((24 * a1) + a2)) (if mem 104 (ix a1) = 0 then a3.toInt16.toInt32 else a3)) fun m_114 => some (1, m_114) else none else bp (f_M_in a3 (-99999) 99999) fun r_80 => if r_80 = 0 then some ((-1000000001), mem) else if inb ((24 * a1) + a2) 96 = true then lt (mst mem 106 (ix ((24 * a1) + a2)) (if mem 104 (ix a1) = 0 then a3.toInt16.toInt32 else a3)) fun m_114 => some (1, m_114) else none else if inb ((24 * a1) + a2) 96 = true then lt (mst mem 106 (ix ((24 * a1) + a2)) (if mem 104 (ix a1) = 0 then a3.toInt16.toInt32 else a3)) fun m_114 => some (1, m_114) else none else if mem 104 (ix a1) = 1 then if a3 = (-1000000005) then if inb ((24 * a1) + a2) 96 = true then lt (mst mem 106 (ix ((24 * a1) + a2)) (if mem 104 (ix a1) = 0 then a3.toInt16.toInt32 else a3)) fun m_114 => some (1, m_114) else none else bp (f_M_in a3 (-99999) 99999) fun r_80 => if r_80 = 0 then some ((-1000000001), mem) else if inb ((24 * a1) + a2) 96 = true then lt (mst mem 106 (ix ((24 * a1) + a2)) (if mem 104 (ix a1) = 0 then a3.toInt16.toInt32 else a3)) fun m_114 => some (1, m_114) else none else if inb ((24 * a1) + a2) 96 = true then lt (mst mem 106 (ix ((24 * a1) + a2)) (if mem 104 (ix a1) = 0 then a3.toInt16.toInt32 else a3)) fun m_114 => some (1, m_114) else none else some ((-1000000011), mem) else none
theorem c_M_mark (l : Launch) (E : En) (a1 : Int32) (a2 : Int32) (a3 : Int32) {mem : Mm} {r : Int32} {m2 : Mm} (h : f_M_mark a1 a2 a3 mem = some (r, m2)) : CtI l E 2 y_M_mark prog_9_method_73_code 4 (some .int) [.ref (eb E + 91), .int a1, .int a2, .int a3] SH mem r m2 := by
  refine mk_CtI ⟨by decide, (Nat.le_of_ble_eq_true rfl)⟩ (fun X S hl hR => ?_)
  have S : Std X E prog_9_method_73_code R6 4 2 := S
  show J X E 4 0 [(0, .ref (eb E + 91)), (1, .int a1), (2, .int a2), (3, .int a3)] [] SH mem
  unfold f_M_mark at h
  refine j_iload_n S D_M_mark_0 1 rfl rfl ?_
  obtain ⟨r_1, e_1, h⟩ := bpE h
  refine j_callSI (As := [.int a1]) S D_M_mark_1 ms_R6_169 (c_M_isSheet (cxL X) E a1 (mem := mem) e_1) (by decide) rfl rfl (Nat.le_of_ble_eq_true rfl) ?_
  refine j_if_ne S D_M_mark_4 (fun c_4 => ?_) (fun c_4 => ?_)
  · have h := ifF c_4 h
    refine j_aload_n S D_M_mark_10 0 rfl rfl ?_
    refine j_getR S D_M_mark_11 fl_R6_52 sh_Mod rfl ?_
    refine j_iload_n S D_M_mark_14 1 rfl rfl ?_
    obtain ⟨g_15, h⟩ := gdE h
    refine j_iald S D_M_mark_15 sh_104 g_15 ?_
    refine j_if_ge S D_M_mark_16 (fun c_16 => ?_) (fun c_16 => ?_)
    · have h := ifT c_16 h
      refine j_iload_n S D_M_mark_22 2 rfl rfl ?_
      refine j_iconst S D_M_mark_23 ci_0 ?_
      refine j_aload_n S D_M_mark_24 0 rfl rfl ?_
      refine j_getR S D_M_mark_25 fl_R6_55 sh_Mod rfl ?_
      refine j_iload_n S D_M_mark_28 1 rfl rfl ?_
      refine j_iald S D_M_mark_29 sh_105 g_15 ?_
      refine j_iconst S D_M_mark_30 ci_1 ?_
      refine j_isub S D_M_mark_31 ?_
      obtain ⟨r_32, e_32, h⟩ := bpE h
      refine j_callSI (As := [.int a2, .int 0, .int ((mem 105 (ix a1)) - 1)]) S D_M_mark_32 ms_R6_79 (c_M_in (cxL X) E a2 0 ((mem 105 (ix a1)) - 1) (mem := mem) e_32) (by decide) rfl rfl (Nat.le_of_ble_eq_true rfl) ?_
      refine j_if_ne S D_M_mark_35 (fun c_35 => ?_) (fun c_35 => ?_)
      · have h := ifF c_35 h
        refine j_aload_n S D_M_mark_41 0 rfl rfl ?_
        refine j_getR S D_M_mark_42 fl_R6_52 sh_Mod rfl ?_
        refine j_iload_n S D_M_mark_45 1 rfl rfl ?_
        refine j_iald S D_M_mark_46 sh_104 g_15 ?_
        refine j_if_ne S D_M_mark_47 (fun c_47 => ?_) (fun c_47 => ?_)
        · have h := ifF c_47 h
          refine j_aload_n S D_M_mark_59 0 rfl rfl ?_
          refine j_getR S D_M_mark_60 fl_R6_52 sh_Mod rfl ?_
          refine j_iload_n S D_M_mark_63 1 rfl rfl ?_
          refine j_iald S D_M_mark_64 sh_104 g_15 ?_
          refine j_iconst S D_M_mark_65 ci_1 ?_
          refine j_icmp_ne S D_M_mark_66 (fun c_66 => ?_) (fun c_66 => ?_)
          · have h := ifF c_66 h
            refine j_aload_n S D_M_mark_89 0 rfl rfl ?_
            refine j_getR S D_M_mark_90 fl_R6_58 sh_Mod rfl ?_
            refine j_bipush S D_M_mark_93 cb_24 ?_
            refine j_iload_n S D_M_mark_95 1 rfl rfl ?_
            refine j_imul S D_M_mark_96 ?_
            refine j_iload_n S D_M_mark_97 2 rfl rfl ?_
            refine j_iadd S D_M_mark_98 ?_
            refine j_aload_n S D_M_mark_99 0 rfl rfl ?_
            refine j_getR S D_M_mark_100 fl_R6_52 sh_Mod rfl ?_
            refine j_iload_n S D_M_mark_103 1 rfl rfl ?_
            refine j_iald S D_M_mark_104 sh_104 g_15 ?_
            refine j_dia (P := J X E 4 114 [(0, .ref (eb E + 91)), (1, .int a1), (2, .int a2), (3, .int a3)] [.int (if mem 104 (ix a1) = 0 then a3.toInt16.toInt32 else a3), .int ((24 * a1) + a2), .ref (eb E + 106)] SH mem) (fun hj => ?_) ?_
            · refine j_if_ne S D_M_mark_105 (fun c_105 => ?_) (fun c_105 => ?_)
              · refine j_iload_n S D_M_mark_113 3 rfl rfl ?_
                exact j_jnF hj c_105
              · refine j_iload_n S D_M_mark_108 3 rfl rfl ?_
                refine j_i2s S D_M_mark_109 ?_
                refine j_goto S D_M_mark_110 ?_
                exact j_jnT hj c_105
            obtain ⟨g_114, h⟩ := gdE h
            obtain ⟨m_114, hm_114, h⟩ := ltE h
            refine j_iast S D_M_mark_114 sh_106 g_114 ?_
            refine j_mem hm_114 ?_
            refine j_iconst S D_M_mark_115 ci_1 ?_
            exact rtM hR h _ _ D_M_mark_116
          · have h := ifT c_66 h
            refine j_iload_n S D_M_mark_69 3 rfl rfl ?_
            refine j_ldc S D_M_mark_70 co_R6_168 ?_
            refine j_icmp_eq S D_M_mark_72 (fun c_72 => ?_) (fun c_72 => ?_)
            · have h := ifT c_72 h
              refine j_aload_n S D_M_mark_89 0 rfl rfl ?_
              refine j_getR S D_M_mark_90 fl_R6_58 sh_Mod rfl ?_
              refine j_bipush S D_M_mark_93 cb_24 ?_
              refine j_iload_n S D_M_mark_95 1 rfl rfl ?_
              refine j_imul S D_M_mark_96 ?_
              refine j_iload_n S D_M_mark_97 2 rfl rfl ?_
              refine j_iadd S D_M_mark_98 ?_
              refine j_aload_n S D_M_mark_99 0 rfl rfl ?_
              refine j_getR S D_M_mark_100 fl_R6_52 sh_Mod rfl ?_
              refine j_iload_n S D_M_mark_103 1 rfl rfl ?_
              refine j_iald S D_M_mark_104 sh_104 g_15 ?_
              refine j_dia (P := J X E 4 114 [(0, .ref (eb E + 91)), (1, .int a1), (2, .int a2), (3, .int a3)] [.int (if mem 104 (ix a1) = 0 then a3.toInt16.toInt32 else a3), .int ((24 * a1) + a2), .ref (eb E + 106)] SH mem) (fun hj => ?_) ?_
              · refine j_if_ne S D_M_mark_105 (fun c_105 => ?_) (fun c_105 => ?_)
                · refine j_iload_n S D_M_mark_113 3 rfl rfl ?_
                  exact j_jnF hj c_105
                · refine j_iload_n S D_M_mark_108 3 rfl rfl ?_
                  refine j_i2s S D_M_mark_109 ?_
                  refine j_goto S D_M_mark_110 ?_
                  exact j_jnT hj c_105
              obtain ⟨g_114, h⟩ := gdE h
              obtain ⟨m_114, hm_114, h⟩ := ltE h
              refine j_iast S D_M_mark_114 sh_106 g_114 ?_
              refine j_mem hm_114 ?_
              refine j_iconst S D_M_mark_115 ci_1 ?_
              exact rtM hR h _ _ D_M_mark_116
            · have h := ifF c_72 h
              refine j_iload_n S D_M_mark_75 3 rfl rfl ?_
              refine j_ldc S D_M_mark_76 co_R6_246 ?_
              refine j_ldc S D_M_mark_78 co_R6_133 ?_
              obtain ⟨r_80, e_80, h⟩ := bpE h
              refine j_callSI (As := [.int a3, .int (-99999), .int 99999]) S D_M_mark_80 ms_R6_79 (c_M_in (cxL X) E a3 (-99999) 99999 (mem := mem) e_80) (by decide) rfl rfl (Nat.le_of_ble_eq_true rfl) ?_
              refine j_if_ne S D_M_mark_83 (fun c_83 => ?_) (fun c_83 => ?_)
              · have h := ifF c_83 h
                refine j_aload_n S D_M_mark_89 0 rfl rfl ?_
                refine j_getR S D_M_mark_90 fl_R6_58 sh_Mod rfl ?_
                refine j_bipush S D_M_mark_93 cb_24 ?_
                refine j_iload_n S D_M_mark_95 1 rfl rfl ?_
                refine j_imul S D_M_mark_96 ?_
                refine j_iload_n S D_M_mark_97 2 rfl rfl ?_
                refine j_iadd S D_M_mark_98 ?_
                refine j_aload_n S D_M_mark_99 0 rfl rfl ?_
                refine j_getR S D_M_mark_100 fl_R6_52 sh_Mod rfl ?_
                refine j_iload_n S D_M_mark_103 1 rfl rfl ?_
                refine j_iald S D_M_mark_104 sh_104 g_15 ?_
                refine j_dia (P := J X E 4 114 [(0, .ref (eb E + 91)), (1, .int a1), (2, .int a2), (3, .int a3)] [.int (if mem 104 (ix a1) = 0 then a3.toInt16.toInt32 else a3), .int ((24 * a1) + a2), .ref (eb E + 106)] SH mem) (fun hj => ?_) ?_
                · refine j_if_ne S D_M_mark_105 (fun c_105 => ?_) (fun c_105 => ?_)
                  · refine j_iload_n S D_M_mark_113 3 rfl rfl ?_
                    exact j_jnF hj c_105
                  · refine j_iload_n S D_M_mark_108 3 rfl rfl ?_
                    refine j_i2s S D_M_mark_109 ?_
                    refine j_goto S D_M_mark_110 ?_
                    exact j_jnT hj c_105
                obtain ⟨g_114, h⟩ := gdE h
                obtain ⟨m_114, hm_114, h⟩ := ltE h
                refine j_iast S D_M_mark_114 sh_106 g_114 ?_
                refine j_mem hm_114 ?_
                refine j_iconst S D_M_mark_115 ci_1 ?_
                exact rtM hR h _ _ D_M_mark_116
              · have h := ifT c_83 h
                refine j_ldc S D_M_mark_86 co_R6_87 ?_
                exact rtM hR h _ _ D_M_mark_88
        · have h := ifT c_47 h
          refine j_iload_n S D_M_mark_50 3 rfl rfl ?_
          refine j_ldc S D_M_mark_51 co_R6_168 ?_
          refine j_icmp_ne S D_M_mark_53 (fun c_53 => ?_) (fun c_53 => ?_)
          · have h := ifF c_53 h
            refine j_aload_n S D_M_mark_59 0 rfl rfl ?_
            refine j_getR S D_M_mark_60 fl_R6_52 sh_Mod rfl ?_
            refine j_iload_n S D_M_mark_63 1 rfl rfl ?_
            refine j_iald S D_M_mark_64 sh_104 g_15 ?_
            refine j_iconst S D_M_mark_65 ci_1 ?_
            refine j_icmp_ne S D_M_mark_66 (fun c_66 => ?_) (fun c_66 => ?_)
            · have h := ifF c_66 h
              refine j_aload_n S D_M_mark_89 0 rfl rfl ?_
              refine j_getR S D_M_mark_90 fl_R6_58 sh_Mod rfl ?_
              refine j_bipush S D_M_mark_93 cb_24 ?_
              refine j_iload_n S D_M_mark_95 1 rfl rfl ?_
              refine j_imul S D_M_mark_96 ?_
              refine j_iload_n S D_M_mark_97 2 rfl rfl ?_
              refine j_iadd S D_M_mark_98 ?_
              refine j_aload_n S D_M_mark_99 0 rfl rfl ?_
              refine j_getR S D_M_mark_100 fl_R6_52 sh_Mod rfl ?_
              refine j_iload_n S D_M_mark_103 1 rfl rfl ?_
              refine j_iald S D_M_mark_104 sh_104 g_15 ?_
              refine j_dia (P := J X E 4 114 [(0, .ref (eb E + 91)), (1, .int a1), (2, .int a2), (3, .int a3)] [.int (if mem 104 (ix a1) = 0 then a3.toInt16.toInt32 else a3), .int ((24 * a1) + a2), .ref (eb E + 106)] SH mem) (fun hj => ?_) ?_
              · refine j_if_ne S D_M_mark_105 (fun c_105 => ?_) (fun c_105 => ?_)
                · refine j_iload_n S D_M_mark_113 3 rfl rfl ?_
                  exact j_jnF hj c_105
                · refine j_iload_n S D_M_mark_108 3 rfl rfl ?_
                  refine j_i2s S D_M_mark_109 ?_
                  refine j_goto S D_M_mark_110 ?_
                  exact j_jnT hj c_105
              obtain ⟨g_114, h⟩ := gdE h
              obtain ⟨m_114, hm_114, h⟩ := ltE h
              refine j_iast S D_M_mark_114 sh_106 g_114 ?_
              refine j_mem hm_114 ?_
              refine j_iconst S D_M_mark_115 ci_1 ?_
              exact rtM hR h _ _ D_M_mark_116
            · have h := ifT c_66 h
              refine j_iload_n S D_M_mark_69 3 rfl rfl ?_
              refine j_ldc S D_M_mark_70 co_R6_168 ?_
              refine j_icmp_eq S D_M_mark_72 (fun c_72 => ?_) (fun c_72 => ?_)
              · have h := ifT c_72 h
                refine j_aload_n S D_M_mark_89 0 rfl rfl ?_
                refine j_getR S D_M_mark_90 fl_R6_58 sh_Mod rfl ?_
                refine j_bipush S D_M_mark_93 cb_24 ?_
                refine j_iload_n S D_M_mark_95 1 rfl rfl ?_
                refine j_imul S D_M_mark_96 ?_
                refine j_iload_n S D_M_mark_97 2 rfl rfl ?_
                refine j_iadd S D_M_mark_98 ?_
                refine j_aload_n S D_M_mark_99 0 rfl rfl ?_
                refine j_getR S D_M_mark_100 fl_R6_52 sh_Mod rfl ?_
                refine j_iload_n S D_M_mark_103 1 rfl rfl ?_
                refine j_iald S D_M_mark_104 sh_104 g_15 ?_
                refine j_dia (P := J X E 4 114 [(0, .ref (eb E + 91)), (1, .int a1), (2, .int a2), (3, .int a3)] [.int (if mem 104 (ix a1) = 0 then a3.toInt16.toInt32 else a3), .int ((24 * a1) + a2), .ref (eb E + 106)] SH mem) (fun hj => ?_) ?_
                · refine j_if_ne S D_M_mark_105 (fun c_105 => ?_) (fun c_105 => ?_)
                  · refine j_iload_n S D_M_mark_113 3 rfl rfl ?_
                    exact j_jnF hj c_105
                  · refine j_iload_n S D_M_mark_108 3 rfl rfl ?_
                    refine j_i2s S D_M_mark_109 ?_
                    refine j_goto S D_M_mark_110 ?_
                    exact j_jnT hj c_105
                obtain ⟨g_114, h⟩ := gdE h
                obtain ⟨m_114, hm_114, h⟩ := ltE h
                refine j_iast S D_M_mark_114 sh_106 g_114 ?_
                refine j_mem hm_114 ?_
                refine j_iconst S D_M_mark_115 ci_1 ?_
                exact rtM hR h _ _ D_M_mark_116
              · have h := ifF c_72 h
                refine j_iload_n S D_M_mark_75 3 rfl rfl ?_
                refine j_ldc S D_M_mark_76 co_R6_246 ?_
                refine j_ldc S D_M_mark_78 co_R6_133 ?_
                obtain ⟨r_80, e_80, h⟩ := bpE h
                refine j_callSI (As := [.int a3, .int (-99999), .int 99999]) S D_M_mark_80 ms_R6_79 (c_M_in (cxL X) E a3 (-99999) 99999 (mem := mem) e_80) (by decide) rfl rfl (Nat.le_of_ble_eq_true rfl) ?_
                refine j_if_ne S D_M_mark_83 (fun c_83 => ?_) (fun c_83 => ?_)
                · have h := ifF c_83 h
                  refine j_aload_n S D_M_mark_89 0 rfl rfl ?_
                  refine j_getR S D_M_mark_90 fl_R6_58 sh_Mod rfl ?_
                  refine j_bipush S D_M_mark_93 cb_24 ?_
                  refine j_iload_n S D_M_mark_95 1 rfl rfl ?_
                  refine j_imul S D_M_mark_96 ?_
                  refine j_iload_n S D_M_mark_97 2 rfl rfl ?_
                  refine j_iadd S D_M_mark_98 ?_
                  refine j_aload_n S D_M_mark_99 0 rfl rfl ?_
                  refine j_getR S D_M_mark_100 fl_R6_52 sh_Mod rfl ?_
                  refine j_iload_n S D_M_mark_103 1 rfl rfl ?_
                  refine j_iald S D_M_mark_104 sh_104 g_15 ?_
                  refine j_dia (P := J X E 4 114 [(0, .ref (eb E + 91)), (1, .int a1), (2, .int a2), (3, .int a3)] [.int (if mem 104 (ix a1) = 0 then a3.toInt16.toInt32 else a3), .int ((24 * a1) + a2), .ref (eb E + 106)] SH mem) (fun hj => ?_) ?_
                  · refine j_if_ne S D_M_mark_105 (fun c_105 => ?_) (fun c_105 => ?_)
                    · refine j_iload_n S D_M_mark_113 3 rfl rfl ?_
                      exact j_jnF hj c_105
                    · refine j_iload_n S D_M_mark_108 3 rfl rfl ?_
                      refine j_i2s S D_M_mark_109 ?_
                      refine j_goto S D_M_mark_110 ?_
                      exact j_jnT hj c_105
                  obtain ⟨g_114, h⟩ := gdE h
                  obtain ⟨m_114, hm_114, h⟩ := ltE h
                  refine j_iast S D_M_mark_114 sh_106 g_114 ?_
                  refine j_mem hm_114 ?_
                  refine j_iconst S D_M_mark_115 ci_1 ?_
                  exact rtM hR h _ _ D_M_mark_116
                · have h := ifT c_83 h
                  refine j_ldc S D_M_mark_86 co_R6_87 ?_
                  exact rtM hR h _ _ D_M_mark_88
          · have h := ifT c_53 h
            refine j_ldc S D_M_mark_56 co_R6_129 ?_
            exact rtM hR h _ _ D_M_mark_58
      · have h := ifT c_35 h
        refine j_ldc S D_M_mark_38 co_R6_245 ?_
        exact rtM hR h _ _ D_M_mark_40
    · have h := ifF c_16 h
      refine j_ldc S D_M_mark_19 co_R6_172 ?_
      exact rtM hR h _ _ D_M_mark_21
  · have h := ifT c_4 h
    refine j_ldc S D_M_mark_7 co_R6_87 ?_
    exact rtM hR h _ _ D_M_mark_9

def y_M_pour : MethodName := ⟨"SandPictureModel", "pour", "(I)I"⟩
theorem D_M_pour_0 : decode prog_9_method_74_code 0 = .ok (.iload_n 1, 1) ∧ 0 + 1 = 1 := by decide +kernel
theorem D_M_pour_1 : decode prog_9_method_74_code 1 = .ok (.invokestatic 169, 3) ∧ 1 + 3 = 4 := by decide +kernel
theorem D_M_pour_4 : decode prog_9_method_74_code 4 = .ok (.ifCond .ne 6, 3) ∧ ((4 : Nat) : Int) + 6 = ((10 : Nat) : Int) ∧ 4 + 3 = 7 := by decide +kernel
theorem D_M_pour_10 : decode prog_9_method_74_code 10 = .ok (.aload_n 0, 1) ∧ 10 + 1 = 11 := by decide +kernel
theorem D_M_pour_11 : decode prog_9_method_74_code 11 = .ok (.getfield 52, 3) ∧ 11 + 3 = 14 := by decide +kernel
theorem D_M_pour_14 : decode prog_9_method_74_code 14 = .ok (.iload_n 1, 1) ∧ 14 + 1 = 15 := by decide +kernel
theorem D_M_pour_15 : decode prog_9_method_74_code 15 = .ok (.iaload, 1) ∧ 15 + 1 = 16 := by decide +kernel
theorem D_M_pour_16 : decode prog_9_method_74_code 16 = .ok (.ifCond .ge 6, 3) ∧ ((16 : Nat) : Int) + 6 = ((22 : Nat) : Int) ∧ 16 + 3 = 19 := by decide +kernel
theorem D_M_pour_22 : decode prog_9_method_74_code 22 = .ok (.iconst 0, 1) ∧ 22 + 1 = 23 := by decide +kernel
theorem D_M_pour_23 : decode prog_9_method_74_code 23 = .ok (.istore_n 2, 1) ∧ 23 + 1 = 24 := by decide +kernel
theorem D_M_pour_24 : decode prog_9_method_74_code 24 = .ok (.iconst 0, 1) ∧ 24 + 1 = 25 := by decide +kernel
theorem D_M_pour_25 : decode prog_9_method_74_code 25 = .ok (.istore_n 3, 1) ∧ 25 + 1 = 26 := by decide +kernel
theorem D_M_pour_26 : decode prog_9_method_74_code 26 = .ok (.iload_n 3, 1) ∧ 26 + 1 = 27 := by decide +kernel
theorem D_M_pour_27 : decode prog_9_method_74_code 27 = .ok (.aload_n 0, 1) ∧ 27 + 1 = 28 := by decide +kernel
theorem D_M_pour_28 : decode prog_9_method_74_code 28 = .ok (.getfield 55, 3) ∧ 28 + 3 = 31 := by decide +kernel
theorem D_M_pour_31 : decode prog_9_method_74_code 31 = .ok (.iload_n 1, 1) ∧ 31 + 1 = 32 := by decide +kernel
theorem D_M_pour_32 : decode prog_9_method_74_code 32 = .ok (.iaload, 1) ∧ 32 + 1 = 33 := by decide +kernel
theorem D_M_pour_33 : decode prog_9_method_74_code 33 = .ok (.if_icmp .ge 80, 3) ∧ ((33 : Nat) : Int) + 80 = ((113 : Nat) : Int) ∧ 33 + 3 = 36 := by decide +kernel
theorem D_M_pour_36 : decode prog_9_method_74_code 36 = .ok (.iload_n 3, 1) ∧ 36 + 1 = 37 := by decide +kernel
theorem D_M_pour_37 : decode prog_9_method_74_code 37 = .ok (.bipush 6, 2) ∧ 37 + 2 = 39 := by decide +kernel
theorem D_M_pour_39 : decode prog_9_method_74_code 39 = .ok (.if_icmp .ge 74, 3) ∧ ((39 : Nat) : Int) + 74 = ((113 : Nat) : Int) ∧ 39 + 3 = 42 := by decide +kernel
theorem D_M_pour_42 : decode prog_9_method_74_code 42 = .ok (.aload_n 0, 1) ∧ 42 + 1 = 43 := by decide +kernel
theorem D_M_pour_43 : decode prog_9_method_74_code 43 = .ok (.getfield 58, 3) ∧ 43 + 3 = 46 := by decide +kernel
theorem D_M_pour_46 : decode prog_9_method_74_code 46 = .ok (.bipush 24, 2) ∧ 46 + 2 = 48 := by decide +kernel
theorem D_M_pour_48 : decode prog_9_method_74_code 48 = .ok (.iload_n 1, 1) ∧ 48 + 1 = 49 := by decide +kernel
theorem D_M_pour_49 : decode prog_9_method_74_code 49 = .ok (.imul, 1) ∧ 49 + 1 = 50 := by decide +kernel
theorem D_M_pour_50 : decode prog_9_method_74_code 50 = .ok (.iload_n 3, 1) ∧ 50 + 1 = 51 := by decide +kernel
theorem D_M_pour_51 : decode prog_9_method_74_code 51 = .ok (.iadd, 1) ∧ 51 + 1 = 52 := by decide +kernel
theorem D_M_pour_52 : decode prog_9_method_74_code 52 = .ok (.iaload, 1) ∧ 52 + 1 = 53 := by decide +kernel
theorem D_M_pour_53 : decode prog_9_method_74_code 53 = .ok (.istore 4, 2) ∧ 53 + 2 = 55 := by decide +kernel
theorem D_M_pour_55 : decode prog_9_method_74_code 55 = .ok (.iload 4, 2) ∧ 55 + 2 = 57 := by decide +kernel
theorem D_M_pour_57 : decode prog_9_method_74_code 57 = .ok (.ldc 168, 2) ∧ 57 + 2 = 59 := by decide +kernel
theorem D_M_pour_59 : decode prog_9_method_74_code 59 = .ok (.if_icmp .ne 12, 3) ∧ ((59 : Nat) : Int) + 12 = ((71 : Nat) : Int) ∧ 59 + 3 = 62 := by decide +kernel
theorem D_M_pour_71 : decode prog_9_method_74_code 71 = .ok (.iload 4, 2) ∧ 71 + 2 = 73 := by decide +kernel
theorem D_M_pour_73 : decode prog_9_method_74_code 73 = .ok (.iconst 1, 1) ∧ 73 + 1 = 74 := by decide +kernel
theorem D_M_pour_74 : decode prog_9_method_74_code 74 = .ok (.sipush 999, 3) ∧ 74 + 3 = 77 := by decide +kernel
theorem D_M_pour_77 : decode prog_9_method_74_code 77 = .ok (.invokestatic 113, 3) ∧ 77 + 3 = 80 := by decide +kernel
theorem D_M_pour_80 : decode prog_9_method_74_code 80 = .ok (.istore 5, 2) ∧ 80 + 2 = 82 := by decide +kernel
theorem D_M_pour_82 : decode prog_9_method_74_code 82 = .ok (.iload_n 2, 1) ∧ 82 + 1 = 83 := by decide +kernel
theorem D_M_pour_83 : decode prog_9_method_74_code 83 = .ok (.aload_n 0, 1) ∧ 83 + 1 = 84 := by decide +kernel
theorem D_M_pour_84 : decode prog_9_method_74_code 84 = .ok (.bipush 10, 2) ∧ 84 + 2 = 86 := by decide +kernel
theorem D_M_pour_86 : decode prog_9_method_74_code 86 = .ok (.iconst 4, 1) ∧ 86 + 1 = 87 := by decide +kernel
theorem D_M_pour_87 : decode prog_9_method_74_code 87 = .ok (.iload_n 3, 1) ∧ 87 + 1 = 88 := by decide +kernel
theorem D_M_pour_88 : decode prog_9_method_74_code 88 = .ok (.imul, 1) ∧ 88 + 1 = 89 := by decide +kernel
theorem D_M_pour_89 : decode prog_9_method_74_code 89 = .ok (.iadd, 1) ∧ 89 + 1 = 90 := by decide +kernel
theorem D_M_pour_90 : decode prog_9_method_74_code 90 = .ok (.iload 5, 2) ∧ 90 + 2 = 92 := by decide +kernel
theorem D_M_pour_92 : decode prog_9_method_74_code 92 = .ok (.invokevirtual 130, 3) ∧ 92 + 3 = 95 := by decide +kernel
theorem D_M_pour_95 : decode prog_9_method_74_code 95 = .ok (.iload 5, 2) ∧ 95 + 2 = 97 := by decide +kernel
theorem D_M_pour_104 : decode prog_9_method_74_code 104 = .ok (.iconst 1, 1) ∧ 104 + 1 = 105 := by decide +kernel
theorem D_M_pour_100 : decode prog_9_method_74_code 100 = .ok (.iconst 0, 1) ∧ 100 + 1 = 101 := by decide +kernel
theorem D_M_pour_101 : decode prog_9_method_74_code 101 = .ok (.goto 4, 3) ∧ ((101 : Nat) : Int) + 4 = ((105 : Nat) : Int) := by decide +kernel
theorem D_M_pour_97 : decode prog_9_method_74_code 97 = .ok (.if_icmp .ne 7, 3) ∧ ((97 : Nat) : Int) + 7 = ((104 : Nat) : Int) ∧ 97 + 3 = 100 := by decide +kernel
theorem D_M_pour_105 : decode prog_9_method_74_code 105 = .ok (.iadd, 1) ∧ 105 + 1 = 106 := by decide +kernel
theorem D_M_pour_106 : decode prog_9_method_74_code 106 = .ok (.istore_n 2, 1) ∧ 106 + 1 = 107 := by decide +kernel
theorem D_M_pour_107 : decode prog_9_method_74_code 107 = .ok (.iinc 3 1, 3) ∧ 107 + 3 = 110 := by decide +kernel
theorem D_M_pour_110 : decode prog_9_method_74_code 110 = .ok (.goto (-84), 3) ∧ ((110 : Nat) : Int) + (-84) = ((26 : Nat) : Int) := by decide +kernel
theorem D_M_pour_62 : decode prog_9_method_74_code 62 = .ok (.aload_n 0, 1) ∧ 62 + 1 = 63 := by decide +kernel
theorem D_M_pour_63 : decode prog_9_method_74_code 63 = .ok (.iload_n 3, 1) ∧ 63 + 1 = 64 := by decide +kernel
theorem D_M_pour_64 : decode prog_9_method_74_code 64 = .ok (.iconst 0, 1) ∧ 64 + 1 = 65 := by decide +kernel
theorem D_M_pour_65 : decode prog_9_method_74_code 65 = .ok (.invokevirtual 107, 3) ∧ 65 + 3 = 68 := by decide +kernel
theorem D_M_pour_68 : decode prog_9_method_74_code 68 = .ok (.goto 12, 3) ∧ ((68 : Nat) : Int) + 12 = ((80 : Nat) : Int) := by decide +kernel
theorem D_M_pour_113 : decode prog_9_method_74_code 113 = .ok (.iload_n 2, 1) ∧ 113 + 1 = 114 := by decide +kernel
theorem D_M_pour_114 : decode prog_9_method_74_code 114 = .ok (.ireturn, 1) := by decide +kernel
theorem D_M_pour_19 : decode prog_9_method_74_code 19 = .ok (.ldc 172, 2) ∧ 19 + 2 = 21 := by decide +kernel
theorem D_M_pour_21 : decode prog_9_method_74_code 21 = .ok (.ireturn, 1) := by decide +kernel
theorem D_M_pour_7 : decode prog_9_method_74_code 7 = .ok (.ldc 87, 2) ∧ 7 + 2 = 9 := by decide +kernel
theorem D_M_pour_9 : decode prog_9_method_74_code 9 = .ok (.ireturn, 1) := by decide +kernel
def f_M_pour_L26  : Nat → Int32 → Int32 → Int32 → Mm → Option ((Int32 × Int32) × Mm)
  | 0, _, _, _, _ => none
  | n + 1, b1, b2, b3, mem => if inb b1 4 = true then if mem 105 (ix b1) ≤ b3 then some ((b2, b3), mem) else if 6 ≤ b3 then some ((b2, b3), mem) else if inb ((24 * b1) + b3) 96 = true then lt (mem 106 (ix ((24 * b1) + b3))) fun x_53 => if x_53 = (-1000000005) then bp (f_M_at0 b3 0 mem) fun r_65 => bd (f_M_becomes (10 + (4 * b3)) r_65 mem) fun r_92 m_92 => lt (b2 + (if r_92 = r_65 then (0 : Int32) else 1)) fun x_106 => f_M_pour_L26 n b1 x_106 (b3 + 1) m_92 else bp (f_M_within x_53 1 999) fun r_77 => bd (f_M_becomes (10 + (4 * b3)) r_77 mem) fun r_92 m_92 => lt (b2 + (if r_92 = r_77 then (0 : Int32) else 1)) fun x_106 => f_M_pour_L26 n b1 x_106 (b3 + 1) m_92 else none else none
def f_M_pour (N : Nat) (a1 : Int32) (mem : Mm) : Option (Int32 × Mm) := bp (f_M_isSheet a1) fun r_1 => if r_1 = 0 then some ((-1000000001), mem) else if inb a1 4 = true then if 0 ≤ mem 104 (ix a1) then bd (f_M_pour_L26 N a1 0 0 mem) fun y_26 m_26 => some (y_26.1, m_26) else some ((-1000000011), mem) else none
theorem L_M_pour_26 {X : Cx} {E : En} (S : Std X E prog_9_method_74_code R6 6 2)  : ∀ (n : Nat) (b1 : Int32) (b2 : Int32) (b3 : Int32) (mem : Mm) (z : Int32 × Int32) (m2 : Mm), f_M_pour_L26 n b1 b2 b3 mem = some (z, m2) → J X E 6 113 [(0, .ref (eb E + 91)), (1, .int b1), (2, .int z.1), (3, .int z.2)] [] SH m2 → J X E 6 26 [(0, .ref (eb E + 91)), (1, .int b1), (2, .int b2), (3, .int b3)] [] SH mem := by
  intro n
  induction n with
  | zero =>
    intro b1 b2 b3 mem z m2 h hk; cases h
  | succ n ih =>
    intro b1 b2 b3 mem z m2 h hk
    rw [f_M_pour_L26] at h
    refine j_iload_n S D_M_pour_26 3 rfl rfl ?_
    refine j_aload_n S D_M_pour_27 0 rfl rfl ?_
    refine j_getR S D_M_pour_28 fl_R6_55 sh_Mod rfl ?_
    refine j_iload_n S D_M_pour_31 1 rfl rfl ?_
    obtain ⟨g_32, h⟩ := gdE h
    refine j_iald S D_M_pour_32 sh_105 g_32 ?_
    refine j_icmp_ge S D_M_pour_33 (fun c_33 => ?_) (fun c_33 => ?_)
    · have h := ifT c_33 h
      cases h
      exact j_locals [0, 1, 2, 3] rfl hk
    · have h := ifF c_33 h
      refine j_iload_n S D_M_pour_36 3 rfl rfl ?_
      refine j_bipush S D_M_pour_37 cb_6 ?_
      refine j_icmp_ge S D_M_pour_39 (fun c_39 => ?_) (fun c_39 => ?_)
      · have h := ifT c_39 h
        cases h
        exact j_locals [0, 1, 2, 3] rfl hk
      · have h := ifF c_39 h
        refine j_aload_n S D_M_pour_42 0 rfl rfl ?_
        refine j_getR S D_M_pour_43 fl_R6_58 sh_Mod rfl ?_
        refine j_bipush S D_M_pour_46 cb_24 ?_
        refine j_iload_n S D_M_pour_48 1 rfl rfl ?_
        refine j_imul S D_M_pour_49 ?_
        refine j_iload_n S D_M_pour_50 3 rfl rfl ?_
        refine j_iadd S D_M_pour_51 ?_
        obtain ⟨g_52, h⟩ := gdE h
        refine j_iald S D_M_pour_52 sh_106 g_52 ?_
        obtain ⟨x_53, hx_53, h⟩ := ltE h
        refine j_nm hx_53 ?_
        refine j_istore S D_M_pour_53 (lv := [(4, .int x_53), (0, .ref (eb E + 91)), (1, .int b1), (2, .int b2), (3, .int b3)]) rfl (Nat.le_of_ble_eq_true rfl) ?_
        refine j_iload S D_M_pour_55 0 rfl ?_
        refine j_ldc S D_M_pour_57 co_R6_168 ?_
        refine j_icmp_ne S D_M_pour_59 (fun c_59 => ?_) (fun c_59 => ?_)
        · have h := ifF c_59 h
          refine j_iload S D_M_pour_71 0 rfl ?_
          refine j_iconst S D_M_pour_73 ci_1 ?_
          refine j_sipush S D_M_pour_74 cs_999 ?_
          obtain ⟨r_77, e_77, h⟩ := bpE h
          refine j_callSI (As := [.int x_53, .int 1, .int 999]) S D_M_pour_77 ms_R6_113 (c_M_within (cxL X) E x_53 1 999 (mem := mem) e_77) (by decide) rfl rfl (Nat.le_of_ble_eq_true rfl) ?_
          refine j_istore S D_M_pour_80 (lv := [(5, .int r_77), (4, .int x_53), (0, .ref (eb E + 91)), (1, .int b1), (2, .int b2), (3, .int b3)]) rfl (Nat.le_of_ble_eq_true rfl) ?_
          refine j_iload_n S D_M_pour_82 4 rfl rfl ?_
          refine j_aload_n S D_M_pour_83 2 rfl rfl ?_
          refine j_bipush S D_M_pour_84 cb_10 ?_
          refine j_iconst S D_M_pour_86 ci_4 ?_
          refine j_iload_n S D_M_pour_87 5 rfl rfl ?_
          refine j_imul S D_M_pour_88 ?_
          refine j_iadd S D_M_pour_89 ?_
          refine j_iload S D_M_pour_90 0 rfl ?_
          obtain ⟨r_92, m_92, e_92, h⟩ := bdE h
          refine j_callVI (As := [.int (10 + (4 * b3)), .int r_77]) S D_M_pour_92 mv_R6_130 (c_M_becomes (cxL X) E (10 + (4 * b3)) r_77 e_92) (by decide) sh_Mod rfl rfl rfl rfl (Nat.le_of_ble_eq_true rfl) ?_
          refine j_iload S D_M_pour_95 0 rfl ?_
          refine j_dia (P := J X E 6 105 [(5, .int r_77), (4, .int x_53), (0, .ref (eb E + 91)), (1, .int b1), (2, .int b2), (3, .int b3)] [.int (if r_92 = r_77 then (0 : Int32) else 1), .int b2] SH m_92) (fun hj => ?_) ?_
          · refine j_icmp_ne S D_M_pour_97 (fun c_97 => ?_) (fun c_97 => ?_)
            · refine j_iconst S D_M_pour_104 ci_1 ?_
              exact j_jnF hj c_97
            · refine j_iconst S D_M_pour_100 ci_0 ?_
              refine j_goto S D_M_pour_101 ?_
              exact j_jnT hj c_97
          refine j_iadd S D_M_pour_105 ?_
          obtain ⟨x_106, hx_106, h⟩ := ltE h
          refine j_nm hx_106 ?_
          refine j_istore_n S D_M_pour_106 (lv := [(2, .int x_106), (5, .int r_77), (4, .int x_53), (0, .ref (eb E + 91)), (1, .int b1), (3, .int b3)]) rfl ⟨rfl, (Nat.le_of_ble_eq_true rfl)⟩ ?_
          refine j_iinc S D_M_pour_107 5 rfl (congrArg (fun z => b3 + z) ci_1) (lv := [(3, .int (b3 + 1)), (2, .int x_106), (5, .int r_77), (4, .int x_53), (0, .ref (eb E + 91)), (1, .int b1)]) rfl (Nat.le_of_ble_eq_true rfl) ?_
          refine j_goto S D_M_pour_110 ?_
          refine j_locals [4, 5, 1, 0] rfl (ih b1 x_106 (b3 + 1) m_92 _ _ h hk)
        · have h := ifT c_59 h
          refine j_aload_n S D_M_pour_62 1 rfl rfl ?_
          refine j_iload_n S D_M_pour_63 4 rfl rfl ?_
          refine j_iconst S D_M_pour_64 ci_0 ?_
          obtain ⟨r_65, e_65, h⟩ := bpE h
          refine j_callVI (As := [.int b3, .int 0]) S D_M_pour_65 mv_R6_107 (c_M_at0 (cxL X) E b3 0 e_65) (by decide) sh_Mod rfl rfl rfl rfl (Nat.le_of_ble_eq_true rfl) ?_
          refine j_goto S D_M_pour_68 ?_
          refine j_istore S D_M_pour_80 (lv := [(5, .int r_65), (4, .int x_53), (0, .ref (eb E + 91)), (1, .int b1), (2, .int b2), (3, .int b3)]) rfl (Nat.le_of_ble_eq_true rfl) ?_
          refine j_iload_n S D_M_pour_82 4 rfl rfl ?_
          refine j_aload_n S D_M_pour_83 2 rfl rfl ?_
          refine j_bipush S D_M_pour_84 cb_10 ?_
          refine j_iconst S D_M_pour_86 ci_4 ?_
          refine j_iload_n S D_M_pour_87 5 rfl rfl ?_
          refine j_imul S D_M_pour_88 ?_
          refine j_iadd S D_M_pour_89 ?_
          refine j_iload S D_M_pour_90 0 rfl ?_
          obtain ⟨r_92, m_92, e_92, h⟩ := bdE h
          refine j_callVI (As := [.int (10 + (4 * b3)), .int r_65]) S D_M_pour_92 mv_R6_130 (c_M_becomes (cxL X) E (10 + (4 * b3)) r_65 e_92) (by decide) sh_Mod rfl rfl rfl rfl (Nat.le_of_ble_eq_true rfl) ?_
          refine j_iload S D_M_pour_95 0 rfl ?_
          refine j_dia (P := J X E 6 105 [(5, .int r_65), (4, .int x_53), (0, .ref (eb E + 91)), (1, .int b1), (2, .int b2), (3, .int b3)] [.int (if r_92 = r_65 then (0 : Int32) else 1), .int b2] SH m_92) (fun hj => ?_) ?_
          · refine j_icmp_ne S D_M_pour_97 (fun c_97 => ?_) (fun c_97 => ?_)
            · refine j_iconst S D_M_pour_104 ci_1 ?_
              exact j_jnF hj c_97
            · refine j_iconst S D_M_pour_100 ci_0 ?_
              refine j_goto S D_M_pour_101 ?_
              exact j_jnT hj c_97
          refine j_iadd S D_M_pour_105 ?_
          obtain ⟨x_106, hx_106, h⟩ := ltE h
          refine j_nm hx_106 ?_
          refine j_istore_n S D_M_pour_106 (lv := [(2, .int x_106), (5, .int r_65), (4, .int x_53), (0, .ref (eb E + 91)), (1, .int b1), (3, .int b3)]) rfl ⟨rfl, (Nat.le_of_ble_eq_true rfl)⟩ ?_
          refine j_iinc S D_M_pour_107 5 rfl (congrArg (fun z => b3 + z) ci_1) (lv := [(3, .int (b3 + 1)), (2, .int x_106), (5, .int r_65), (4, .int x_53), (0, .ref (eb E + 91)), (1, .int b1)]) rfl (Nat.le_of_ble_eq_true rfl) ?_
          refine j_goto S D_M_pour_110 ?_
          refine j_locals [4, 5, 1, 0] rfl (ih b1 x_106 (b3 + 1) m_92 _ _ h hk)
theorem c_M_pour (l : Launch) (E : En) (N : Nat) (a1 : Int32) {mem : Mm} {r : Int32} {m2 : Mm} (h : f_M_pour N a1 mem = some (r, m2)) : CtI l E 2 y_M_pour prog_9_method_74_code 6 (some .int) [.ref (eb E + 91), .int a1] SH mem r m2 := by
  refine mk_CtI ⟨by decide, (Nat.le_of_ble_eq_true rfl)⟩ (fun X S hl hR => ?_)
  have S : Std X E prog_9_method_74_code R6 6 2 := S
  show J X E 6 0 [(0, .ref (eb E + 91)), (1, .int a1)] [] SH mem
  unfold f_M_pour at h
  refine j_iload_n S D_M_pour_0 1 rfl rfl ?_
  obtain ⟨r_1, e_1, h⟩ := bpE h
  refine j_callSI (As := [.int a1]) S D_M_pour_1 ms_R6_169 (c_M_isSheet (cxL X) E a1 (mem := mem) e_1) (by decide) rfl rfl (Nat.le_of_ble_eq_true rfl) ?_
  refine j_if_ne S D_M_pour_4 (fun c_4 => ?_) (fun c_4 => ?_)
  · have h := ifF c_4 h
    refine j_aload_n S D_M_pour_10 0 rfl rfl ?_
    refine j_getR S D_M_pour_11 fl_R6_52 sh_Mod rfl ?_
    refine j_iload_n S D_M_pour_14 1 rfl rfl ?_
    obtain ⟨g_15, h⟩ := gdE h
    refine j_iald S D_M_pour_15 sh_104 g_15 ?_
    refine j_if_ge S D_M_pour_16 (fun c_16 => ?_) (fun c_16 => ?_)
    · have h := ifT c_16 h
      refine j_iconst S D_M_pour_22 ci_0 ?_
      refine j_istore_n S D_M_pour_23 (lv := [(2, .int 0), (0, .ref (eb E + 91)), (1, .int a1)]) rfl ⟨rfl, (Nat.le_of_ble_eq_true rfl)⟩ ?_
      refine j_iconst S D_M_pour_24 ci_0 ?_
      refine j_istore_n S D_M_pour_25 (lv := [(3, .int 0), (2, .int 0), (0, .ref (eb E + 91)), (1, .int a1)]) rfl ⟨rfl, (Nat.le_of_ble_eq_true rfl)⟩ ?_
      refine j_locals [2, 3, 1, 0] rfl ?_
      obtain ⟨y_26, m_26, e_26, h⟩ := bdE h
      refine L_M_pour_26 S  N a1 0 0 mem _ _ e_26 ?_
      refine j_iload_n S D_M_pour_113 2 rfl rfl ?_
      exact rtM hR h _ _ D_M_pour_114
    · have h := ifF c_16 h
      refine j_ldc S D_M_pour_19 co_R6_172 ?_
      exact rtM hR h _ _ D_M_pour_21
  · have h := ifT c_4 h
    refine j_ldc S D_M_pour_7 co_R6_87 ?_
    exact rtM hR h _ _ D_M_pour_9

def y_M_reads : MethodName := ⟨"SandPictureModel", "reads", "(I)I"⟩
theorem D_M_reads_0 : decode prog_9_method_75_code 0 = .ok (.iload_n 1, 1) ∧ 0 + 1 = 1 := by decide +kernel
theorem D_M_reads_1 : decode prog_9_method_75_code 1 = .ok (.invokestatic 169, 3) ∧ 1 + 3 = 4 := by decide +kernel
theorem D_M_reads_4 : decode prog_9_method_75_code 4 = .ok (.ifCond .ne 6, 3) ∧ ((4 : Nat) : Int) + 6 = ((10 : Nat) : Int) ∧ 4 + 3 = 7 := by decide +kernel
theorem D_M_reads_10 : decode prog_9_method_75_code 10 = .ok (.aload_n 0, 1) ∧ 10 + 1 = 11 := by decide +kernel
theorem D_M_reads_11 : decode prog_9_method_75_code 11 = .ok (.getfield 52, 3) ∧ 11 + 3 = 14 := by decide +kernel
theorem D_M_reads_14 : decode prog_9_method_75_code 14 = .ok (.iload_n 1, 1) ∧ 14 + 1 = 15 := by decide +kernel
theorem D_M_reads_15 : decode prog_9_method_75_code 15 = .ok (.iaload, 1) ∧ 15 + 1 = 16 := by decide +kernel
theorem D_M_reads_16 : decode prog_9_method_75_code 16 = .ok (.ifCond .ge 6, 3) ∧ ((16 : Nat) : Int) + 6 = ((22 : Nat) : Int) ∧ 16 + 3 = 19 := by decide +kernel
theorem D_M_reads_22 : decode prog_9_method_75_code 22 = .ok (.iconst 0, 1) ∧ 22 + 1 = 23 := by decide +kernel
theorem D_M_reads_23 : decode prog_9_method_75_code 23 = .ok (.istore_n 2, 1) ∧ 23 + 1 = 24 := by decide +kernel
theorem D_M_reads_24 : decode prog_9_method_75_code 24 = .ok (.iload_n 2, 1) ∧ 24 + 1 = 25 := by decide +kernel
theorem D_M_reads_25 : decode prog_9_method_75_code 25 = .ok (.aload_n 0, 1) ∧ 25 + 1 = 26 := by decide +kernel
theorem D_M_reads_26 : decode prog_9_method_75_code 26 = .ok (.getfield 55, 3) ∧ 26 + 3 = 29 := by decide +kernel
theorem D_M_reads_29 : decode prog_9_method_75_code 29 = .ok (.iload_n 1, 1) ∧ 29 + 1 = 30 := by decide +kernel
theorem D_M_reads_30 : decode prog_9_method_75_code 30 = .ok (.iaload, 1) ∧ 30 + 1 = 31 := by decide +kernel
theorem D_M_reads_31 : decode prog_9_method_75_code 31 = .ok (.if_icmp .ge 46, 3) ∧ ((31 : Nat) : Int) + 46 = ((77 : Nat) : Int) ∧ 31 + 3 = 34 := by decide +kernel
theorem D_M_reads_77 : decode prog_9_method_75_code 77 = .ok (.ldc 168, 2) ∧ 77 + 2 = 79 := by decide +kernel
theorem D_M_reads_79 : decode prog_9_method_75_code 79 = .ok (.ireturn, 1) := by decide +kernel
theorem D_M_reads_34 : decode prog_9_method_75_code 34 = .ok (.aload_n 0, 1) ∧ 34 + 1 = 35 := by decide +kernel
theorem D_M_reads_35 : decode prog_9_method_75_code 35 = .ok (.getfield 58, 3) ∧ 35 + 3 = 38 := by decide +kernel
theorem D_M_reads_38 : decode prog_9_method_75_code 38 = .ok (.bipush 24, 2) ∧ 38 + 2 = 40 := by decide +kernel
theorem D_M_reads_40 : decode prog_9_method_75_code 40 = .ok (.iload_n 1, 1) ∧ 40 + 1 = 41 := by decide +kernel
theorem D_M_reads_41 : decode prog_9_method_75_code 41 = .ok (.imul, 1) ∧ 41 + 1 = 42 := by decide +kernel
theorem D_M_reads_42 : decode prog_9_method_75_code 42 = .ok (.iload_n 2, 1) ∧ 42 + 1 = 43 := by decide +kernel
theorem D_M_reads_43 : decode prog_9_method_75_code 43 = .ok (.iadd, 1) ∧ 43 + 1 = 44 := by decide +kernel
theorem D_M_reads_44 : decode prog_9_method_75_code 44 = .ok (.iaload, 1) ∧ 44 + 1 = 45 := by decide +kernel
theorem D_M_reads_45 : decode prog_9_method_75_code 45 = .ok (.istore_n 3, 1) ∧ 45 + 1 = 46 := by decide +kernel
theorem D_M_reads_46 : decode prog_9_method_75_code 46 = .ok (.iload_n 3, 1) ∧ 46 + 1 = 47 := by decide +kernel
theorem D_M_reads_47 : decode prog_9_method_75_code 47 = .ok (.ldc 168, 2) ∧ 47 + 2 = 49 := by decide +kernel
theorem D_M_reads_49 : decode prog_9_method_75_code 49 = .ok (.if_icmp .eq 22, 3) ∧ ((49 : Nat) : Int) + 22 = ((71 : Nat) : Int) ∧ 49 + 3 = 52 := by decide +kernel
theorem D_M_reads_71 : decode prog_9_method_75_code 71 = .ok (.iinc 2 1, 3) ∧ 71 + 3 = 74 := by decide +kernel
theorem D_M_reads_74 : decode prog_9_method_75_code 74 = .ok (.goto (-50), 3) ∧ ((74 : Nat) : Int) + (-50) = ((24 : Nat) : Int) := by decide +kernel
theorem D_M_reads_52 : decode prog_9_method_75_code 52 = .ok (.iload_n 2, 1) ∧ 52 + 1 = 53 := by decide +kernel
theorem D_M_reads_53 : decode prog_9_method_75_code 53 = .ok (.invokestatic 83, 3) ∧ 53 + 3 = 56 := by decide +kernel
theorem D_M_reads_56 : decode prog_9_method_75_code 56 = .ok (.ifCond .eq 13, 3) ∧ ((56 : Nat) : Int) + 13 = ((69 : Nat) : Int) ∧ 56 + 3 = 59 := by decide +kernel
theorem D_M_reads_69 : decode prog_9_method_75_code 69 = .ok (.iload_n 2, 1) ∧ 69 + 1 = 70 := by decide +kernel
theorem D_M_reads_70 : decode prog_9_method_75_code 70 = .ok (.ireturn, 1) := by decide +kernel
theorem D_M_reads_59 : decode prog_9_method_75_code 59 = .ok (.iload_n 3, 1) ∧ 59 + 1 = 60 := by decide +kernel
theorem D_M_reads_60 : decode prog_9_method_75_code 60 = .ok (.aload_n 0, 1) ∧ 60 + 1 = 61 := by decide +kernel
theorem D_M_reads_61 : decode prog_9_method_75_code 61 = .ok (.iload_n 2, 1) ∧ 61 + 1 = 62 := by decide +kernel
theorem D_M_reads_62 : decode prog_9_method_75_code 62 = .ok (.iconst 1, 1) ∧ 62 + 1 = 63 := by decide +kernel
theorem D_M_reads_63 : decode prog_9_method_75_code 63 = .ok (.invokevirtual 107, 3) ∧ 63 + 3 = 66 := by decide +kernel
theorem D_M_reads_66 : decode prog_9_method_75_code 66 = .ok (.if_icmp .eq 5, 3) ∧ ((66 : Nat) : Int) + 5 = ((71 : Nat) : Int) ∧ 66 + 3 = 69 := by decide +kernel
theorem D_M_reads_19 : decode prog_9_method_75_code 19 = .ok (.ldc 172, 2) ∧ 19 + 2 = 21 := by decide +kernel
theorem D_M_reads_21 : decode prog_9_method_75_code 21 = .ok (.ireturn, 1) := by decide +kernel
theorem D_M_reads_7 : decode prog_9_method_75_code 7 = .ok (.ldc 87, 2) ∧ 7 + 2 = 9 := by decide +kernel
theorem D_M_reads_9 : decode prog_9_method_75_code 9 = .ok (.ireturn, 1) := by decide +kernel
def f_M_reads_L24  : Nat → Int32 → Int32 → Mm → Option Int32
  | 0, _, _, _ => none
  | n + 1, b1, b2, mem => if inb b1 4 = true then if mem 105 (ix b1) ≤ b2 then some (-1000000005) else if inb ((24 * b1) + b2) 96 = true then lt (mem 106 (ix ((24 * b1) + b2))) fun x_45 => if x_45 = (-1000000005) then f_M_reads_L24 n b1 (b2 + 1) mem else bp (f_M_isTable b2) fun r_53 => if r_53 = 0 then some b2 else bp (f_M_at0 b2 1 mem) fun r_63 => if x_45 = r_63 then f_M_reads_L24 n b1 (b2 + 1) mem else some b2 else none else none
def f_M_reads (N : Nat) (a1 : Int32) (mem : Mm) : Option (Int32) := bp (f_M_isSheet a1) fun r_1 => if r_1 = 0 then some (-1000000001) else if inb a1 4 = true then if 0 ≤ mem 104 (ix a1) then f_M_reads_L24 N a1 0 mem else some (-1000000011) else none
theorem L_M_reads_24 {X : Cx} {E : En} (S : Std X E prog_9_method_75_code R6 4 2)  {r : Int32} {mem : Mm} (hR : RetI X E prog_9_method_75_code 4 SH r mem) : ∀ (n : Nat) (b1 : Int32) (b2 : Int32), f_M_reads_L24 n b1 b2 mem = some r → J X E 4 24 [(0, .ref (eb E + 91)), (1, .int b1), (2, .int b2)] [] SH mem := by
  intro n
  induction n with
  | zero =>
    intro b1 b2 h; cases h
  | succ n ih =>
    intro b1 b2 h
    rw [f_M_reads_L24] at h
    refine j_iload_n S D_M_reads_24 2 rfl rfl ?_
    refine j_aload_n S D_M_reads_25 0 rfl rfl ?_
    refine j_getR S D_M_reads_26 fl_R6_55 sh_Mod rfl ?_
    refine j_iload_n S D_M_reads_29 1 rfl rfl ?_
    obtain ⟨g_30, h⟩ := gdE h
    refine j_iald S D_M_reads_30 sh_105 g_30 ?_
    refine j_icmp_ge S D_M_reads_31 (fun c_31 => ?_) (fun c_31 => ?_)
    · have h := ifT c_31 h
      refine j_ldc S D_M_reads_77 co_R6_168 ?_
      exact rtI hR h _ _ D_M_reads_79
    · have h := ifF c_31 h
      refine j_aload_n S D_M_reads_34 0 rfl rfl ?_
      refine j_getR S D_M_reads_35 fl_R6_58 sh_Mod rfl ?_
      refine j_bipush S D_M_reads_38 cb_24 ?_
      refine j_iload_n S D_M_reads_40 1 rfl rfl ?_
      refine j_imul S D_M_reads_41 ?_
      refine j_iload_n S D_M_reads_42 2 rfl rfl ?_
      refine j_iadd S D_M_reads_43 ?_
      obtain ⟨g_44, h⟩ := gdE h
      refine j_iald S D_M_reads_44 sh_106 g_44 ?_
      obtain ⟨x_45, hx_45, h⟩ := ltE h
      refine j_nm hx_45 ?_
      refine j_istore_n S D_M_reads_45 (lv := [(3, .int x_45), (0, .ref (eb E + 91)), (1, .int b1), (2, .int b2)]) rfl ⟨rfl, (Nat.le_of_ble_eq_true rfl)⟩ ?_
      refine j_iload_n S D_M_reads_46 0 rfl rfl ?_
      refine j_ldc S D_M_reads_47 co_R6_168 ?_
      refine j_icmp_eq S D_M_reads_49 (fun c_49 => ?_) (fun c_49 => ?_)
      · have h := ifT c_49 h
        refine j_iinc S D_M_reads_71 3 rfl (congrArg (fun z => b2 + z) ci_1) (lv := [(2, .int (b2 + 1)), (3, .int x_45), (0, .ref (eb E + 91)), (1, .int b1)]) rfl (Nat.le_of_ble_eq_true rfl) ?_
        refine j_goto S D_M_reads_74 ?_
        refine j_locals [2, 3, 0] rfl (ih b1 (b2 + 1) h)
      · have h := ifF c_49 h
        refine j_iload_n S D_M_reads_52 3 rfl rfl ?_
        obtain ⟨r_53, e_53, h⟩ := bpE h
        refine j_callSI (As := [.int b2]) S D_M_reads_53 ms_R6_83 (c_M_isTable (cxL X) E b2 (mem := mem) e_53) (by decide) rfl rfl (Nat.le_of_ble_eq_true rfl) ?_
        refine j_if_eq S D_M_reads_56 (fun c_56 => ?_) (fun c_56 => ?_)
        · have h := ifT c_56 h
          refine j_iload_n S D_M_reads_69 3 rfl rfl ?_
          exact rtI hR h _ _ D_M_reads_70
        · have h := ifF c_56 h
          refine j_iload_n S D_M_reads_59 0 rfl rfl ?_
          refine j_aload_n S D_M_reads_60 1 rfl rfl ?_
          refine j_iload_n S D_M_reads_61 3 rfl rfl ?_
          refine j_iconst S D_M_reads_62 ci_1 ?_
          obtain ⟨r_63, e_63, h⟩ := bpE h
          refine j_callVI (As := [.int b2, .int 1]) S D_M_reads_63 mv_R6_107 (c_M_at0 (cxL X) E b2 1 e_63) (by decide) sh_Mod rfl rfl rfl rfl (Nat.le_of_ble_eq_true rfl) ?_
          refine j_icmp_eq S D_M_reads_66 (fun c_66 => ?_) (fun c_66 => ?_)
          · have h := ifT c_66 h
            refine j_iinc S D_M_reads_71 3 rfl (congrArg (fun z => b2 + z) ci_1) (lv := [(2, .int (b2 + 1)), (3, .int x_45), (0, .ref (eb E + 91)), (1, .int b1)]) rfl (Nat.le_of_ble_eq_true rfl) ?_
            refine j_goto S D_M_reads_74 ?_
            refine j_locals [2, 3, 0] rfl (ih b1 (b2 + 1) h)
          · have h := ifF c_66 h
            refine j_iload_n S D_M_reads_69 3 rfl rfl ?_
            exact rtI hR h _ _ D_M_reads_70
theorem c_M_reads (l : Launch) (E : En) (N : Nat) (a1 : Int32) {mem : Mm} {r : Int32} (h : f_M_reads N a1 mem = some r) : CtI l E 2 y_M_reads prog_9_method_75_code 4 (some .int) [.ref (eb E + 91), .int a1] SH mem r mem := by
  refine mk_CtI ⟨by decide, (Nat.le_of_ble_eq_true rfl)⟩ (fun X S hl hR => ?_)
  have S : Std X E prog_9_method_75_code R6 4 2 := S
  show J X E 4 0 [(0, .ref (eb E + 91)), (1, .int a1)] [] SH mem
  unfold f_M_reads at h
  refine j_iload_n S D_M_reads_0 1 rfl rfl ?_
  obtain ⟨r_1, e_1, h⟩ := bpE h
  refine j_callSI (As := [.int a1]) S D_M_reads_1 ms_R6_169 (c_M_isSheet (cxL X) E a1 (mem := mem) e_1) (by decide) rfl rfl (Nat.le_of_ble_eq_true rfl) ?_
  refine j_if_ne S D_M_reads_4 (fun c_4 => ?_) (fun c_4 => ?_)
  · have h := ifF c_4 h
    refine j_aload_n S D_M_reads_10 0 rfl rfl ?_
    refine j_getR S D_M_reads_11 fl_R6_52 sh_Mod rfl ?_
    refine j_iload_n S D_M_reads_14 1 rfl rfl ?_
    obtain ⟨g_15, h⟩ := gdE h
    refine j_iald S D_M_reads_15 sh_104 g_15 ?_
    refine j_if_ge S D_M_reads_16 (fun c_16 => ?_) (fun c_16 => ?_)
    · have h := ifT c_16 h
      refine j_iconst S D_M_reads_22 ci_0 ?_
      refine j_istore_n S D_M_reads_23 (lv := [(2, .int 0), (0, .ref (eb E + 91)), (1, .int a1)]) rfl ⟨rfl, (Nat.le_of_ble_eq_true rfl)⟩ ?_
      refine j_locals [1, 2, 0] rfl ?_
      exact L_M_reads_24 S  hR N a1 0 h
    · have h := ifF c_16 h
      refine j_ldc S D_M_reads_19 co_R6_172 ?_
      exact rtI hR h _ _ D_M_reads_21
  · have h := ifT c_4 h
    refine j_ldc S D_M_reads_7 co_R6_87 ?_
    exact rtI hR h _ _ D_M_reads_9

def y_M_copy : MethodName := ⟨"SandPictureModel", "copy", "(IIIII)I"⟩
theorem D_M_copy_0 : decode prog_9_method_76_code 0 = .ok (.iload_n 1, 1) ∧ 0 + 1 = 1 := by decide +kernel
theorem D_M_copy_1 : decode prog_9_method_76_code 1 = .ok (.invokestatic 169, 3) ∧ 1 + 3 = 4 := by decide +kernel
theorem D_M_copy_4 : decode prog_9_method_76_code 4 = .ok (.ifCond .eq 10, 3) ∧ ((4 : Nat) : Int) + 10 = ((14 : Nat) : Int) ∧ 4 + 3 = 7 := by decide +kernel
theorem D_M_copy_14 : decode prog_9_method_76_code 14 = .ok (.ldc 87, 2) ∧ 14 + 2 = 16 := by decide +kernel
theorem D_M_copy_16 : decode prog_9_method_76_code 16 = .ok (.ireturn, 1) := by decide +kernel
theorem D_M_copy_7 : decode prog_9_method_76_code 7 = .ok (.iload_n 3, 1) ∧ 7 + 1 = 8 := by decide +kernel
theorem D_M_copy_8 : decode prog_9_method_76_code 8 = .ok (.invokestatic 169, 3) ∧ 8 + 3 = 11 := by decide +kernel
theorem D_M_copy_11 : decode prog_9_method_76_code 11 = .ok (.ifCond .ne 6, 3) ∧ ((11 : Nat) : Int) + 6 = ((17 : Nat) : Int) ∧ 11 + 3 = 14 := by decide +kernel
theorem D_M_copy_17 : decode prog_9_method_76_code 17 = .ok (.aload_n 0, 1) ∧ 17 + 1 = 18 := by decide +kernel
theorem D_M_copy_18 : decode prog_9_method_76_code 18 = .ok (.getfield 52, 3) ∧ 18 + 3 = 21 := by decide +kernel
theorem D_M_copy_21 : decode prog_9_method_76_code 21 = .ok (.iload_n 1, 1) ∧ 21 + 1 = 22 := by decide +kernel
theorem D_M_copy_22 : decode prog_9_method_76_code 22 = .ok (.iaload, 1) ∧ 22 + 1 = 23 := by decide +kernel
theorem D_M_copy_23 : decode prog_9_method_76_code 23 = .ok (.ifCond .lt 12, 3) ∧ ((23 : Nat) : Int) + 12 = ((35 : Nat) : Int) ∧ 23 + 3 = 26 := by decide +kernel
theorem D_M_copy_35 : decode prog_9_method_76_code 35 = .ok (.ldc 172, 2) ∧ 35 + 2 = 37 := by decide +kernel
theorem D_M_copy_37 : decode prog_9_method_76_code 37 = .ok (.ireturn, 1) := by decide +kernel
theorem D_M_copy_26 : decode prog_9_method_76_code 26 = .ok (.aload_n 0, 1) ∧ 26 + 1 = 27 := by decide +kernel
theorem D_M_copy_27 : decode prog_9_method_76_code 27 = .ok (.getfield 52, 3) ∧ 27 + 3 = 30 := by decide +kernel
theorem D_M_copy_30 : decode prog_9_method_76_code 30 = .ok (.iload_n 3, 1) ∧ 30 + 1 = 31 := by decide +kernel
theorem D_M_copy_31 : decode prog_9_method_76_code 31 = .ok (.iaload, 1) ∧ 31 + 1 = 32 := by decide +kernel
theorem D_M_copy_32 : decode prog_9_method_76_code 32 = .ok (.ifCond .ge 6, 3) ∧ ((32 : Nat) : Int) + 6 = ((38 : Nat) : Int) ∧ 32 + 3 = 35 := by decide +kernel
theorem D_M_copy_38 : decode prog_9_method_76_code 38 = .ok (.aload_n 0, 1) ∧ 38 + 1 = 39 := by decide +kernel
theorem D_M_copy_39 : decode prog_9_method_76_code 39 = .ok (.getfield 52, 3) ∧ 39 + 3 = 42 := by decide +kernel
theorem D_M_copy_42 : decode prog_9_method_76_code 42 = .ok (.iload_n 1, 1) ∧ 42 + 1 = 43 := by decide +kernel
theorem D_M_copy_43 : decode prog_9_method_76_code 43 = .ok (.iaload, 1) ∧ 43 + 1 = 44 := by decide +kernel
theorem D_M_copy_44 : decode prog_9_method_76_code 44 = .ok (.aload_n 0, 1) ∧ 44 + 1 = 45 := by decide +kernel
theorem D_M_copy_45 : decode prog_9_method_76_code 45 = .ok (.getfield 52, 3) ∧ 45 + 3 = 48 := by decide +kernel
theorem D_M_copy_48 : decode prog_9_method_76_code 48 = .ok (.iload_n 3, 1) ∧ 48 + 1 = 49 := by decide +kernel
theorem D_M_copy_49 : decode prog_9_method_76_code 49 = .ok (.iaload, 1) ∧ 49 + 1 = 50 := by decide +kernel
theorem D_M_copy_50 : decode prog_9_method_76_code 50 = .ok (.if_icmp .eq 6, 3) ∧ ((50 : Nat) : Int) + 6 = ((56 : Nat) : Int) ∧ 50 + 3 = 53 := by decide +kernel
theorem D_M_copy_56 : decode prog_9_method_76_code 56 = .ok (.iload_n 2, 1) ∧ 56 + 1 = 57 := by decide +kernel
theorem D_M_copy_57 : decode prog_9_method_76_code 57 = .ok (.ifCond .lt 40, 3) ∧ ((57 : Nat) : Int) + 40 = ((97 : Nat) : Int) ∧ 57 + 3 = 60 := by decide +kernel
theorem D_M_copy_97 : decode prog_9_method_76_code 97 = .ok (.ldc 245, 2) ∧ 97 + 2 = 99 := by decide +kernel
theorem D_M_copy_99 : decode prog_9_method_76_code 99 = .ok (.ireturn, 1) := by decide +kernel
theorem D_M_copy_60 : decode prog_9_method_76_code 60 = .ok (.iload 4, 2) ∧ 60 + 2 = 62 := by decide +kernel
theorem D_M_copy_62 : decode prog_9_method_76_code 62 = .ok (.ifCond .lt 35, 3) ∧ ((62 : Nat) : Int) + 35 = ((97 : Nat) : Int) ∧ 62 + 3 = 65 := by decide +kernel
theorem D_M_copy_65 : decode prog_9_method_76_code 65 = .ok (.iload 5, 2) ∧ 65 + 2 = 67 := by decide +kernel
theorem D_M_copy_67 : decode prog_9_method_76_code 67 = .ok (.ifCond .lt 30, 3) ∧ ((67 : Nat) : Int) + 30 = ((97 : Nat) : Int) ∧ 67 + 3 = 70 := by decide +kernel
theorem D_M_copy_70 : decode prog_9_method_76_code 70 = .ok (.iload_n 2, 1) ∧ 70 + 1 = 71 := by decide +kernel
theorem D_M_copy_71 : decode prog_9_method_76_code 71 = .ok (.aload_n 0, 1) ∧ 71 + 1 = 72 := by decide +kernel
theorem D_M_copy_72 : decode prog_9_method_76_code 72 = .ok (.getfield 55, 3) ∧ 72 + 3 = 75 := by decide +kernel
theorem D_M_copy_75 : decode prog_9_method_76_code 75 = .ok (.iload_n 1, 1) ∧ 75 + 1 = 76 := by decide +kernel
theorem D_M_copy_76 : decode prog_9_method_76_code 76 = .ok (.iaload, 1) ∧ 76 + 1 = 77 := by decide +kernel
theorem D_M_copy_77 : decode prog_9_method_76_code 77 = .ok (.iload 5, 2) ∧ 77 + 2 = 79 := by decide +kernel
theorem D_M_copy_79 : decode prog_9_method_76_code 79 = .ok (.isub, 1) ∧ 79 + 1 = 80 := by decide +kernel
theorem D_M_copy_80 : decode prog_9_method_76_code 80 = .ok (.if_icmp .gt 17, 3) ∧ ((80 : Nat) : Int) + 17 = ((97 : Nat) : Int) ∧ 80 + 3 = 83 := by decide +kernel
theorem D_M_copy_83 : decode prog_9_method_76_code 83 = .ok (.iload 4, 2) ∧ 83 + 2 = 85 := by decide +kernel
theorem D_M_copy_85 : decode prog_9_method_76_code 85 = .ok (.aload_n 0, 1) ∧ 85 + 1 = 86 := by decide +kernel
theorem D_M_copy_86 : decode prog_9_method_76_code 86 = .ok (.getfield 55, 3) ∧ 86 + 3 = 89 := by decide +kernel
theorem D_M_copy_89 : decode prog_9_method_76_code 89 = .ok (.iload_n 3, 1) ∧ 89 + 1 = 90 := by decide +kernel
theorem D_M_copy_90 : decode prog_9_method_76_code 90 = .ok (.iaload, 1) ∧ 90 + 1 = 91 := by decide +kernel
theorem D_M_copy_91 : decode prog_9_method_76_code 91 = .ok (.iload 5, 2) ∧ 91 + 2 = 93 := by decide +kernel
theorem D_M_copy_93 : decode prog_9_method_76_code 93 = .ok (.isub, 1) ∧ 93 + 1 = 94 := by decide +kernel
theorem D_M_copy_94 : decode prog_9_method_76_code 94 = .ok (.if_icmp .le 6, 3) ∧ ((94 : Nat) : Int) + 6 = ((100 : Nat) : Int) ∧ 94 + 3 = 97 := by decide +kernel
theorem D_M_copy_100 : decode prog_9_method_76_code 100 = .ok (.iconst 0, 1) ∧ 100 + 1 = 101 := by decide +kernel
theorem D_M_copy_101 : decode prog_9_method_76_code 101 = .ok (.istore 6, 2) ∧ 101 + 2 = 103 := by decide +kernel
theorem D_M_copy_103 : decode prog_9_method_76_code 103 = .ok (.iload 6, 2) ∧ 103 + 2 = 105 := by decide +kernel
theorem D_M_copy_105 : decode prog_9_method_76_code 105 = .ok (.iload 5, 2) ∧ 105 + 2 = 107 := by decide +kernel
theorem D_M_copy_107 : decode prog_9_method_76_code 107 = .ok (.if_icmp .ge 30, 3) ∧ ((107 : Nat) : Int) + 30 = ((137 : Nat) : Int) ∧ 107 + 3 = 110 := by decide +kernel
theorem D_M_copy_110 : decode prog_9_method_76_code 110 = .ok (.aload_n 0, 1) ∧ 110 + 1 = 111 := by decide +kernel
theorem D_M_copy_111 : decode prog_9_method_76_code 111 = .ok (.getfield 73, 3) ∧ 111 + 3 = 114 := by decide +kernel
theorem D_M_copy_114 : decode prog_9_method_76_code 114 = .ok (.iload 6, 2) ∧ 114 + 2 = 116 := by decide +kernel
theorem D_M_copy_116 : decode prog_9_method_76_code 116 = .ok (.aload_n 0, 1) ∧ 116 + 1 = 117 := by decide +kernel
theorem D_M_copy_117 : decode prog_9_method_76_code 117 = .ok (.getfield 58, 3) ∧ 117 + 3 = 120 := by decide +kernel
theorem D_M_copy_120 : decode prog_9_method_76_code 120 = .ok (.bipush 24, 2) ∧ 120 + 2 = 122 := by decide +kernel
theorem D_M_copy_122 : decode prog_9_method_76_code 122 = .ok (.iload_n 1, 1) ∧ 122 + 1 = 123 := by decide +kernel
theorem D_M_copy_123 : decode prog_9_method_76_code 123 = .ok (.imul, 1) ∧ 123 + 1 = 124 := by decide +kernel
theorem D_M_copy_124 : decode prog_9_method_76_code 124 = .ok (.iload_n 2, 1) ∧ 124 + 1 = 125 := by decide +kernel
theorem D_M_copy_125 : decode prog_9_method_76_code 125 = .ok (.iadd, 1) ∧ 125 + 1 = 126 := by decide +kernel
theorem D_M_copy_126 : decode prog_9_method_76_code 126 = .ok (.iload 6, 2) ∧ 126 + 2 = 128 := by decide +kernel
theorem D_M_copy_128 : decode prog_9_method_76_code 128 = .ok (.iadd, 1) ∧ 128 + 1 = 129 := by decide +kernel
theorem D_M_copy_129 : decode prog_9_method_76_code 129 = .ok (.iaload, 1) ∧ 129 + 1 = 130 := by decide +kernel
theorem D_M_copy_130 : decode prog_9_method_76_code 130 = .ok (.iastore, 1) ∧ 130 + 1 = 131 := by decide +kernel
theorem D_M_copy_131 : decode prog_9_method_76_code 131 = .ok (.iinc 6 1, 3) ∧ 131 + 3 = 134 := by decide +kernel
theorem D_M_copy_134 : decode prog_9_method_76_code 134 = .ok (.goto (-31), 3) ∧ ((134 : Nat) : Int) + (-31) = ((103 : Nat) : Int) := by decide +kernel
theorem D_M_copy_137 : decode prog_9_method_76_code 137 = .ok (.iconst 0, 1) ∧ 137 + 1 = 138 := by decide +kernel
theorem D_M_copy_138 : decode prog_9_method_76_code 138 = .ok (.istore 6, 2) ∧ 138 + 2 = 140 := by decide +kernel
theorem D_M_copy_140 : decode prog_9_method_76_code 140 = .ok (.iload 6, 2) ∧ 140 + 2 = 142 := by decide +kernel
theorem D_M_copy_142 : decode prog_9_method_76_code 142 = .ok (.iload 5, 2) ∧ 142 + 2 = 144 := by decide +kernel
theorem D_M_copy_144 : decode prog_9_method_76_code 144 = .ok (.if_icmp .ge 31, 3) ∧ ((144 : Nat) : Int) + 31 = ((175 : Nat) : Int) ∧ 144 + 3 = 147 := by decide +kernel
theorem D_M_copy_147 : decode prog_9_method_76_code 147 = .ok (.aload_n 0, 1) ∧ 147 + 1 = 148 := by decide +kernel
theorem D_M_copy_148 : decode prog_9_method_76_code 148 = .ok (.getfield 58, 3) ∧ 148 + 3 = 151 := by decide +kernel
theorem D_M_copy_151 : decode prog_9_method_76_code 151 = .ok (.bipush 24, 2) ∧ 151 + 2 = 153 := by decide +kernel
theorem D_M_copy_153 : decode prog_9_method_76_code 153 = .ok (.iload_n 3, 1) ∧ 153 + 1 = 154 := by decide +kernel
theorem D_M_copy_154 : decode prog_9_method_76_code 154 = .ok (.imul, 1) ∧ 154 + 1 = 155 := by decide +kernel
theorem D_M_copy_155 : decode prog_9_method_76_code 155 = .ok (.iload 4, 2) ∧ 155 + 2 = 157 := by decide +kernel
theorem D_M_copy_157 : decode prog_9_method_76_code 157 = .ok (.iadd, 1) ∧ 157 + 1 = 158 := by decide +kernel
theorem D_M_copy_158 : decode prog_9_method_76_code 158 = .ok (.iload 6, 2) ∧ 158 + 2 = 160 := by decide +kernel
theorem D_M_copy_160 : decode prog_9_method_76_code 160 = .ok (.iadd, 1) ∧ 160 + 1 = 161 := by decide +kernel
theorem D_M_copy_161 : decode prog_9_method_76_code 161 = .ok (.aload_n 0, 1) ∧ 161 + 1 = 162 := by decide +kernel
theorem D_M_copy_162 : decode prog_9_method_76_code 162 = .ok (.getfield 73, 3) ∧ 162 + 3 = 165 := by decide +kernel
theorem D_M_copy_165 : decode prog_9_method_76_code 165 = .ok (.iload 6, 2) ∧ 165 + 2 = 167 := by decide +kernel
theorem D_M_copy_167 : decode prog_9_method_76_code 167 = .ok (.iaload, 1) ∧ 167 + 1 = 168 := by decide +kernel
theorem D_M_copy_168 : decode prog_9_method_76_code 168 = .ok (.iastore, 1) ∧ 168 + 1 = 169 := by decide +kernel
theorem D_M_copy_169 : decode prog_9_method_76_code 169 = .ok (.iinc 6 1, 3) ∧ 169 + 3 = 172 := by decide +kernel
theorem D_M_copy_172 : decode prog_9_method_76_code 172 = .ok (.goto (-32), 3) ∧ ((172 : Nat) : Int) + (-32) = ((140 : Nat) : Int) := by decide +kernel
theorem D_M_copy_175 : decode prog_9_method_76_code 175 = .ok (.iload 5, 2) ∧ 175 + 2 = 177 := by decide +kernel
theorem D_M_copy_177 : decode prog_9_method_76_code 177 = .ok (.ireturn, 1) := by decide +kernel
theorem D_M_copy_53 : decode prog_9_method_76_code 53 = .ok (.ldc 129, 2) ∧ 53 + 2 = 55 := by decide +kernel
theorem D_M_copy_55 : decode prog_9_method_76_code 55 = .ok (.ireturn, 1) := by decide +kernel
def f_M_copy_L103  : Nat → Int32 → Int32 → Int32 → Int32 → Int32 → Int32 → Mm → Option (Int32 × Mm)
  | 0, _, _, _, _, _, _, _ => none
  | n + 1, b1, b2, b3, b4, b5, b6, mem => if b5 ≤ b6 then some (b6, mem) else if inb (((24 * b1) + b2) + b6) 96 = true then if inb b6 24 = true then lt (mst mem 111 (ix b6) (mem 106 (ix (((24 * b1) + b2) + b6)))) fun m_130 => f_M_copy_L103 n b1 b2 b3 b4 b5 (b6 + 1) m_130 else none else none
def f_M_copy_L140  : Nat → Int32 → Int32 → Int32 → Int32 → Int32 → Int32 → Mm → Option (Int32 × Mm)
  | 0, _, _, _, _, _, _, _ => none
  | n + 1, b1, b2, b3, b4, b5, b6, mem => if b5 ≤ b6 then some (b6, mem) else if inb b6 24 = true then if inb (((24 * b3) + b4) + b6) 96 = true then lt (mst mem 106 (ix (((24 * b3) + b4) + b6)) (mem 111 (ix b6))) fun m_168 => f_M_copy_L140 n b1 b2 b3 b4 b5 (b6 + 1) m_168 else none else none
def f_M_copy (N : Nat) (a1 : Int32) (a2 : Int32) (a3 : Int32) (a4 : Int32) (a5 : Int32) (mem : Mm) : Option (Int32 × Mm) := bp (f_M_isSheet a1) fun r_1 => if r_1 = 0 then some ((-1000000001), mem) else bp (f_M_isSheet a3) fun r_8 => if r_8 = 0 then some ((-1000000001), mem) else if inb a1 4 = true then if mem 104 (ix a1) < 0 then some ((-1000000011), mem) else if inb a3 4 = true then if 0 ≤ mem 104 (ix a3) then if mem 104 (ix a1) = mem 104 (ix a3) then if a2 < 0 then some ((-1000000013), mem) else if a4 < 0 then some ((-1000000013), mem) else if a5 < 0 then some ((-1000000013), mem) else if (mem 105 (ix a1)) - a5 < a2 then some ((-1000000013), mem) else if a4 ≤ (mem 105 (ix a3)) - a5 then bd (f_M_copy_L103 N a1 a2 a3 a4 a5 0 mem) fun y_103 m_103 => bd (f_M_copy_L140 N a1 a2 a3 a4 a5 0 m_103) fun y_140 m_140 => some (a5, m_140) else some ((-1000000013), mem) else some ((-1000000012), mem) else some ((-1000000011), mem) else none else none
theorem L_M_copy_103 {X : Cx} {E : En} (S : Std X E prog_9_method_76_code R6 7 2)  : ∀ (n : Nat) (b1 : Int32) (b2 : Int32) (b3 : Int32) (b4 : Int32) (b5 : Int32) (b6 : Int32) (mem : Mm) (z : Int32) (m2 : Mm), f_M_copy_L103 n b1 b2 b3 b4 b5 b6 mem = some (z, m2) → J X E 7 137 [(0, .ref (eb E + 91)), (1, .int b1), (2, .int b2), (3, .int b3), (4, .int b4), (5, .int b5), (6, .int z)] [] SH m2 → J X E 7 103 [(0, .ref (eb E + 91)), (1, .int b1), (2, .int b2), (3, .int b3), (4, .int b4), (5, .int b5), (6, .int b6)] [] SH mem := by
  intro n
  induction n with
  | zero =>
    intro b1 b2 b3 b4 b5 b6 mem z m2 h hk; cases h
  | succ n ih =>
    intro b1 b2 b3 b4 b5 b6 mem z m2 h hk
    rw [f_M_copy_L103] at h
    refine j_iload S D_M_copy_103 6 rfl ?_
    refine j_iload S D_M_copy_105 5 rfl ?_
    refine j_icmp_ge S D_M_copy_107 (fun c_107 => ?_) (fun c_107 => ?_)
    · have h := ifT c_107 h
      cases h
      exact j_locals [0, 1, 2, 3, 4, 5, 6] rfl hk
    · have h := ifF c_107 h
      refine j_aload_n S D_M_copy_110 0 rfl rfl ?_
      refine j_getR S D_M_copy_111 fl_R6_73 sh_Mod rfl ?_
      refine j_iload S D_M_copy_114 6 rfl ?_
      refine j_aload_n S D_M_copy_116 0 rfl rfl ?_
      refine j_getR S D_M_copy_117 fl_R6_58 sh_Mod rfl ?_
      refine j_bipush S D_M_copy_120 cb_24 ?_
      refine j_iload_n S D_M_copy_122 1 rfl rfl ?_
      refine j_imul S D_M_copy_123 ?_
      refine j_iload_n S D_M_copy_124 2 rfl rfl ?_
      refine j_iadd S D_M_copy_125 ?_
      refine j_iload S D_M_copy_126 6 rfl ?_
      refine j_iadd S D_M_copy_128 ?_
      obtain ⟨g_129, h⟩ := gdE h
      refine j_iald S D_M_copy_129 sh_106 g_129 ?_
      obtain ⟨g_130, h⟩ := gdE h
      obtain ⟨m_130, hm_130, h⟩ := ltE h
      refine j_iast S D_M_copy_130 sh_111 g_130 ?_
      refine j_mem hm_130 ?_
      refine j_iinc S D_M_copy_131 6 rfl (congrArg (fun z => b6 + z) ci_1) (lv := [(6, .int (b6 + 1)), (0, .ref (eb E + 91)), (1, .int b1), (2, .int b2), (3, .int b3), (4, .int b4), (5, .int b5)]) rfl (Nat.le_of_ble_eq_true rfl) ?_
      refine j_goto S D_M_copy_134 ?_
      refine j_locals [1, 2, 3, 4, 5, 6, 0] rfl (ih b1 b2 b3 b4 b5 (b6 + 1) m_130 _ _ h hk)
theorem L_M_copy_140 {X : Cx} {E : En} (S : Std X E prog_9_method_76_code R6 7 2)  : ∀ (n : Nat) (b1 : Int32) (b2 : Int32) (b3 : Int32) (b4 : Int32) (b5 : Int32) (b6 : Int32) (mem : Mm) (z : Int32) (m2 : Mm), f_M_copy_L140 n b1 b2 b3 b4 b5 b6 mem = some (z, m2) → J X E 7 175 [(0, .ref (eb E + 91)), (1, .int b1), (2, .int b2), (3, .int b3), (4, .int b4), (5, .int b5), (6, .int z)] [] SH m2 → J X E 7 140 [(0, .ref (eb E + 91)), (1, .int b1), (2, .int b2), (3, .int b3), (4, .int b4), (5, .int b5), (6, .int b6)] [] SH mem := by
  intro n
  induction n with
  | zero =>
    intro b1 b2 b3 b4 b5 b6 mem z m2 h hk; cases h
  | succ n ih =>
    intro b1 b2 b3 b4 b5 b6 mem z m2 h hk
    rw [f_M_copy_L140] at h
    refine j_iload S D_M_copy_140 6 rfl ?_
    refine j_iload S D_M_copy_142 5 rfl ?_
    refine j_icmp_ge S D_M_copy_144 (fun c_144 => ?_) (fun c_144 => ?_)
    · have h := ifT c_144 h
      cases h
      exact j_locals [0, 1, 2, 3, 4, 5, 6] rfl hk
    · have h := ifF c_144 h
      refine j_aload_n S D_M_copy_147 0 rfl rfl ?_
      refine j_getR S D_M_copy_148 fl_R6_58 sh_Mod rfl ?_
      refine j_bipush S D_M_copy_151 cb_24 ?_
      refine j_iload_n S D_M_copy_153 3 rfl rfl ?_
      refine j_imul S D_M_copy_154 ?_
      refine j_iload S D_M_copy_155 4 rfl ?_
      refine j_iadd S D_M_copy_157 ?_
      refine j_iload S D_M_copy_158 6 rfl ?_
      refine j_iadd S D_M_copy_160 ?_
      refine j_aload_n S D_M_copy_161 0 rfl rfl ?_
      refine j_getR S D_M_copy_162 fl_R6_73 sh_Mod rfl ?_
      refine j_iload S D_M_copy_165 6 rfl ?_
      obtain ⟨g_167, h⟩ := gdE h
      refine j_iald S D_M_copy_167 sh_111 g_167 ?_
      obtain ⟨g_168, h⟩ := gdE h
      obtain ⟨m_168, hm_168, h⟩ := ltE h
      refine j_iast S D_M_copy_168 sh_106 g_168 ?_
      refine j_mem hm_168 ?_
      refine j_iinc S D_M_copy_169 6 rfl (congrArg (fun z => b6 + z) ci_1) (lv := [(6, .int (b6 + 1)), (0, .ref (eb E + 91)), (1, .int b1), (2, .int b2), (3, .int b3), (4, .int b4), (5, .int b5)]) rfl (Nat.le_of_ble_eq_true rfl) ?_
      refine j_goto S D_M_copy_172 ?_
      refine j_locals [1, 2, 3, 4, 5, 6, 0] rfl (ih b1 b2 b3 b4 b5 (b6 + 1) m_168 _ _ h hk)
theorem c_M_copy (l : Launch) (E : En) (N : Nat) (a1 : Int32) (a2 : Int32) (a3 : Int32) (a4 : Int32) (a5 : Int32) {mem : Mm} {r : Int32} {m2 : Mm} (h : f_M_copy N a1 a2 a3 a4 a5 mem = some (r, m2)) : CtI l E 2 y_M_copy prog_9_method_76_code 7 (some .int) [.ref (eb E + 91), .int a1, .int a2, .int a3, .int a4, .int a5] SH mem r m2 := by
  refine mk_CtI ⟨by decide, (Nat.le_of_ble_eq_true rfl)⟩ (fun X S hl hR => ?_)
  have S : Std X E prog_9_method_76_code R6 7 2 := S
  show J X E 7 0 [(0, .ref (eb E + 91)), (1, .int a1), (2, .int a2), (3, .int a3), (4, .int a4), (5, .int a5)] [] SH mem
  unfold f_M_copy at h
  refine j_iload_n S D_M_copy_0 1 rfl rfl ?_
  obtain ⟨r_1, e_1, h⟩ := bpE h
  refine j_callSI (As := [.int a1]) S D_M_copy_1 ms_R6_169 (c_M_isSheet (cxL X) E a1 (mem := mem) e_1) (by decide) rfl rfl (Nat.le_of_ble_eq_true rfl) ?_
  refine j_if_eq S D_M_copy_4 (fun c_4 => ?_) (fun c_4 => ?_)
  · have h := ifT c_4 h
    refine j_ldc S D_M_copy_14 co_R6_87 ?_
    exact rtM hR h _ _ D_M_copy_16
  · have h := ifF c_4 h
    refine j_iload_n S D_M_copy_7 3 rfl rfl ?_
    obtain ⟨r_8, e_8, h⟩ := bpE h
    refine j_callSI (As := [.int a3]) S D_M_copy_8 ms_R6_169 (c_M_isSheet (cxL X) E a3 (mem := mem) e_8) (by decide) rfl rfl (Nat.le_of_ble_eq_true rfl) ?_
    refine j_if_ne S D_M_copy_11 (fun c_11 => ?_) (fun c_11 => ?_)
    · have h := ifF c_11 h
      refine j_aload_n S D_M_copy_17 0 rfl rfl ?_
      refine j_getR S D_M_copy_18 fl_R6_52 sh_Mod rfl ?_
      refine j_iload_n S D_M_copy_21 1 rfl rfl ?_
      obtain ⟨g_22, h⟩ := gdE h
      refine j_iald S D_M_copy_22 sh_104 g_22 ?_
      refine j_if_lt S D_M_copy_23 (fun c_23 => ?_) (fun c_23 => ?_)
      · have h := ifT c_23 h
        refine j_ldc S D_M_copy_35 co_R6_172 ?_
        exact rtM hR h _ _ D_M_copy_37
      · have h := ifF c_23 h
        refine j_aload_n S D_M_copy_26 0 rfl rfl ?_
        refine j_getR S D_M_copy_27 fl_R6_52 sh_Mod rfl ?_
        refine j_iload_n S D_M_copy_30 3 rfl rfl ?_
        obtain ⟨g_31, h⟩ := gdE h
        refine j_iald S D_M_copy_31 sh_104 g_31 ?_
        refine j_if_ge S D_M_copy_32 (fun c_32 => ?_) (fun c_32 => ?_)
        · have h := ifT c_32 h
          refine j_aload_n S D_M_copy_38 0 rfl rfl ?_
          refine j_getR S D_M_copy_39 fl_R6_52 sh_Mod rfl ?_
          refine j_iload_n S D_M_copy_42 1 rfl rfl ?_
          refine j_iald S D_M_copy_43 sh_104 g_22 ?_
          refine j_aload_n S D_M_copy_44 0 rfl rfl ?_
          refine j_getR S D_M_copy_45 fl_R6_52 sh_Mod rfl ?_
          refine j_iload_n S D_M_copy_48 3 rfl rfl ?_
          refine j_iald S D_M_copy_49 sh_104 g_31 ?_
          refine j_icmp_eq S D_M_copy_50 (fun c_50 => ?_) (fun c_50 => ?_)
          · have h := ifT c_50 h
            refine j_iload_n S D_M_copy_56 2 rfl rfl ?_
            refine j_if_lt S D_M_copy_57 (fun c_57 => ?_) (fun c_57 => ?_)
            · have h := ifT c_57 h
              refine j_ldc S D_M_copy_97 co_R6_245 ?_
              exact rtM hR h _ _ D_M_copy_99
            · have h := ifF c_57 h
              refine j_iload S D_M_copy_60 4 rfl ?_
              refine j_if_lt S D_M_copy_62 (fun c_62 => ?_) (fun c_62 => ?_)
              · have h := ifT c_62 h
                refine j_ldc S D_M_copy_97 co_R6_245 ?_
                exact rtM hR h _ _ D_M_copy_99
              · have h := ifF c_62 h
                refine j_iload S D_M_copy_65 5 rfl ?_
                refine j_if_lt S D_M_copy_67 (fun c_67 => ?_) (fun c_67 => ?_)
                · have h := ifT c_67 h
                  refine j_ldc S D_M_copy_97 co_R6_245 ?_
                  exact rtM hR h _ _ D_M_copy_99
                · have h := ifF c_67 h
                  refine j_iload_n S D_M_copy_70 2 rfl rfl ?_
                  refine j_aload_n S D_M_copy_71 0 rfl rfl ?_
                  refine j_getR S D_M_copy_72 fl_R6_55 sh_Mod rfl ?_
                  refine j_iload_n S D_M_copy_75 1 rfl rfl ?_
                  refine j_iald S D_M_copy_76 sh_105 g_22 ?_
                  refine j_iload S D_M_copy_77 5 rfl ?_
                  refine j_isub S D_M_copy_79 ?_
                  refine j_icmp_gt S D_M_copy_80 (fun c_80 => ?_) (fun c_80 => ?_)
                  · have h := ifT c_80 h
                    refine j_ldc S D_M_copy_97 co_R6_245 ?_
                    exact rtM hR h _ _ D_M_copy_99
                  · have h := ifF c_80 h
                    refine j_iload S D_M_copy_83 4 rfl ?_
                    refine j_aload_n S D_M_copy_85 0 rfl rfl ?_
                    refine j_getR S D_M_copy_86 fl_R6_55 sh_Mod rfl ?_
                    refine j_iload_n S D_M_copy_89 3 rfl rfl ?_
                    refine j_iald S D_M_copy_90 sh_105 g_31 ?_
                    refine j_iload S D_M_copy_91 5 rfl ?_
                    refine j_isub S D_M_copy_93 ?_
                    refine j_icmp_le S D_M_copy_94 (fun c_94 => ?_) (fun c_94 => ?_)
                    · have h := ifT c_94 h
                      refine j_iconst S D_M_copy_100 ci_0 ?_
                      refine j_istore S D_M_copy_101 (lv := [(6, .int 0), (0, .ref (eb E + 91)), (1, .int a1), (2, .int a2), (3, .int a3), (4, .int a4), (5, .int a5)]) rfl (Nat.le_of_ble_eq_true rfl) ?_
                      refine j_locals [1, 2, 3, 4, 5, 6, 0] rfl ?_
                      obtain ⟨y_103, m_103, e_103, h⟩ := bdE h
                      refine L_M_copy_103 S  N a1 a2 a3 a4 a5 0 mem _ _ e_103 ?_
                      refine j_iconst S D_M_copy_137 ci_0 ?_
                      refine j_istore S D_M_copy_138 (lv := [(6, .int 0), (0, .ref (eb E + 91)), (1, .int a1), (2, .int a2), (3, .int a3), (4, .int a4), (5, .int a5)]) rfl (Nat.le_of_ble_eq_true rfl) ?_
                      refine j_locals [1, 2, 3, 4, 5, 6, 0] rfl ?_
                      obtain ⟨y_140, m_140, e_140, h⟩ := bdE h
                      refine L_M_copy_140 S  N a1 a2 a3 a4 a5 0 m_103 _ _ e_140 ?_
                      refine j_iload S D_M_copy_175 5 rfl ?_
                      exact rtM hR h _ _ D_M_copy_177
                    · have h := ifF c_94 h
                      refine j_ldc S D_M_copy_97 co_R6_245 ?_
                      exact rtM hR h _ _ D_M_copy_99
          · have h := ifF c_50 h
            refine j_ldc S D_M_copy_53 co_R6_129 ?_
            exact rtM hR h _ _ D_M_copy_55
        · have h := ifF c_32 h
          refine j_ldc S D_M_copy_35 co_R6_172 ?_
          exact rtM hR h _ _ D_M_copy_37
    · have h := ifT c_11 h
      refine j_ldc S D_M_copy_14 co_R6_87 ?_
      exact rtM hR h _ _ D_M_copy_16

def y_M_lay : MethodName := ⟨"SandPictureModel", "lay", "(III)I"⟩
theorem D_M_lay_0 : decode prog_9_method_77_code 0 = .ok (.iload_n 1, 1) ∧ 0 + 1 = 1 := by decide +kernel
theorem D_M_lay_1 : decode prog_9_method_77_code 1 = .ok (.invokestatic 247, 3) ∧ 1 + 3 = 4 := by decide +kernel
theorem D_M_lay_4 : decode prog_9_method_77_code 4 = .ok (.ifCond .eq 37, 3) ∧ ((4 : Nat) : Int) + 37 = ((41 : Nat) : Int) ∧ 4 + 3 = 7 := by decide +kernel
theorem D_M_lay_41 : decode prog_9_method_77_code 41 = .ok (.ldc 87, 2) ∧ 41 + 2 = 43 := by decide +kernel
theorem D_M_lay_43 : decode prog_9_method_77_code 43 = .ok (.ireturn, 1) := by decide +kernel
theorem D_M_lay_7 : decode prog_9_method_77_code 7 = .ok (.iload_n 2, 1) ∧ 7 + 1 = 8 := by decide +kernel
theorem D_M_lay_8 : decode prog_9_method_77_code 8 = .ok (.iconst 0, 1) ∧ 8 + 1 = 9 := by decide +kernel
theorem D_M_lay_9 : decode prog_9_method_77_code 9 = .ok (.iconst 3, 1) ∧ 9 + 1 = 10 := by decide +kernel
theorem D_M_lay_10 : decode prog_9_method_77_code 10 = .ok (.invokestatic 79, 3) ∧ 10 + 3 = 13 := by decide +kernel
theorem D_M_lay_13 : decode prog_9_method_77_code 13 = .ok (.ifCond .eq 28, 3) ∧ ((13 : Nat) : Int) + 28 = ((41 : Nat) : Int) ∧ 13 + 3 = 16 := by decide +kernel
theorem D_M_lay_16 : decode prog_9_method_77_code 16 = .ok (.iload_n 2, 1) ∧ 16 + 1 = 17 := by decide +kernel
theorem D_M_lay_17 : decode prog_9_method_77_code 17 = .ok (.iconst 1, 1) ∧ 17 + 1 = 18 := by decide +kernel
theorem D_M_lay_18 : decode prog_9_method_77_code 18 = .ok (.if_icmp .ne 11, 3) ∧ ((18 : Nat) : Int) + 11 = ((29 : Nat) : Int) ∧ 18 + 3 = 21 := by decide +kernel
theorem D_M_lay_29 : decode prog_9_method_77_code 29 = .ok (.iload_n 2, 1) ∧ 29 + 1 = 30 := by decide +kernel
theorem D_M_lay_30 : decode prog_9_method_77_code 30 = .ok (.iconst 2, 1) ∧ 30 + 1 = 31 := by decide +kernel
theorem D_M_lay_31 : decode prog_9_method_77_code 31 = .ok (.if_icmp .ne 13, 3) ∧ ((31 : Nat) : Int) + 13 = ((44 : Nat) : Int) ∧ 31 + 3 = 34 := by decide +kernel
theorem D_M_lay_44 : decode prog_9_method_77_code 44 = .ok (.iload_n 2, 1) ∧ 44 + 1 = 45 := by decide +kernel
theorem D_M_lay_45 : decode prog_9_method_77_code 45 = .ok (.iconst 2, 1) ∧ 45 + 1 = 46 := by decide +kernel
theorem D_M_lay_46 : decode prog_9_method_77_code 46 = .ok (.if_icmp .ne 15, 3) ∧ ((46 : Nat) : Int) + 15 = ((61 : Nat) : Int) ∧ 46 + 3 = 49 := by decide +kernel
theorem D_M_lay_61 : decode prog_9_method_77_code 61 = .ok (.aload_n 0, 1) ∧ 61 + 1 = 62 := by decide +kernel
theorem D_M_lay_62 : decode prog_9_method_77_code 62 = .ok (.getfield 61, 3) ∧ 62 + 3 = 65 := by decide +kernel
theorem D_M_lay_65 : decode prog_9_method_77_code 65 = .ok (.iload_n 1, 1) ∧ 65 + 1 = 66 := by decide +kernel
theorem D_M_lay_66 : decode prog_9_method_77_code 66 = .ok (.iaload, 1) ∧ 66 + 1 = 67 := by decide +kernel
theorem D_M_lay_67 : decode prog_9_method_77_code 67 = .ok (.istore 4, 2) ∧ 67 + 2 = 69 := by decide +kernel
theorem D_M_lay_69 : decode prog_9_method_77_code 69 = .ok (.aload_n 0, 1) ∧ 69 + 1 = 70 := by decide +kernel
theorem D_M_lay_70 : decode prog_9_method_77_code 70 = .ok (.getfield 61, 3) ∧ 70 + 3 = 73 := by decide +kernel
theorem D_M_lay_73 : decode prog_9_method_77_code 73 = .ok (.iload_n 1, 1) ∧ 73 + 1 = 74 := by decide +kernel
theorem D_M_lay_74 : decode prog_9_method_77_code 74 = .ok (.iload_n 2, 1) ∧ 74 + 1 = 75 := by decide +kernel
theorem D_M_lay_75 : decode prog_9_method_77_code 75 = .ok (.iastore, 1) ∧ 75 + 1 = 76 := by decide +kernel
theorem D_M_lay_76 : decode prog_9_method_77_code 76 = .ok (.aload_n 0, 1) ∧ 76 + 1 = 77 := by decide +kernel
theorem D_M_lay_77 : decode prog_9_method_77_code 77 = .ok (.getfield 64, 3) ∧ 77 + 3 = 80 := by decide +kernel
theorem D_M_lay_80 : decode prog_9_method_77_code 80 = .ok (.iload_n 1, 1) ∧ 80 + 1 = 81 := by decide +kernel
theorem D_M_lay_81 : decode prog_9_method_77_code 81 = .ok (.iload_n 2, 1) ∧ 81 + 1 = 82 := by decide +kernel
theorem D_M_lay_82 : decode prog_9_method_77_code 82 = .ok (.iconst 1, 1) ∧ 82 + 1 = 83 := by decide +kernel
theorem D_M_lay_83 : decode prog_9_method_77_code 83 = .ok (.if_icmp .ne 12, 3) ∧ ((83 : Nat) : Int) + 12 = ((95 : Nat) : Int) ∧ 83 + 3 = 86 := by decide +kernel
theorem D_M_lay_95 : decode prog_9_method_77_code 95 = .ok (.iload_n 2, 1) ∧ 95 + 1 = 96 := by decide +kernel
theorem D_M_lay_96 : decode prog_9_method_77_code 96 = .ok (.iconst 2, 1) ∧ 96 + 1 = 97 := by decide +kernel
theorem D_M_lay_97 : decode prog_9_method_77_code 97 = .ok (.if_icmp .ne 12, 3) ∧ ((97 : Nat) : Int) + 12 = ((109 : Nat) : Int) ∧ 97 + 3 = 100 := by decide +kernel
theorem D_M_lay_109 : decode prog_9_method_77_code 109 = .ok (.iload_n 3, 1) ∧ 109 + 1 = 110 := by decide +kernel
theorem D_M_lay_110 : decode prog_9_method_77_code 110 = .ok (.iastore, 1) ∧ 110 + 1 = 111 := by decide +kernel
theorem D_M_lay_111 : decode prog_9_method_77_code 111 = .ok (.aload_n 0, 1) ∧ 111 + 1 = 112 := by decide +kernel
theorem D_M_lay_112 : decode prog_9_method_77_code 112 = .ok (.getfield 67, 3) ∧ 112 + 3 = 115 := by decide +kernel
theorem D_M_lay_115 : decode prog_9_method_77_code 115 = .ok (.iload_n 1, 1) ∧ 115 + 1 = 116 := by decide +kernel
theorem D_M_lay_116 : decode prog_9_method_77_code 116 = .ok (.iload_n 2, 1) ∧ 116 + 1 = 117 := by decide +kernel
theorem D_M_lay_117 : decode prog_9_method_77_code 117 = .ok (.iconst 1, 1) ∧ 117 + 1 = 118 := by decide +kernel
theorem D_M_lay_118 : decode prog_9_method_77_code 118 = .ok (.if_icmp .ne 11, 3) ∧ ((118 : Nat) : Int) + 11 = ((129 : Nat) : Int) ∧ 118 + 3 = 121 := by decide +kernel
theorem D_M_lay_129 : decode prog_9_method_77_code 129 = .ok (.iconst 0, 1) ∧ 129 + 1 = 130 := by decide +kernel
theorem D_M_lay_130 : decode prog_9_method_77_code 130 = .ok (.iastore, 1) ∧ 130 + 1 = 131 := by decide +kernel
theorem D_M_lay_131 : decode prog_9_method_77_code 131 = .ok (.iconst 0, 1) ∧ 131 + 1 = 132 := by decide +kernel
theorem D_M_lay_132 : decode prog_9_method_77_code 132 = .ok (.istore 5, 2) ∧ 132 + 2 = 134 := by decide +kernel
theorem D_M_lay_134 : decode prog_9_method_77_code 134 = .ok (.iload 5, 2) ∧ 134 + 2 = 136 := by decide +kernel
theorem D_M_lay_136 : decode prog_9_method_77_code 136 = .ok (.bipush 24, 2) ∧ 136 + 2 = 138 := by decide +kernel
theorem D_M_lay_138 : decode prog_9_method_77_code 138 = .ok (.if_icmp .ge 38, 3) ∧ ((138 : Nat) : Int) + 38 = ((176 : Nat) : Int) ∧ 138 + 3 = 141 := by decide +kernel
theorem D_M_lay_141 : decode prog_9_method_77_code 141 = .ok (.iload_n 2, 1) ∧ 141 + 1 = 142 := by decide +kernel
theorem D_M_lay_142 : decode prog_9_method_77_code 142 = .ok (.iconst 2, 1) ∧ 142 + 1 = 143 := by decide +kernel
theorem D_M_lay_143 : decode prog_9_method_77_code 143 = .ok (.if_icmp .ne 33, 3) ∧ ((143 : Nat) : Int) + 33 = ((176 : Nat) : Int) ∧ 143 + 3 = 146 := by decide +kernel
theorem D_M_lay_146 : decode prog_9_method_77_code 146 = .ok (.aload_n 0, 1) ∧ 146 + 1 = 147 := by decide +kernel
theorem D_M_lay_147 : decode prog_9_method_77_code 147 = .ok (.getfield 70, 3) ∧ 147 + 3 = 150 := by decide +kernel
theorem D_M_lay_150 : decode prog_9_method_77_code 150 = .ok (.bipush 24, 2) ∧ 150 + 2 = 152 := by decide +kernel
theorem D_M_lay_152 : decode prog_9_method_77_code 152 = .ok (.iload_n 1, 1) ∧ 152 + 1 = 153 := by decide +kernel
theorem D_M_lay_153 : decode prog_9_method_77_code 153 = .ok (.imul, 1) ∧ 153 + 1 = 154 := by decide +kernel
theorem D_M_lay_154 : decode prog_9_method_77_code 154 = .ok (.iload 5, 2) ∧ 154 + 2 = 156 := by decide +kernel
theorem D_M_lay_156 : decode prog_9_method_77_code 156 = .ok (.iadd, 1) ∧ 156 + 1 = 157 := by decide +kernel
theorem D_M_lay_157 : decode prog_9_method_77_code 157 = .ok (.aload_n 0, 1) ∧ 157 + 1 = 158 := by decide +kernel
theorem D_M_lay_158 : decode prog_9_method_77_code 158 = .ok (.getfield 58, 3) ∧ 158 + 3 = 161 := by decide +kernel
theorem D_M_lay_161 : decode prog_9_method_77_code 161 = .ok (.bipush 24, 2) ∧ 161 + 2 = 163 := by decide +kernel
theorem D_M_lay_163 : decode prog_9_method_77_code 163 = .ok (.iload_n 3, 1) ∧ 163 + 1 = 164 := by decide +kernel
theorem D_M_lay_164 : decode prog_9_method_77_code 164 = .ok (.imul, 1) ∧ 164 + 1 = 165 := by decide +kernel
theorem D_M_lay_165 : decode prog_9_method_77_code 165 = .ok (.iload 5, 2) ∧ 165 + 2 = 167 := by decide +kernel
theorem D_M_lay_167 : decode prog_9_method_77_code 167 = .ok (.iadd, 1) ∧ 167 + 1 = 168 := by decide +kernel
theorem D_M_lay_168 : decode prog_9_method_77_code 168 = .ok (.iaload, 1) ∧ 168 + 1 = 169 := by decide +kernel
theorem D_M_lay_169 : decode prog_9_method_77_code 169 = .ok (.iastore, 1) ∧ 169 + 1 = 170 := by decide +kernel
theorem D_M_lay_170 : decode prog_9_method_77_code 170 = .ok (.iinc 5 1, 3) ∧ 170 + 3 = 173 := by decide +kernel
theorem D_M_lay_173 : decode prog_9_method_77_code 173 = .ok (.goto (-39), 3) ∧ ((173 : Nat) : Int) + (-39) = ((134 : Nat) : Int) := by decide +kernel
theorem D_M_lay_176 : decode prog_9_method_77_code 176 = .ok (.iload 4, 2) ∧ 176 + 2 = 178 := by decide +kernel
theorem D_M_lay_178 : decode prog_9_method_77_code 178 = .ok (.ireturn, 1) := by decide +kernel
theorem D_M_lay_121 : decode prog_9_method_77_code 121 = .ok (.aload_n 0, 1) ∧ 121 + 1 = 122 := by decide +kernel
theorem D_M_lay_122 : decode prog_9_method_77_code 122 = .ok (.iload_n 3, 1) ∧ 122 + 1 = 123 := by decide +kernel
theorem D_M_lay_123 : decode prog_9_method_77_code 123 = .ok (.invokevirtual 100, 3) ∧ 123 + 3 = 126 := by decide +kernel
theorem D_M_lay_126 : decode prog_9_method_77_code 126 = .ok (.goto 4, 3) ∧ ((126 : Nat) : Int) + 4 = ((130 : Nat) : Int) := by decide +kernel
theorem D_M_lay_100 : decode prog_9_method_77_code 100 = .ok (.aload_n 0, 1) ∧ 100 + 1 = 101 := by decide +kernel
theorem D_M_lay_101 : decode prog_9_method_77_code 101 = .ok (.getfield 55, 3) ∧ 101 + 3 = 104 := by decide +kernel
theorem D_M_lay_104 : decode prog_9_method_77_code 104 = .ok (.iload_n 3, 1) ∧ 104 + 1 = 105 := by decide +kernel
theorem D_M_lay_105 : decode prog_9_method_77_code 105 = .ok (.iaload, 1) ∧ 105 + 1 = 106 := by decide +kernel
theorem D_M_lay_106 : decode prog_9_method_77_code 106 = .ok (.goto 4, 3) ∧ ((106 : Nat) : Int) + 4 = ((110 : Nat) : Int) := by decide +kernel
theorem D_M_lay_86 : decode prog_9_method_77_code 86 = .ok (.aload_n 0, 1) ∧ 86 + 1 = 87 := by decide +kernel
theorem D_M_lay_87 : decode prog_9_method_77_code 87 = .ok (.iload_n 3, 1) ∧ 87 + 1 = 88 := by decide +kernel
theorem D_M_lay_88 : decode prog_9_method_77_code 88 = .ok (.iconst 0, 1) ∧ 88 + 1 = 89 := by decide +kernel
theorem D_M_lay_89 : decode prog_9_method_77_code 89 = .ok (.invokevirtual 93, 3) ∧ 89 + 3 = 92 := by decide +kernel
theorem D_M_lay_92 : decode prog_9_method_77_code 92 = .ok (.goto 18, 3) ∧ ((92 : Nat) : Int) + 18 = ((110 : Nat) : Int) := by decide +kernel
theorem D_M_lay_49 : decode prog_9_method_77_code 49 = .ok (.aload_n 0, 1) ∧ 49 + 1 = 50 := by decide +kernel
theorem D_M_lay_50 : decode prog_9_method_77_code 50 = .ok (.getfield 52, 3) ∧ 50 + 3 = 53 := by decide +kernel
theorem D_M_lay_53 : decode prog_9_method_77_code 53 = .ok (.iload_n 3, 1) ∧ 53 + 1 = 54 := by decide +kernel
theorem D_M_lay_54 : decode prog_9_method_77_code 54 = .ok (.iaload, 1) ∧ 54 + 1 = 55 := by decide +kernel
theorem D_M_lay_55 : decode prog_9_method_77_code 55 = .ok (.ifCond .ge 6, 3) ∧ ((55 : Nat) : Int) + 6 = ((61 : Nat) : Int) ∧ 55 + 3 = 58 := by decide +kernel
theorem D_M_lay_58 : decode prog_9_method_77_code 58 = .ok (.ldc 172, 2) ∧ 58 + 2 = 60 := by decide +kernel
theorem D_M_lay_60 : decode prog_9_method_77_code 60 = .ok (.ireturn, 1) := by decide +kernel
theorem D_M_lay_34 : decode prog_9_method_77_code 34 = .ok (.iload_n 3, 1) ∧ 34 + 1 = 35 := by decide +kernel
theorem D_M_lay_35 : decode prog_9_method_77_code 35 = .ok (.invokestatic 169, 3) ∧ 35 + 3 = 38 := by decide +kernel
theorem D_M_lay_38 : decode prog_9_method_77_code 38 = .ok (.ifCond .ne 6, 3) ∧ ((38 : Nat) : Int) + 6 = ((44 : Nat) : Int) ∧ 38 + 3 = 41 := by decide +kernel
theorem D_M_lay_21 : decode prog_9_method_77_code 21 = .ok (.aload_n 0, 1) ∧ 21 + 1 = 22 := by decide +kernel
theorem D_M_lay_22 : decode prog_9_method_77_code 22 = .ok (.iload_n 3, 1) ∧ 22 + 1 = 23 := by decide +kernel
theorem D_M_lay_23 : decode prog_9_method_77_code 23 = .ok (.invokevirtual 97, 3) ∧ 23 + 3 = 26 := by decide +kernel
theorem D_M_lay_26 : decode prog_9_method_77_code 26 = .ok (.ifCond .eq 15, 3) ∧ ((26 : Nat) : Int) + 15 = ((41 : Nat) : Int) ∧ 26 + 3 = 29 := by decide +kernel
def f_M_lay_L134  : Nat → Int32 → Int32 → Int32 → Int32 → Int32 → Mm → Option (Int32 × Mm)
  | 0, _, _, _, _, _, _ => none
  | n + 1, b1, b2, b3, b4, b5, mem => if 24 ≤ b5 then some (b5, mem) else if b2 = 2 then if inb ((24 * b3) + b5) 96 = true then if inb ((24 * b1) + b5) 120 = true then lt (mst mem 110 (ix ((24 * b1) + b5)) (mem 106 (ix ((24 * b3) + b5)))) fun m_169 => f_M_lay_L134 n b1 b2 b3 b4 (b5 + 1) m_169 else none else none else some (b5, mem)
def f_M_lay (N : Nat) (a1 : Int32) (a2 : Int32) (a3 : Int32) (mem : Mm) : Option (Int32 × Mm) := bp (f_M_isSlot a1) fun r_1 => if r_1 = 0 then some ((-1000000001), mem) else bp (f_M_in a2 0 3) fun r_10 => if r_10 = 0 then some ((-1000000001), mem) else if a2 = 1 then bp (f_M_isMonk a3 mem) fun r_23 => if r_23 = 0 then some ((-1000000001), mem) else if a2 = 2 then bp (f_M_isSheet a3) fun r_35 => if r_35 = 0 then some ((-1000000001), mem) else if a2 = 2 then if inb a3 4 = true then if 0 ≤ mem 104 (ix a3) then if inb a1 5 = true then lt (mem 107 (ix a1)) fun x_67 => lt (mst mem 107 (ix a1) a2) fun m_75 => if a2 = 1 then bp (f_M_of a3 0 m_75) fun r_89 => lt (mst m_75 108 (ix a1) r_89) fun m_110 => if a2 = 1 then bp (f_M_worthOf a3 m_110) fun r_123 => lt (mst m_110 109 (ix a1) r_123) fun m_130 => bd (f_M_lay_L134 N a1 a2 a3 x_67 0 m_130) fun y_134 m_134 => some (x_67, m_134) else lt (mst m_110 109 (ix a1) 0) fun m_130 => bd (f_M_lay_L134 N a1 a2 a3 x_67 0 m_130) fun y_134 m_134 => some (x_67, m_134) else lt (mst m_75 108 (ix a1) (if a2 = 2 then m_75 105 (ix a3) else a3)) fun m_110 => if a2 = 1 then bp (f_M_worthOf a3 m_110) fun r_123 => lt (mst m_110 109 (ix a1) r_123) fun m_130 => bd (f_M_lay_L134 N a1 a2 a3 x_67 0 m_130) fun y_134 m_134 => some (x_67, m_134) else lt (mst m_110 109 (ix a1) 0) fun m_130 => bd (f_M_lay_L134 N a1 a2 a3 x_67 0 m_130) fun y_134 m_134 => some (x_67, m_134) else none else some ((-1000000011), mem) else none else if inb a1 5 = true then lt (mem 107 (ix a1)) fun x_67 => lt (mst mem 107 (ix a1) a2) fun m_75 => if a2 = 1 then bp (f_M_of a3 0 m_75) fun r_89 => lt (mst m_75 108 (ix a1) r_89) fun m_110 => if a2 = 1 then bp (f_M_worthOf a3 m_110) fun r_123 => lt (mst m_110 109 (ix a1) r_123) fun m_130 => bd (f_M_lay_L134 N a1 a2 a3 x_67 0 m_130) fun y_134 m_134 => some (x_67, m_134) else lt (mst m_110 109 (ix a1) 0) fun m_130 => bd (f_M_lay_L134 N a1 a2 a3 x_67 0 m_130) fun y_134 m_134 => some (x_67, m_134) else if a2 = 2 then if inb a3 4 = true then lt (mst m_75 108 (ix a1) (m_75 105 (ix a3))) fun m_110 => if a2 = 1 then bp (f_M_worthOf a3 m_110) fun r_123 => lt (mst m_110 109 (ix a1) r_123) fun m_130 => bd (f_M_lay_L134 N a1 a2 a3 x_67 0 m_130) fun y_134 m_134 => some (x_67, m_134) else lt (mst m_110 109 (ix a1) 0) fun m_130 => bd (f_M_lay_L134 N a1 a2 a3 x_67 0 m_130) fun y_134 m_134 => some (x_67, m_134) else none else lt (mst m_75 108 (ix a1) a3) fun m_110 => if a2 = 1 then bp (f_M_worthOf a3 m_110) fun r_123 => lt (mst m_110 109 (ix a1) r_123) fun m_130 => bd (f_M_lay_L134 N a1 a2 a3 x_67 0 m_130) fun y_134 m_134 => some (x_67, m_134) else lt (mst m_110 109 (ix a1) 0) fun m_130 => bd (f_M_lay_L134 N a1 a2 a3 x_67 0 m_130) fun y_134 m_134 => some (x_67, m_134) else none else if a2 = 2 then if inb a3 4 = true then if 0 ≤ mem 104 (ix a3) then if inb a1 5 = true then lt (mem 107 (ix a1)) fun x_67 => lt (mst mem 107 (ix a1) a2) fun m_75 => if a2 = 1 then bp (f_M_of a3 0 m_75) fun r_89 => lt (mst m_75 108 (ix a1) r_89) fun m_110 => if a2 = 1 then bp (f_M_worthOf a3 m_110) fun r_123 => lt (mst m_110 109 (ix a1) r_123) fun m_130 => bd (f_M_lay_L134 N a1 a2 a3 x_67 0 m_130) fun y_134 m_134 => some (x_67, m_134) else lt (mst m_110 109 (ix a1) 0) fun m_130 => bd (f_M_lay_L134 N a1 a2 a3 x_67 0 m_130) fun y_134 m_134 => some (x_67, m_134) else lt (mst m_75 108 (ix a1) (if a2 = 2 then m_75 105 (ix a3) else a3)) fun m_110 => if a2 = 1 then bp (f_M_worthOf a3 m_110) fun r_123 => lt (mst m_110 109 (ix a1) r_123) fun m_130 => bd (f_M_lay_L134 N a1 a2 a3 x_67 0 m_130) fun y_134 m_134 => some (x_67, m_134) else lt (mst m_110 109 (ix a1) 0) fun m_130 => bd (f_M_lay_L134 N a1 a2 a3 x_67 0 m_130) fun y_134 m_134 => some (x_67, m_134) else none else some ((-1000000011), mem) else none else if inb a1 5 = true then lt (mem 107 (ix a1)) fun x_67 => lt (mst mem 107 (ix a1) a2) fun m_75 => if a2 = 1 then bp (f_M_of a3 0 m_75) fun r_89 => lt (mst m_75 108 (ix a1) r_89) fun m_110 => if a2 = 1 then bp (f_M_worthOf a3 m_110) fun r_123 => lt (mst m_110 109 (ix a1) r_123) fun m_130 => bd (f_M_lay_L134 N a1 a2 a3 x_67 0 m_130) fun y_134 m_134 => some (x_67, m_134) else lt (mst m_110 109 (ix a1) 0) fun m_130 => bd (f_M_lay_L134 N a1 a2 a3 x_67 0 m_130) fun y_134 m_134 => some (x_67, m_134) else if a2 = 2 then if inb a3 4 = true then lt (mst m_75 108 (ix a1) (m_75 105 (ix a3))) fun m_110 => if a2 = 1 then bp (f_M_worthOf a3 m_110) fun r_123 => lt (mst m_110 109 (ix a1) r_123) fun m_130 => bd (f_M_lay_L134 N a1 a2 a3 x_67 0 m_130) fun y_134 m_134 => some (x_67, m_134) else lt (mst m_110 109 (ix a1) 0) fun m_130 => bd (f_M_lay_L134 N a1 a2 a3 x_67 0 m_130) fun y_134 m_134 => some (x_67, m_134) else none else lt (mst m_75 108 (ix a1) a3) fun m_110 => if a2 = 1 then bp (f_M_worthOf a3 m_110) fun r_123 => lt (mst m_110 109 (ix a1) r_123) fun m_130 => bd (f_M_lay_L134 N a1 a2 a3 x_67 0 m_130) fun y_134 m_134 => some (x_67, m_134) else lt (mst m_110 109 (ix a1) 0) fun m_130 => bd (f_M_lay_L134 N a1 a2 a3 x_67 0 m_130) fun y_134 m_134 => some (x_67, m_134) else none else if a2 = 2 then bp (f_M_isSheet a3) fun r_35 => if r_35 = 0 then some ((-1000000001), mem) else if a2 = 2 then if inb a3 4 = true then if 0 ≤ mem 104 (ix a3) then if inb a1 5 = true then lt (mem 107 (ix a1)) fun x_67 => lt (mst mem 107 (ix a1) a2) fun m_75 => if a2 = 1 then bp (f_M_of a3 0 m_75) fun r_89 => lt (mst m_75 108 (ix a1) r_89) fun m_110 => if a2 = 1 then bp (f_M_worthOf a3 m_110) fun r_123 => lt (mst m_110 109 (ix a1) r_123) fun m_130 => bd (f_M_lay_L134 N a1 a2 a3 x_67 0 m_130) fun y_134 m_134 => some (x_67, m_134) else lt (mst m_110 109 (ix a1) 0) fun m_130 => bd (f_M_lay_L134 N a1 a2 a3 x_67 0 m_130) fun y_134 m_134 => some (x_67, m_134) else lt (mst m_75 108 (ix a1) (if a2 = 2 then m_75 105 (ix a3) else a3)) fun m_110 => if a2 = 1 then bp (f_M_worthOf a3 m_110) fun r_123 => lt (mst m_110 109 (ix a1) r_123) fun m_130 => bd (f_M_lay_L134 N a1 a2 a3 x_67 0 m_130) fun y_134 m_134 => some (x_67, m_134) else lt (mst m_110 109 (ix a1) 0) fun m_130 => bd (f_M_lay_L134 N a1 a2 a3 x_67 0 m_130) fun y_134 m_134 => some (x_67, m_134) else none else some ((-1000000011), mem) else none else if inb a1 5 = true then lt (mem 107 (ix a1)) fun x_67 => lt (mst mem 107 (ix a1) a2) fun m_75 => if a2 = 1 then bp (f_M_of a3 0 m_75) fun r_89 => lt (mst m_75 108 (ix a1) r_89) fun m_110 => if a2 = 1 then bp (f_M_worthOf a3 m_110) fun r_123 => lt (mst m_110 109 (ix a1) r_123) fun m_130 => bd (f_M_lay_L134 N a1 a2 a3 x_67 0 m_130) fun y_134 m_134 => some (x_67, m_134) else lt (mst m_110 109 (ix a1) 0) fun m_130 => bd (f_M_lay_L134 N a1 a2 a3 x_67 0 m_130) fun y_134 m_134 => some (x_67, m_134) else if a2 = 2 then if inb a3 4 = true then lt (mst m_75 108 (ix a1) (m_75 105 (ix a3))) fun m_110 => if a2 = 1 then bp (f_M_worthOf a3 m_110) fun r_123 => lt (mst m_110 109 (ix a1) r_123) fun m_130 => bd (f_M_lay_L134 N a1 a2 a3 x_67 0 m_130) fun y_134 m_134 => some (x_67, m_134) else lt (mst m_110 109 (ix a1) 0) fun m_130 => bd (f_M_lay_L134 N a1 a2 a3 x_67 0 m_130) fun y_134 m_134 => some (x_67, m_134) else none else lt (mst m_75 108 (ix a1) a3) fun m_110 => if a2 = 1 then bp (f_M_worthOf a3 m_110) fun r_123 => lt (mst m_110 109 (ix a1) r_123) fun m_130 => bd (f_M_lay_L134 N a1 a2 a3 x_67 0 m_130) fun y_134 m_134 => some (x_67, m_134) else lt (mst m_110 109 (ix a1) 0) fun m_130 => bd (f_M_lay_L134 N a1 a2 a3 x_67 0 m_130) fun y_134 m_134 => some (x_67, m_134) else none else if a2 = 2 then if inb a3 4 = true then if 0 ≤ mem 104 (ix a3) then if inb a1 5 = true then lt (mem 107 (ix a1)) fun x_67 => lt (mst mem 107 (ix a1) a2) fun m_75 => if a2 = 1 then bp (f_M_of a3 0 m_75) fun r_89 => lt (mst m_75 108 (ix a1) r_89) fun m_110 => if a2 = 1 then bp (f_M_worthOf a3 m_110) fun r_123 => lt (mst m_110 109 (ix a1) r_123) fun m_130 => bd (f_M_lay_L134 N a1 a2 a3 x_67 0 m_130) fun y_134 m_134 => some (x_67, m_134) else lt (mst m_110 109 (ix a1) 0) fun m_130 => bd (f_M_lay_L134 N a1 a2 a3 x_67 0 m_130) fun y_134 m_134 => some (x_67, m_134) else lt (mst m_75 108 (ix a1) (if a2 = 2 then m_75 105 (ix a3) else a3)) fun m_110 => if a2 = 1 then bp (f_M_worthOf a3 m_110) fun r_123 => lt (mst m_110 109 (ix a1) r_123) fun m_130 => bd (f_M_lay_L134 N a1 a2 a3 x_67 0 m_130) fun y_134 m_134 => some (x_67, m_134) else lt (mst m_110 109 (ix a1) 0) fun m_130 => bd (f_M_lay_L134 N a1 a2 a3 x_67 0 m_130) fun y_134 m_134 => some (x_67, m_134) else none else some ((-1000000011), mem) else none else if inb a1 5 = true then lt (mem 107 (ix a1)) fun x_67 => lt (mst mem 107 (ix a1) a2) fun m_75 => if a2 = 1 then bp (f_M_of a3 0 m_75) fun r_89 => lt (mst m_75 108 (ix a1) r_89) fun m_110 => if a2 = 1 then bp (f_M_worthOf a3 m_110) fun r_123 => lt (mst m_110 109 (ix a1) r_123) fun m_130 => bd (f_M_lay_L134 N a1 a2 a3 x_67 0 m_130) fun y_134 m_134 => some (x_67, m_134) else lt (mst m_110 109 (ix a1) 0) fun m_130 => bd (f_M_lay_L134 N a1 a2 a3 x_67 0 m_130) fun y_134 m_134 => some (x_67, m_134) else if a2 = 2 then if inb a3 4 = true then lt (mst m_75 108 (ix a1) (m_75 105 (ix a3))) fun m_110 => if a2 = 1 then bp (f_M_worthOf a3 m_110) fun r_123 => lt (mst m_110 109 (ix a1) r_123) fun m_130 => bd (f_M_lay_L134 N a1 a2 a3 x_67 0 m_130) fun y_134 m_134 => some (x_67, m_134) else lt (mst m_110 109 (ix a1) 0) fun m_130 => bd (f_M_lay_L134 N a1 a2 a3 x_67 0 m_130) fun y_134 m_134 => some (x_67, m_134) else none else lt (mst m_75 108 (ix a1) a3) fun m_110 => if a2 = 1 then bp (f_M_worthOf a3 m_110) fun r_123 => lt (mst m_110 109 (ix a1) r_123) fun m_130 => bd (f_M_lay_L134 N a1 a2 a3 x_67 0 m_130) fun y_134 m_134 => some (x_67, m_134) else lt (mst m_110 109 (ix a1) 0) fun m_130 => bd (f_M_lay_L134 N a1 a2 a3 x_67 0 m_130) fun y_134 m_134 => some (x_67, m_134) else none
theorem L_M_lay_134 {X : Cx} {E : En} (S : Std X E prog_9_method_77_code R6 6 2)  : ∀ (n : Nat) (b1 : Int32) (b2 : Int32) (b3 : Int32) (b4 : Int32) (b5 : Int32) (mem : Mm) (z : Int32) (m2 : Mm), f_M_lay_L134 n b1 b2 b3 b4 b5 mem = some (z, m2) → J X E 6 176 [(0, .ref (eb E + 91)), (1, .int b1), (2, .int b2), (3, .int b3), (4, .int b4), (5, .int z)] [] SH m2 → J X E 6 134 [(0, .ref (eb E + 91)), (1, .int b1), (2, .int b2), (3, .int b3), (4, .int b4), (5, .int b5)] [] SH mem := by
  intro n
  induction n with
  | zero =>
    intro b1 b2 b3 b4 b5 mem z m2 h hk; cases h
  | succ n ih =>
    intro b1 b2 b3 b4 b5 mem z m2 h hk
    rw [f_M_lay_L134] at h
    refine j_iload S D_M_lay_134 5 rfl ?_
    refine j_bipush S D_M_lay_136 cb_24 ?_
    refine j_icmp_ge S D_M_lay_138 (fun c_138 => ?_) (fun c_138 => ?_)
    · have h := ifT c_138 h
      cases h
      exact j_locals [0, 1, 2, 3, 4, 5] rfl hk
    · have h := ifF c_138 h
      refine j_iload_n S D_M_lay_141 2 rfl rfl ?_
      refine j_iconst S D_M_lay_142 ci_2 ?_
      refine j_icmp_ne S D_M_lay_143 (fun c_143 => ?_) (fun c_143 => ?_)
      · have h := ifF c_143 h
        cases h
        exact j_locals [0, 1, 2, 3, 4, 5] rfl hk
      · have h := ifT c_143 h
        refine j_aload_n S D_M_lay_146 0 rfl rfl ?_
        refine j_getR S D_M_lay_147 fl_R6_70 sh_Mod rfl ?_
        refine j_bipush S D_M_lay_150 cb_24 ?_
        refine j_iload_n S D_M_lay_152 1 rfl rfl ?_
        refine j_imul S D_M_lay_153 ?_
        refine j_iload S D_M_lay_154 5 rfl ?_
        refine j_iadd S D_M_lay_156 ?_
        refine j_aload_n S D_M_lay_157 0 rfl rfl ?_
        refine j_getR S D_M_lay_158 fl_R6_58 sh_Mod rfl ?_
        refine j_bipush S D_M_lay_161 cb_24 ?_
        refine j_iload_n S D_M_lay_163 3 rfl rfl ?_
        refine j_imul S D_M_lay_164 ?_
        refine j_iload S D_M_lay_165 5 rfl ?_
        refine j_iadd S D_M_lay_167 ?_
        obtain ⟨g_168, h⟩ := gdE h
        refine j_iald S D_M_lay_168 sh_106 g_168 ?_
        obtain ⟨g_169, h⟩ := gdE h
        obtain ⟨m_169, hm_169, h⟩ := ltE h
        refine j_iast S D_M_lay_169 sh_110 g_169 ?_
        refine j_mem hm_169 ?_
        refine j_iinc S D_M_lay_170 5 rfl (congrArg (fun z => b5 + z) ci_1) (lv := [(5, .int (b5 + 1)), (0, .ref (eb E + 91)), (1, .int b1), (2, .int b2), (3, .int b3), (4, .int b4)]) rfl (Nat.le_of_ble_eq_true rfl) ?_
        refine j_goto S D_M_lay_173 ?_
        refine j_locals [1, 2, 3, 4, 5, 0] rfl (ih b1 b2 b3 b4 (b5 + 1) m_169 _ _ h hk)
theorem c_M_lay (l : Launch) (E : En) (N : Nat) (a1 : Int32) (a2 : Int32) (a3 : Int32) {mem : Mm} {r : Int32} {m2 : Mm} (h : f_M_lay N a1 a2 a3 mem = some (r, m2)) : CtI l E 2 y_M_lay prog_9_method_77_code 6 (some .int) [.ref (eb E + 91), .int a1, .int a2, .int a3] SH mem r m2 := by
  refine mk_CtI ⟨by decide, (Nat.le_of_ble_eq_true rfl)⟩ (fun X S hl hR => ?_)
  have S : Std X E prog_9_method_77_code R6 6 2 := S
  show J X E 6 0 [(0, .ref (eb E + 91)), (1, .int a1), (2, .int a2), (3, .int a3)] [] SH mem
  unfold f_M_lay at h
  refine j_iload_n S D_M_lay_0 1 rfl rfl ?_
  obtain ⟨r_1, e_1, h⟩ := bpE h
  refine j_callSI (As := [.int a1]) S D_M_lay_1 ms_R6_247 (c_M_isSlot (cxL X) E a1 (mem := mem) e_1) (by decide) rfl rfl (Nat.le_of_ble_eq_true rfl) ?_
  refine j_if_eq S D_M_lay_4 (fun c_4 => ?_) (fun c_4 => ?_)
  · have h := ifT c_4 h
    refine j_ldc S D_M_lay_41 co_R6_87 ?_
    exact rtM hR h _ _ D_M_lay_43
  · have h := ifF c_4 h
    refine j_iload_n S D_M_lay_7 2 rfl rfl ?_
    refine j_iconst S D_M_lay_8 ci_0 ?_
    refine j_iconst S D_M_lay_9 ci_3 ?_
    obtain ⟨r_10, e_10, h⟩ := bpE h
    refine j_callSI (As := [.int a2, .int 0, .int 3]) S D_M_lay_10 ms_R6_79 (c_M_in (cxL X) E a2 0 3 (mem := mem) e_10) (by decide) rfl rfl (Nat.le_of_ble_eq_true rfl) ?_
    refine j_if_eq S D_M_lay_13 (fun c_13 => ?_) (fun c_13 => ?_)
    · have h := ifT c_13 h
      refine j_ldc S D_M_lay_41 co_R6_87 ?_
      exact rtM hR h _ _ D_M_lay_43
    · have h := ifF c_13 h
      refine j_iload_n S D_M_lay_16 2 rfl rfl ?_
      refine j_iconst S D_M_lay_17 ci_1 ?_
      refine j_icmp_ne S D_M_lay_18 (fun c_18 => ?_) (fun c_18 => ?_)
      · have h := ifF c_18 h
        refine j_iload_n S D_M_lay_29 2 rfl rfl ?_
        refine j_iconst S D_M_lay_30 ci_2 ?_
        refine j_icmp_ne S D_M_lay_31 (fun c_31 => ?_) (fun c_31 => ?_)
        · have h := ifF c_31 h
          refine j_iload_n S D_M_lay_44 2 rfl rfl ?_
          refine j_iconst S D_M_lay_45 ci_2 ?_
          refine j_icmp_ne S D_M_lay_46 (fun c_46 => ?_) (fun c_46 => ?_)
          · have h := ifF c_46 h
            refine j_aload_n S D_M_lay_61 0 rfl rfl ?_
            refine j_getR S D_M_lay_62 fl_R6_61 sh_Mod rfl ?_
            refine j_iload_n S D_M_lay_65 1 rfl rfl ?_
            obtain ⟨g_66, h⟩ := gdE h
            refine j_iald S D_M_lay_66 sh_107 g_66 ?_
            obtain ⟨x_67, hx_67, h⟩ := ltE h
            refine j_nm hx_67 ?_
            refine j_istore S D_M_lay_67 (lv := [(4, .int x_67), (0, .ref (eb E + 91)), (1, .int a1), (2, .int a2), (3, .int a3)]) rfl (Nat.le_of_ble_eq_true rfl) ?_
            refine j_aload_n S D_M_lay_69 1 rfl rfl ?_
            refine j_getR S D_M_lay_70 fl_R6_61 sh_Mod rfl ?_
            refine j_iload_n S D_M_lay_73 2 rfl rfl ?_
            refine j_iload_n S D_M_lay_74 3 rfl rfl ?_
            obtain ⟨m_75, hm_75, h⟩ := ltE h
            refine j_iast S D_M_lay_75 sh_107 g_66 ?_
            refine j_mem hm_75 ?_
            refine j_aload_n S D_M_lay_76 1 rfl rfl ?_
            refine j_getR S D_M_lay_77 fl_R6_64 sh_Mod rfl ?_
            refine j_iload_n S D_M_lay_80 2 rfl rfl ?_
            refine j_iload_n S D_M_lay_81 3 rfl rfl ?_
            refine j_iconst S D_M_lay_82 ci_1 ?_
            refine j_icmp_ne S D_M_lay_83 (fun c_83 => ?_) (fun c_83 => ?_)
            · have h := ifF c_83 h
              refine j_iload_n S D_M_lay_95 3 rfl rfl ?_
              refine j_iconst S D_M_lay_96 ci_2 ?_
              refine j_icmp_ne S D_M_lay_97 (fun c_97 => ?_) (fun c_97 => ?_)
              · have h := ifF c_97 h
                refine j_iload_n S D_M_lay_109 4 rfl rfl ?_
                obtain ⟨m_110, hm_110, h⟩ := ltE h
                refine j_iast S D_M_lay_110 sh_108 g_66 ?_
                refine j_mem hm_110 ?_
                refine j_aload_n S D_M_lay_111 1 rfl rfl ?_
                refine j_getR S D_M_lay_112 fl_R6_67 sh_Mod rfl ?_
                refine j_iload_n S D_M_lay_115 2 rfl rfl ?_
                refine j_iload_n S D_M_lay_116 3 rfl rfl ?_
                refine j_iconst S D_M_lay_117 ci_1 ?_
                refine j_icmp_ne S D_M_lay_118 (fun c_118 => ?_) (fun c_118 => ?_)
                · have h := ifF c_118 h
                  refine j_iconst S D_M_lay_129 ci_0 ?_
                  obtain ⟨m_130, hm_130, h⟩ := ltE h
                  refine j_iast S D_M_lay_130 sh_109 g_66 ?_
                  refine j_mem hm_130 ?_
                  refine j_iconst S D_M_lay_131 ci_0 ?_
                  refine j_istore S D_M_lay_132 (lv := [(5, .int 0), (4, .int x_67), (0, .ref (eb E + 91)), (1, .int a1), (2, .int a2), (3, .int a3)]) rfl (Nat.le_of_ble_eq_true rfl) ?_
                  refine j_locals [2, 3, 4, 5, 1, 0] rfl ?_
                  obtain ⟨y_134, m_134, e_134, h⟩ := bdE h
                  refine L_M_lay_134 S  N a1 a2 a3 x_67 0 m_130 _ _ e_134 ?_
                  refine j_iload S D_M_lay_176 4 rfl ?_
                  exact rtM hR h _ _ D_M_lay_178
                · have h := ifT c_118 h
                  refine j_aload_n S D_M_lay_121 1 rfl rfl ?_
                  refine j_iload_n S D_M_lay_122 4 rfl rfl ?_
                  obtain ⟨r_123, e_123, h⟩ := bpE h
                  refine j_callVI (As := [.int a3]) S D_M_lay_123 mv_R6_100 (c_M_worthOf (cxL X) E a3 e_123) (by decide) sh_Mod rfl rfl rfl rfl (Nat.le_of_ble_eq_true rfl) ?_
                  refine j_goto S D_M_lay_126 ?_
                  obtain ⟨m_130, hm_130, h⟩ := ltE h
                  refine j_iast S D_M_lay_130 sh_109 g_66 ?_
                  refine j_mem hm_130 ?_
                  refine j_iconst S D_M_lay_131 ci_0 ?_
                  refine j_istore S D_M_lay_132 (lv := [(5, .int 0), (4, .int x_67), (0, .ref (eb E + 91)), (1, .int a1), (2, .int a2), (3, .int a3)]) rfl (Nat.le_of_ble_eq_true rfl) ?_
                  refine j_locals [2, 3, 4, 5, 1, 0] rfl ?_
                  obtain ⟨y_134, m_134, e_134, h⟩ := bdE h
                  refine L_M_lay_134 S  N a1 a2 a3 x_67 0 m_130 _ _ e_134 ?_
                  refine j_iload S D_M_lay_176 4 rfl ?_
                  exact rtM hR h _ _ D_M_lay_178
              · have h := ifT c_97 h
                refine j_aload_n S D_M_lay_100 1 rfl rfl ?_
                refine j_getR S D_M_lay_101 fl_R6_55 sh_Mod rfl ?_
                refine j_iload_n S D_M_lay_104 4 rfl rfl ?_
                obtain ⟨g_105, h⟩ := gdE h
                refine j_iald S D_M_lay_105 sh_105 g_105 ?_
                refine j_goto S D_M_lay_106 ?_
                obtain ⟨m_110, hm_110, h⟩ := ltE h
                refine j_iast S D_M_lay_110 sh_108 g_66 ?_
                refine j_mem hm_110 ?_
                refine j_aload_n S D_M_lay_111 1 rfl rfl ?_
                refine j_getR S D_M_lay_112 fl_R6_67 sh_Mod rfl ?_
                refine j_iload_n S D_M_lay_115 2 rfl rfl ?_
                refine j_iload_n S D_M_lay_116 3 rfl rfl ?_
                refine j_iconst S D_M_lay_117 ci_1 ?_
                refine j_icmp_ne S D_M_lay_118 (fun c_118 => ?_) (fun c_118 => ?_)
                · have h := ifF c_118 h
                  refine j_iconst S D_M_lay_129 ci_0 ?_
                  obtain ⟨m_130, hm_130, h⟩ := ltE h
                  refine j_iast S D_M_lay_130 sh_109 g_66 ?_
                  refine j_mem hm_130 ?_
                  refine j_iconst S D_M_lay_131 ci_0 ?_
                  refine j_istore S D_M_lay_132 (lv := [(5, .int 0), (4, .int x_67), (0, .ref (eb E + 91)), (1, .int a1), (2, .int a2), (3, .int a3)]) rfl (Nat.le_of_ble_eq_true rfl) ?_
                  refine j_locals [2, 3, 4, 5, 1, 0] rfl ?_
                  obtain ⟨y_134, m_134, e_134, h⟩ := bdE h
                  refine L_M_lay_134 S  N a1 a2 a3 x_67 0 m_130 _ _ e_134 ?_
                  refine j_iload S D_M_lay_176 4 rfl ?_
                  exact rtM hR h _ _ D_M_lay_178
                · have h := ifT c_118 h
                  refine j_aload_n S D_M_lay_121 1 rfl rfl ?_
                  refine j_iload_n S D_M_lay_122 4 rfl rfl ?_
                  obtain ⟨r_123, e_123, h⟩ := bpE h
                  refine j_callVI (As := [.int a3]) S D_M_lay_123 mv_R6_100 (c_M_worthOf (cxL X) E a3 e_123) (by decide) sh_Mod rfl rfl rfl rfl (Nat.le_of_ble_eq_true rfl) ?_
                  refine j_goto S D_M_lay_126 ?_
                  obtain ⟨m_130, hm_130, h⟩ := ltE h
                  refine j_iast S D_M_lay_130 sh_109 g_66 ?_
                  refine j_mem hm_130 ?_
                  refine j_iconst S D_M_lay_131 ci_0 ?_
                  refine j_istore S D_M_lay_132 (lv := [(5, .int 0), (4, .int x_67), (0, .ref (eb E + 91)), (1, .int a1), (2, .int a2), (3, .int a3)]) rfl (Nat.le_of_ble_eq_true rfl) ?_
                  refine j_locals [2, 3, 4, 5, 1, 0] rfl ?_
                  obtain ⟨y_134, m_134, e_134, h⟩ := bdE h
                  refine L_M_lay_134 S  N a1 a2 a3 x_67 0 m_130 _ _ e_134 ?_
                  refine j_iload S D_M_lay_176 4 rfl ?_
                  exact rtM hR h _ _ D_M_lay_178
            · have h := ifT c_83 h
              refine j_aload_n S D_M_lay_86 1 rfl rfl ?_
              refine j_iload_n S D_M_lay_87 4 rfl rfl ?_
              refine j_iconst S D_M_lay_88 ci_0 ?_
              obtain ⟨r_89, e_89, h⟩ := bpE h
              refine j_callVI (As := [.int a3, .int 0]) S D_M_lay_89 mv_R6_93 (c_M_of (cxL X) E a3 0 e_89) (by decide) sh_Mod rfl rfl rfl rfl (Nat.le_of_ble_eq_true rfl) ?_
              refine j_goto S D_M_lay_92 ?_
              obtain ⟨m_110, hm_110, h⟩ := ltE h
              refine j_iast S D_M_lay_110 sh_108 g_66 ?_
              refine j_mem hm_110 ?_
              refine j_aload_n S D_M_lay_111 1 rfl rfl ?_
              refine j_getR S D_M_lay_112 fl_R6_67 sh_Mod rfl ?_
              refine j_iload_n S D_M_lay_115 2 rfl rfl ?_
              refine j_iload_n S D_M_lay_116 3 rfl rfl ?_
              refine j_iconst S D_M_lay_117 ci_1 ?_
              refine j_icmp_ne S D_M_lay_118 (fun c_118 => ?_) (fun c_118 => ?_)
              · have h := ifF c_118 h
                refine j_iconst S D_M_lay_129 ci_0 ?_
                obtain ⟨m_130, hm_130, h⟩ := ltE h
                refine j_iast S D_M_lay_130 sh_109 g_66 ?_
                refine j_mem hm_130 ?_
                refine j_iconst S D_M_lay_131 ci_0 ?_
                refine j_istore S D_M_lay_132 (lv := [(5, .int 0), (4, .int x_67), (0, .ref (eb E + 91)), (1, .int a1), (2, .int a2), (3, .int a3)]) rfl (Nat.le_of_ble_eq_true rfl) ?_
                refine j_locals [2, 3, 4, 5, 1, 0] rfl ?_
                obtain ⟨y_134, m_134, e_134, h⟩ := bdE h
                refine L_M_lay_134 S  N a1 a2 a3 x_67 0 m_130 _ _ e_134 ?_
                refine j_iload S D_M_lay_176 4 rfl ?_
                exact rtM hR h _ _ D_M_lay_178
              · have h := ifT c_118 h
                refine j_aload_n S D_M_lay_121 1 rfl rfl ?_
                refine j_iload_n S D_M_lay_122 4 rfl rfl ?_
                obtain ⟨r_123, e_123, h⟩ := bpE h
                refine j_callVI (As := [.int a3]) S D_M_lay_123 mv_R6_100 (c_M_worthOf (cxL X) E a3 e_123) (by decide) sh_Mod rfl rfl rfl rfl (Nat.le_of_ble_eq_true rfl) ?_
                refine j_goto S D_M_lay_126 ?_
                obtain ⟨m_130, hm_130, h⟩ := ltE h
                refine j_iast S D_M_lay_130 sh_109 g_66 ?_
                refine j_mem hm_130 ?_
                refine j_iconst S D_M_lay_131 ci_0 ?_
                refine j_istore S D_M_lay_132 (lv := [(5, .int 0), (4, .int x_67), (0, .ref (eb E + 91)), (1, .int a1), (2, .int a2), (3, .int a3)]) rfl (Nat.le_of_ble_eq_true rfl) ?_
                refine j_locals [2, 3, 4, 5, 1, 0] rfl ?_
                obtain ⟨y_134, m_134, e_134, h⟩ := bdE h
                refine L_M_lay_134 S  N a1 a2 a3 x_67 0 m_130 _ _ e_134 ?_
                refine j_iload S D_M_lay_176 4 rfl ?_
                exact rtM hR h _ _ D_M_lay_178
          · have h := ifT c_46 h
            refine j_aload_n S D_M_lay_49 0 rfl rfl ?_
            refine j_getR S D_M_lay_50 fl_R6_52 sh_Mod rfl ?_
            refine j_iload_n S D_M_lay_53 3 rfl rfl ?_
            obtain ⟨g_54, h⟩ := gdE h
            refine j_iald S D_M_lay_54 sh_104 g_54 ?_
            refine j_if_ge S D_M_lay_55 (fun c_55 => ?_) (fun c_55 => ?_)
            · have h := ifT c_55 h
              refine j_aload_n S D_M_lay_61 0 rfl rfl ?_
              refine j_getR S D_M_lay_62 fl_R6_61 sh_Mod rfl ?_
              refine j_iload_n S D_M_lay_65 1 rfl rfl ?_
              obtain ⟨g_66, h⟩ := gdE h
              refine j_iald S D_M_lay_66 sh_107 g_66 ?_
              obtain ⟨x_67, hx_67, h⟩ := ltE h
              refine j_nm hx_67 ?_
              refine j_istore S D_M_lay_67 (lv := [(4, .int x_67), (0, .ref (eb E + 91)), (1, .int a1), (2, .int a2), (3, .int a3)]) rfl (Nat.le_of_ble_eq_true rfl) ?_
              refine j_aload_n S D_M_lay_69 1 rfl rfl ?_
              refine j_getR S D_M_lay_70 fl_R6_61 sh_Mod rfl ?_
              refine j_iload_n S D_M_lay_73 2 rfl rfl ?_
              refine j_iload_n S D_M_lay_74 3 rfl rfl ?_
              obtain ⟨m_75, hm_75, h⟩ := ltE h
              refine j_iast S D_M_lay_75 sh_107 g_66 ?_
              refine j_mem hm_75 ?_
              refine j_aload_n S D_M_lay_76 1 rfl rfl ?_
              refine j_getR S D_M_lay_77 fl_R6_64 sh_Mod rfl ?_
              refine j_iload_n S D_M_lay_80 2 rfl rfl ?_
              refine j_iload_n S D_M_lay_81 3 rfl rfl ?_
              refine j_iconst S D_M_lay_82 ci_1 ?_
              refine j_icmp_ne S D_M_lay_83 (fun c_83 => ?_) (fun c_83 => ?_)
              · have h := ifF c_83 h
                refine j_iload_n S D_M_lay_95 3 rfl rfl ?_
                refine j_iconst S D_M_lay_96 ci_2 ?_
                refine j_dia (P := J X E 6 110 [(4, .int x_67), (0, .ref (eb E + 91)), (1, .int a1), (2, .int a2), (3, .int a3)] [.int (if a2 = 2 then m_75 105 (ix a3) else a3), .int a1, .ref (eb E + 108)] SH m_75) (fun hj => ?_) ?_
                · refine j_icmp_ne S D_M_lay_97 (fun c_97 => ?_) (fun c_97 => ?_)
                  · refine j_iload_n S D_M_lay_109 4 rfl rfl ?_
                    exact j_jnF hj c_97
                  · refine j_aload_n S D_M_lay_100 1 rfl rfl ?_
                    refine j_getR S D_M_lay_101 fl_R6_55 sh_Mod rfl ?_
                    refine j_iload_n S D_M_lay_104 4 rfl rfl ?_
                    refine j_iald S D_M_lay_105 sh_105 g_54 ?_
                    refine j_goto S D_M_lay_106 ?_
                    exact j_jnT hj c_97
                obtain ⟨m_110, hm_110, h⟩ := ltE h
                refine j_iast S D_M_lay_110 sh_108 g_66 ?_
                refine j_mem hm_110 ?_
                refine j_aload_n S D_M_lay_111 1 rfl rfl ?_
                refine j_getR S D_M_lay_112 fl_R6_67 sh_Mod rfl ?_
                refine j_iload_n S D_M_lay_115 2 rfl rfl ?_
                refine j_iload_n S D_M_lay_116 3 rfl rfl ?_
                refine j_iconst S D_M_lay_117 ci_1 ?_
                refine j_icmp_ne S D_M_lay_118 (fun c_118 => ?_) (fun c_118 => ?_)
                · have h := ifF c_118 h
                  refine j_iconst S D_M_lay_129 ci_0 ?_
                  obtain ⟨m_130, hm_130, h⟩ := ltE h
                  refine j_iast S D_M_lay_130 sh_109 g_66 ?_
                  refine j_mem hm_130 ?_
                  refine j_iconst S D_M_lay_131 ci_0 ?_
                  refine j_istore S D_M_lay_132 (lv := [(5, .int 0), (4, .int x_67), (0, .ref (eb E + 91)), (1, .int a1), (2, .int a2), (3, .int a3)]) rfl (Nat.le_of_ble_eq_true rfl) ?_
                  refine j_locals [2, 3, 4, 5, 1, 0] rfl ?_
                  obtain ⟨y_134, m_134, e_134, h⟩ := bdE h
                  refine L_M_lay_134 S  N a1 a2 a3 x_67 0 m_130 _ _ e_134 ?_
                  refine j_iload S D_M_lay_176 4 rfl ?_
                  exact rtM hR h _ _ D_M_lay_178
                · have h := ifT c_118 h
                  refine j_aload_n S D_M_lay_121 1 rfl rfl ?_
                  refine j_iload_n S D_M_lay_122 4 rfl rfl ?_
                  obtain ⟨r_123, e_123, h⟩ := bpE h
                  refine j_callVI (As := [.int a3]) S D_M_lay_123 mv_R6_100 (c_M_worthOf (cxL X) E a3 e_123) (by decide) sh_Mod rfl rfl rfl rfl (Nat.le_of_ble_eq_true rfl) ?_
                  refine j_goto S D_M_lay_126 ?_
                  obtain ⟨m_130, hm_130, h⟩ := ltE h
                  refine j_iast S D_M_lay_130 sh_109 g_66 ?_
                  refine j_mem hm_130 ?_
                  refine j_iconst S D_M_lay_131 ci_0 ?_
                  refine j_istore S D_M_lay_132 (lv := [(5, .int 0), (4, .int x_67), (0, .ref (eb E + 91)), (1, .int a1), (2, .int a2), (3, .int a3)]) rfl (Nat.le_of_ble_eq_true rfl) ?_
                  refine j_locals [2, 3, 4, 5, 1, 0] rfl ?_
                  obtain ⟨y_134, m_134, e_134, h⟩ := bdE h
                  refine L_M_lay_134 S  N a1 a2 a3 x_67 0 m_130 _ _ e_134 ?_
                  refine j_iload S D_M_lay_176 4 rfl ?_
                  exact rtM hR h _ _ D_M_lay_178
              · have h := ifT c_83 h
                refine j_aload_n S D_M_lay_86 1 rfl rfl ?_
                refine j_iload_n S D_M_lay_87 4 rfl rfl ?_
                refine j_iconst S D_M_lay_88 ci_0 ?_
                obtain ⟨r_89, e_89, h⟩ := bpE h
                refine j_callVI (As := [.int a3, .int 0]) S D_M_lay_89 mv_R6_93 (c_M_of (cxL X) E a3 0 e_89) (by decide) sh_Mod rfl rfl rfl rfl (Nat.le_of_ble_eq_true rfl) ?_
                refine j_goto S D_M_lay_92 ?_
                obtain ⟨m_110, hm_110, h⟩ := ltE h
                refine j_iast S D_M_lay_110 sh_108 g_66 ?_
                refine j_mem hm_110 ?_
                refine j_aload_n S D_M_lay_111 1 rfl rfl ?_
                refine j_getR S D_M_lay_112 fl_R6_67 sh_Mod rfl ?_
                refine j_iload_n S D_M_lay_115 2 rfl rfl ?_
                refine j_iload_n S D_M_lay_116 3 rfl rfl ?_
                refine j_iconst S D_M_lay_117 ci_1 ?_
                refine j_icmp_ne S D_M_lay_118 (fun c_118 => ?_) (fun c_118 => ?_)
                · have h := ifF c_118 h
                  refine j_iconst S D_M_lay_129 ci_0 ?_
                  obtain ⟨m_130, hm_130, h⟩ := ltE h
                  refine j_iast S D_M_lay_130 sh_109 g_66 ?_
                  refine j_mem hm_130 ?_
                  refine j_iconst S D_M_lay_131 ci_0 ?_
                  refine j_istore S D_M_lay_132 (lv := [(5, .int 0), (4, .int x_67), (0, .ref (eb E + 91)), (1, .int a1), (2, .int a2), (3, .int a3)]) rfl (Nat.le_of_ble_eq_true rfl) ?_
                  refine j_locals [2, 3, 4, 5, 1, 0] rfl ?_
                  obtain ⟨y_134, m_134, e_134, h⟩ := bdE h
                  refine L_M_lay_134 S  N a1 a2 a3 x_67 0 m_130 _ _ e_134 ?_
                  refine j_iload S D_M_lay_176 4 rfl ?_
                  exact rtM hR h _ _ D_M_lay_178
                · have h := ifT c_118 h
                  refine j_aload_n S D_M_lay_121 1 rfl rfl ?_
                  refine j_iload_n S D_M_lay_122 4 rfl rfl ?_
                  obtain ⟨r_123, e_123, h⟩ := bpE h
                  refine j_callVI (As := [.int a3]) S D_M_lay_123 mv_R6_100 (c_M_worthOf (cxL X) E a3 e_123) (by decide) sh_Mod rfl rfl rfl rfl (Nat.le_of_ble_eq_true rfl) ?_
                  refine j_goto S D_M_lay_126 ?_
                  obtain ⟨m_130, hm_130, h⟩ := ltE h
                  refine j_iast S D_M_lay_130 sh_109 g_66 ?_
                  refine j_mem hm_130 ?_
                  refine j_iconst S D_M_lay_131 ci_0 ?_
                  refine j_istore S D_M_lay_132 (lv := [(5, .int 0), (4, .int x_67), (0, .ref (eb E + 91)), (1, .int a1), (2, .int a2), (3, .int a3)]) rfl (Nat.le_of_ble_eq_true rfl) ?_
                  refine j_locals [2, 3, 4, 5, 1, 0] rfl ?_
                  obtain ⟨y_134, m_134, e_134, h⟩ := bdE h
                  refine L_M_lay_134 S  N a1 a2 a3 x_67 0 m_130 _ _ e_134 ?_
                  refine j_iload S D_M_lay_176 4 rfl ?_
                  exact rtM hR h _ _ D_M_lay_178
            · have h := ifF c_55 h
              refine j_ldc S D_M_lay_58 co_R6_172 ?_
              exact rtM hR h _ _ D_M_lay_60
        · have h := ifT c_31 h
          refine j_iload_n S D_M_lay_34 3 rfl rfl ?_
          obtain ⟨r_35, e_35, h⟩ := bpE h
          refine j_callSI (As := [.int a3]) S D_M_lay_35 ms_R6_169 (c_M_isSheet (cxL X) E a3 (mem := mem) e_35) (by decide) rfl rfl (Nat.le_of_ble_eq_true rfl) ?_
          refine j_if_ne S D_M_lay_38 (fun c_38 => ?_) (fun c_38 => ?_)
          · have h := ifF c_38 h
            refine j_iload_n S D_M_lay_44 2 rfl rfl ?_
            refine j_iconst S D_M_lay_45 ci_2 ?_
            refine j_icmp_ne S D_M_lay_46 (fun c_46 => ?_) (fun c_46 => ?_)
            · have h := ifF c_46 h
              refine j_aload_n S D_M_lay_61 0 rfl rfl ?_
              refine j_getR S D_M_lay_62 fl_R6_61 sh_Mod rfl ?_
              refine j_iload_n S D_M_lay_65 1 rfl rfl ?_
              obtain ⟨g_66, h⟩ := gdE h
              refine j_iald S D_M_lay_66 sh_107 g_66 ?_
              obtain ⟨x_67, hx_67, h⟩ := ltE h
              refine j_nm hx_67 ?_
              refine j_istore S D_M_lay_67 (lv := [(4, .int x_67), (0, .ref (eb E + 91)), (1, .int a1), (2, .int a2), (3, .int a3)]) rfl (Nat.le_of_ble_eq_true rfl) ?_
              refine j_aload_n S D_M_lay_69 1 rfl rfl ?_
              refine j_getR S D_M_lay_70 fl_R6_61 sh_Mod rfl ?_
              refine j_iload_n S D_M_lay_73 2 rfl rfl ?_
              refine j_iload_n S D_M_lay_74 3 rfl rfl ?_
              obtain ⟨m_75, hm_75, h⟩ := ltE h
              refine j_iast S D_M_lay_75 sh_107 g_66 ?_
              refine j_mem hm_75 ?_
              refine j_aload_n S D_M_lay_76 1 rfl rfl ?_
              refine j_getR S D_M_lay_77 fl_R6_64 sh_Mod rfl ?_
              refine j_iload_n S D_M_lay_80 2 rfl rfl ?_
              refine j_iload_n S D_M_lay_81 3 rfl rfl ?_
              refine j_iconst S D_M_lay_82 ci_1 ?_
              refine j_icmp_ne S D_M_lay_83 (fun c_83 => ?_) (fun c_83 => ?_)
              · have h := ifF c_83 h
                refine j_iload_n S D_M_lay_95 3 rfl rfl ?_
                refine j_iconst S D_M_lay_96 ci_2 ?_
                refine j_icmp_ne S D_M_lay_97 (fun c_97 => ?_) (fun c_97 => ?_)
                · have h := ifF c_97 h
                  refine j_iload_n S D_M_lay_109 4 rfl rfl ?_
                  obtain ⟨m_110, hm_110, h⟩ := ltE h
                  refine j_iast S D_M_lay_110 sh_108 g_66 ?_
                  refine j_mem hm_110 ?_
                  refine j_aload_n S D_M_lay_111 1 rfl rfl ?_
                  refine j_getR S D_M_lay_112 fl_R6_67 sh_Mod rfl ?_
                  refine j_iload_n S D_M_lay_115 2 rfl rfl ?_
                  refine j_iload_n S D_M_lay_116 3 rfl rfl ?_
                  refine j_iconst S D_M_lay_117 ci_1 ?_
                  refine j_icmp_ne S D_M_lay_118 (fun c_118 => ?_) (fun c_118 => ?_)
                  · have h := ifF c_118 h
                    refine j_iconst S D_M_lay_129 ci_0 ?_
                    obtain ⟨m_130, hm_130, h⟩ := ltE h
                    refine j_iast S D_M_lay_130 sh_109 g_66 ?_
                    refine j_mem hm_130 ?_
                    refine j_iconst S D_M_lay_131 ci_0 ?_
                    refine j_istore S D_M_lay_132 (lv := [(5, .int 0), (4, .int x_67), (0, .ref (eb E + 91)), (1, .int a1), (2, .int a2), (3, .int a3)]) rfl (Nat.le_of_ble_eq_true rfl) ?_
                    refine j_locals [2, 3, 4, 5, 1, 0] rfl ?_
                    obtain ⟨y_134, m_134, e_134, h⟩ := bdE h
                    refine L_M_lay_134 S  N a1 a2 a3 x_67 0 m_130 _ _ e_134 ?_
                    refine j_iload S D_M_lay_176 4 rfl ?_
                    exact rtM hR h _ _ D_M_lay_178
                  · have h := ifT c_118 h
                    refine j_aload_n S D_M_lay_121 1 rfl rfl ?_
                    refine j_iload_n S D_M_lay_122 4 rfl rfl ?_
                    obtain ⟨r_123, e_123, h⟩ := bpE h
                    refine j_callVI (As := [.int a3]) S D_M_lay_123 mv_R6_100 (c_M_worthOf (cxL X) E a3 e_123) (by decide) sh_Mod rfl rfl rfl rfl (Nat.le_of_ble_eq_true rfl) ?_
                    refine j_goto S D_M_lay_126 ?_
                    obtain ⟨m_130, hm_130, h⟩ := ltE h
                    refine j_iast S D_M_lay_130 sh_109 g_66 ?_
                    refine j_mem hm_130 ?_
                    refine j_iconst S D_M_lay_131 ci_0 ?_
                    refine j_istore S D_M_lay_132 (lv := [(5, .int 0), (4, .int x_67), (0, .ref (eb E + 91)), (1, .int a1), (2, .int a2), (3, .int a3)]) rfl (Nat.le_of_ble_eq_true rfl) ?_
                    refine j_locals [2, 3, 4, 5, 1, 0] rfl ?_
                    obtain ⟨y_134, m_134, e_134, h⟩ := bdE h
                    refine L_M_lay_134 S  N a1 a2 a3 x_67 0 m_130 _ _ e_134 ?_
                    refine j_iload S D_M_lay_176 4 rfl ?_
                    exact rtM hR h _ _ D_M_lay_178
                · have h := ifT c_97 h
                  refine j_aload_n S D_M_lay_100 1 rfl rfl ?_
                  refine j_getR S D_M_lay_101 fl_R6_55 sh_Mod rfl ?_
                  refine j_iload_n S D_M_lay_104 4 rfl rfl ?_
                  obtain ⟨g_105, h⟩ := gdE h
                  refine j_iald S D_M_lay_105 sh_105 g_105 ?_
                  refine j_goto S D_M_lay_106 ?_
                  obtain ⟨m_110, hm_110, h⟩ := ltE h
                  refine j_iast S D_M_lay_110 sh_108 g_66 ?_
                  refine j_mem hm_110 ?_
                  refine j_aload_n S D_M_lay_111 1 rfl rfl ?_
                  refine j_getR S D_M_lay_112 fl_R6_67 sh_Mod rfl ?_
                  refine j_iload_n S D_M_lay_115 2 rfl rfl ?_
                  refine j_iload_n S D_M_lay_116 3 rfl rfl ?_
                  refine j_iconst S D_M_lay_117 ci_1 ?_
                  refine j_icmp_ne S D_M_lay_118 (fun c_118 => ?_) (fun c_118 => ?_)
                  · have h := ifF c_118 h
                    refine j_iconst S D_M_lay_129 ci_0 ?_
                    obtain ⟨m_130, hm_130, h⟩ := ltE h
                    refine j_iast S D_M_lay_130 sh_109 g_66 ?_
                    refine j_mem hm_130 ?_
                    refine j_iconst S D_M_lay_131 ci_0 ?_
                    refine j_istore S D_M_lay_132 (lv := [(5, .int 0), (4, .int x_67), (0, .ref (eb E + 91)), (1, .int a1), (2, .int a2), (3, .int a3)]) rfl (Nat.le_of_ble_eq_true rfl) ?_
                    refine j_locals [2, 3, 4, 5, 1, 0] rfl ?_
                    obtain ⟨y_134, m_134, e_134, h⟩ := bdE h
                    refine L_M_lay_134 S  N a1 a2 a3 x_67 0 m_130 _ _ e_134 ?_
                    refine j_iload S D_M_lay_176 4 rfl ?_
                    exact rtM hR h _ _ D_M_lay_178
                  · have h := ifT c_118 h
                    refine j_aload_n S D_M_lay_121 1 rfl rfl ?_
                    refine j_iload_n S D_M_lay_122 4 rfl rfl ?_
                    obtain ⟨r_123, e_123, h⟩ := bpE h
                    refine j_callVI (As := [.int a3]) S D_M_lay_123 mv_R6_100 (c_M_worthOf (cxL X) E a3 e_123) (by decide) sh_Mod rfl rfl rfl rfl (Nat.le_of_ble_eq_true rfl) ?_
                    refine j_goto S D_M_lay_126 ?_
                    obtain ⟨m_130, hm_130, h⟩ := ltE h
                    refine j_iast S D_M_lay_130 sh_109 g_66 ?_
                    refine j_mem hm_130 ?_
                    refine j_iconst S D_M_lay_131 ci_0 ?_
                    refine j_istore S D_M_lay_132 (lv := [(5, .int 0), (4, .int x_67), (0, .ref (eb E + 91)), (1, .int a1), (2, .int a2), (3, .int a3)]) rfl (Nat.le_of_ble_eq_true rfl) ?_
                    refine j_locals [2, 3, 4, 5, 1, 0] rfl ?_
                    obtain ⟨y_134, m_134, e_134, h⟩ := bdE h
                    refine L_M_lay_134 S  N a1 a2 a3 x_67 0 m_130 _ _ e_134 ?_
                    refine j_iload S D_M_lay_176 4 rfl ?_
                    exact rtM hR h _ _ D_M_lay_178
              · have h := ifT c_83 h
                refine j_aload_n S D_M_lay_86 1 rfl rfl ?_
                refine j_iload_n S D_M_lay_87 4 rfl rfl ?_
                refine j_iconst S D_M_lay_88 ci_0 ?_
                obtain ⟨r_89, e_89, h⟩ := bpE h
                refine j_callVI (As := [.int a3, .int 0]) S D_M_lay_89 mv_R6_93 (c_M_of (cxL X) E a3 0 e_89) (by decide) sh_Mod rfl rfl rfl rfl (Nat.le_of_ble_eq_true rfl) ?_
                refine j_goto S D_M_lay_92 ?_
                obtain ⟨m_110, hm_110, h⟩ := ltE h
                refine j_iast S D_M_lay_110 sh_108 g_66 ?_
                refine j_mem hm_110 ?_
                refine j_aload_n S D_M_lay_111 1 rfl rfl ?_
                refine j_getR S D_M_lay_112 fl_R6_67 sh_Mod rfl ?_
                refine j_iload_n S D_M_lay_115 2 rfl rfl ?_
                refine j_iload_n S D_M_lay_116 3 rfl rfl ?_
                refine j_iconst S D_M_lay_117 ci_1 ?_
                refine j_icmp_ne S D_M_lay_118 (fun c_118 => ?_) (fun c_118 => ?_)
                · have h := ifF c_118 h
                  refine j_iconst S D_M_lay_129 ci_0 ?_
                  obtain ⟨m_130, hm_130, h⟩ := ltE h
                  refine j_iast S D_M_lay_130 sh_109 g_66 ?_
                  refine j_mem hm_130 ?_
                  refine j_iconst S D_M_lay_131 ci_0 ?_
                  refine j_istore S D_M_lay_132 (lv := [(5, .int 0), (4, .int x_67), (0, .ref (eb E + 91)), (1, .int a1), (2, .int a2), (3, .int a3)]) rfl (Nat.le_of_ble_eq_true rfl) ?_
                  refine j_locals [2, 3, 4, 5, 1, 0] rfl ?_
                  obtain ⟨y_134, m_134, e_134, h⟩ := bdE h
                  refine L_M_lay_134 S  N a1 a2 a3 x_67 0 m_130 _ _ e_134 ?_
                  refine j_iload S D_M_lay_176 4 rfl ?_
                  exact rtM hR h _ _ D_M_lay_178
                · have h := ifT c_118 h
                  refine j_aload_n S D_M_lay_121 1 rfl rfl ?_
                  refine j_iload_n S D_M_lay_122 4 rfl rfl ?_
                  obtain ⟨r_123, e_123, h⟩ := bpE h
                  refine j_callVI (As := [.int a3]) S D_M_lay_123 mv_R6_100 (c_M_worthOf (cxL X) E a3 e_123) (by decide) sh_Mod rfl rfl rfl rfl (Nat.le_of_ble_eq_true rfl) ?_
                  refine j_goto S D_M_lay_126 ?_
                  obtain ⟨m_130, hm_130, h⟩ := ltE h
                  refine j_iast S D_M_lay_130 sh_109 g_66 ?_
                  refine j_mem hm_130 ?_
                  refine j_iconst S D_M_lay_131 ci_0 ?_
                  refine j_istore S D_M_lay_132 (lv := [(5, .int 0), (4, .int x_67), (0, .ref (eb E + 91)), (1, .int a1), (2, .int a2), (3, .int a3)]) rfl (Nat.le_of_ble_eq_true rfl) ?_
                  refine j_locals [2, 3, 4, 5, 1, 0] rfl ?_
                  obtain ⟨y_134, m_134, e_134, h⟩ := bdE h
                  refine L_M_lay_134 S  N a1 a2 a3 x_67 0 m_130 _ _ e_134 ?_
                  refine j_iload S D_M_lay_176 4 rfl ?_
                  exact rtM hR h _ _ D_M_lay_178
            · have h := ifT c_46 h
              refine j_aload_n S D_M_lay_49 0 rfl rfl ?_
              refine j_getR S D_M_lay_50 fl_R6_52 sh_Mod rfl ?_
              refine j_iload_n S D_M_lay_53 3 rfl rfl ?_
              obtain ⟨g_54, h⟩ := gdE h
              refine j_iald S D_M_lay_54 sh_104 g_54 ?_
              refine j_if_ge S D_M_lay_55 (fun c_55 => ?_) (fun c_55 => ?_)
              · have h := ifT c_55 h
                refine j_aload_n S D_M_lay_61 0 rfl rfl ?_
                refine j_getR S D_M_lay_62 fl_R6_61 sh_Mod rfl ?_
                refine j_iload_n S D_M_lay_65 1 rfl rfl ?_
                obtain ⟨g_66, h⟩ := gdE h
                refine j_iald S D_M_lay_66 sh_107 g_66 ?_
                obtain ⟨x_67, hx_67, h⟩ := ltE h
                refine j_nm hx_67 ?_
                refine j_istore S D_M_lay_67 (lv := [(4, .int x_67), (0, .ref (eb E + 91)), (1, .int a1), (2, .int a2), (3, .int a3)]) rfl (Nat.le_of_ble_eq_true rfl) ?_
                refine j_aload_n S D_M_lay_69 1 rfl rfl ?_
                refine j_getR S D_M_lay_70 fl_R6_61 sh_Mod rfl ?_
                refine j_iload_n S D_M_lay_73 2 rfl rfl ?_
                refine j_iload_n S D_M_lay_74 3 rfl rfl ?_
                obtain ⟨m_75, hm_75, h⟩ := ltE h
                refine j_iast S D_M_lay_75 sh_107 g_66 ?_
                refine j_mem hm_75 ?_
                refine j_aload_n S D_M_lay_76 1 rfl rfl ?_
                refine j_getR S D_M_lay_77 fl_R6_64 sh_Mod rfl ?_
                refine j_iload_n S D_M_lay_80 2 rfl rfl ?_
                refine j_iload_n S D_M_lay_81 3 rfl rfl ?_
                refine j_iconst S D_M_lay_82 ci_1 ?_
                refine j_icmp_ne S D_M_lay_83 (fun c_83 => ?_) (fun c_83 => ?_)
                · have h := ifF c_83 h
                  refine j_iload_n S D_M_lay_95 3 rfl rfl ?_
                  refine j_iconst S D_M_lay_96 ci_2 ?_
                  refine j_dia (P := J X E 6 110 [(4, .int x_67), (0, .ref (eb E + 91)), (1, .int a1), (2, .int a2), (3, .int a3)] [.int (if a2 = 2 then m_75 105 (ix a3) else a3), .int a1, .ref (eb E + 108)] SH m_75) (fun hj => ?_) ?_
                  · refine j_icmp_ne S D_M_lay_97 (fun c_97 => ?_) (fun c_97 => ?_)
                    · refine j_iload_n S D_M_lay_109 4 rfl rfl ?_
                      exact j_jnF hj c_97
                    · refine j_aload_n S D_M_lay_100 1 rfl rfl ?_
                      refine j_getR S D_M_lay_101 fl_R6_55 sh_Mod rfl ?_
                      refine j_iload_n S D_M_lay_104 4 rfl rfl ?_
                      refine j_iald S D_M_lay_105 sh_105 g_54 ?_
                      refine j_goto S D_M_lay_106 ?_
                      exact j_jnT hj c_97
                  obtain ⟨m_110, hm_110, h⟩ := ltE h
                  refine j_iast S D_M_lay_110 sh_108 g_66 ?_
                  refine j_mem hm_110 ?_
                  refine j_aload_n S D_M_lay_111 1 rfl rfl ?_
                  refine j_getR S D_M_lay_112 fl_R6_67 sh_Mod rfl ?_
                  refine j_iload_n S D_M_lay_115 2 rfl rfl ?_
                  refine j_iload_n S D_M_lay_116 3 rfl rfl ?_
                  refine j_iconst S D_M_lay_117 ci_1 ?_
                  refine j_icmp_ne S D_M_lay_118 (fun c_118 => ?_) (fun c_118 => ?_)
                  · have h := ifF c_118 h
                    refine j_iconst S D_M_lay_129 ci_0 ?_
                    obtain ⟨m_130, hm_130, h⟩ := ltE h
                    refine j_iast S D_M_lay_130 sh_109 g_66 ?_
                    refine j_mem hm_130 ?_
                    refine j_iconst S D_M_lay_131 ci_0 ?_
                    refine j_istore S D_M_lay_132 (lv := [(5, .int 0), (4, .int x_67), (0, .ref (eb E + 91)), (1, .int a1), (2, .int a2), (3, .int a3)]) rfl (Nat.le_of_ble_eq_true rfl) ?_
                    refine j_locals [2, 3, 4, 5, 1, 0] rfl ?_
                    obtain ⟨y_134, m_134, e_134, h⟩ := bdE h
                    refine L_M_lay_134 S  N a1 a2 a3 x_67 0 m_130 _ _ e_134 ?_
                    refine j_iload S D_M_lay_176 4 rfl ?_
                    exact rtM hR h _ _ D_M_lay_178
                  · have h := ifT c_118 h
                    refine j_aload_n S D_M_lay_121 1 rfl rfl ?_
                    refine j_iload_n S D_M_lay_122 4 rfl rfl ?_
                    obtain ⟨r_123, e_123, h⟩ := bpE h
                    refine j_callVI (As := [.int a3]) S D_M_lay_123 mv_R6_100 (c_M_worthOf (cxL X) E a3 e_123) (by decide) sh_Mod rfl rfl rfl rfl (Nat.le_of_ble_eq_true rfl) ?_
                    refine j_goto S D_M_lay_126 ?_
                    obtain ⟨m_130, hm_130, h⟩ := ltE h
                    refine j_iast S D_M_lay_130 sh_109 g_66 ?_
                    refine j_mem hm_130 ?_
                    refine j_iconst S D_M_lay_131 ci_0 ?_
                    refine j_istore S D_M_lay_132 (lv := [(5, .int 0), (4, .int x_67), (0, .ref (eb E + 91)), (1, .int a1), (2, .int a2), (3, .int a3)]) rfl (Nat.le_of_ble_eq_true rfl) ?_
                    refine j_locals [2, 3, 4, 5, 1, 0] rfl ?_
                    obtain ⟨y_134, m_134, e_134, h⟩ := bdE h
                    refine L_M_lay_134 S  N a1 a2 a3 x_67 0 m_130 _ _ e_134 ?_
                    refine j_iload S D_M_lay_176 4 rfl ?_
                    exact rtM hR h _ _ D_M_lay_178
                · have h := ifT c_83 h
                  refine j_aload_n S D_M_lay_86 1 rfl rfl ?_
                  refine j_iload_n S D_M_lay_87 4 rfl rfl ?_
                  refine j_iconst S D_M_lay_88 ci_0 ?_
                  obtain ⟨r_89, e_89, h⟩ := bpE h
                  refine j_callVI (As := [.int a3, .int 0]) S D_M_lay_89 mv_R6_93 (c_M_of (cxL X) E a3 0 e_89) (by decide) sh_Mod rfl rfl rfl rfl (Nat.le_of_ble_eq_true rfl) ?_
                  refine j_goto S D_M_lay_92 ?_
                  obtain ⟨m_110, hm_110, h⟩ := ltE h
                  refine j_iast S D_M_lay_110 sh_108 g_66 ?_
                  refine j_mem hm_110 ?_
                  refine j_aload_n S D_M_lay_111 1 rfl rfl ?_
                  refine j_getR S D_M_lay_112 fl_R6_67 sh_Mod rfl ?_
                  refine j_iload_n S D_M_lay_115 2 rfl rfl ?_
                  refine j_iload_n S D_M_lay_116 3 rfl rfl ?_
                  refine j_iconst S D_M_lay_117 ci_1 ?_
                  refine j_icmp_ne S D_M_lay_118 (fun c_118 => ?_) (fun c_118 => ?_)
                  · have h := ifF c_118 h
                    refine j_iconst S D_M_lay_129 ci_0 ?_
                    obtain ⟨m_130, hm_130, h⟩ := ltE h
                    refine j_iast S D_M_lay_130 sh_109 g_66 ?_
                    refine j_mem hm_130 ?_
                    refine j_iconst S D_M_lay_131 ci_0 ?_
                    refine j_istore S D_M_lay_132 (lv := [(5, .int 0), (4, .int x_67), (0, .ref (eb E + 91)), (1, .int a1), (2, .int a2), (3, .int a3)]) rfl (Nat.le_of_ble_eq_true rfl) ?_
                    refine j_locals [2, 3, 4, 5, 1, 0] rfl ?_
                    obtain ⟨y_134, m_134, e_134, h⟩ := bdE h
                    refine L_M_lay_134 S  N a1 a2 a3 x_67 0 m_130 _ _ e_134 ?_
                    refine j_iload S D_M_lay_176 4 rfl ?_
                    exact rtM hR h _ _ D_M_lay_178
                  · have h := ifT c_118 h
                    refine j_aload_n S D_M_lay_121 1 rfl rfl ?_
                    refine j_iload_n S D_M_lay_122 4 rfl rfl ?_
                    obtain ⟨r_123, e_123, h⟩ := bpE h
                    refine j_callVI (As := [.int a3]) S D_M_lay_123 mv_R6_100 (c_M_worthOf (cxL X) E a3 e_123) (by decide) sh_Mod rfl rfl rfl rfl (Nat.le_of_ble_eq_true rfl) ?_
                    refine j_goto S D_M_lay_126 ?_
                    obtain ⟨m_130, hm_130, h⟩ := ltE h
                    refine j_iast S D_M_lay_130 sh_109 g_66 ?_
                    refine j_mem hm_130 ?_
                    refine j_iconst S D_M_lay_131 ci_0 ?_
                    refine j_istore S D_M_lay_132 (lv := [(5, .int 0), (4, .int x_67), (0, .ref (eb E + 91)), (1, .int a1), (2, .int a2), (3, .int a3)]) rfl (Nat.le_of_ble_eq_true rfl) ?_
                    refine j_locals [2, 3, 4, 5, 1, 0] rfl ?_
                    obtain ⟨y_134, m_134, e_134, h⟩ := bdE h
                    refine L_M_lay_134 S  N a1 a2 a3 x_67 0 m_130 _ _ e_134 ?_
                    refine j_iload S D_M_lay_176 4 rfl ?_
                    exact rtM hR h _ _ D_M_lay_178
              · have h := ifF c_55 h
                refine j_ldc S D_M_lay_58 co_R6_172 ?_
                exact rtM hR h _ _ D_M_lay_60
          · have h := ifT c_38 h
            refine j_ldc S D_M_lay_41 co_R6_87 ?_
            exact rtM hR h _ _ D_M_lay_43
      · have h := ifT c_18 h
        refine j_aload_n S D_M_lay_21 0 rfl rfl ?_
        refine j_iload_n S D_M_lay_22 3 rfl rfl ?_
        obtain ⟨r_23, e_23, h⟩ := bpE h
        refine j_callVI (As := [.int a3]) S D_M_lay_23 mv_R6_97 (c_M_isMonk (cxL X) E a3 e_23) (by decide) sh_Mod rfl rfl rfl rfl (Nat.le_of_ble_eq_true rfl) ?_
        refine j_if_eq S D_M_lay_26 (fun c_26 => ?_) (fun c_26 => ?_)
        · have h := ifT c_26 h
          refine j_ldc S D_M_lay_41 co_R6_87 ?_
          exact rtM hR h _ _ D_M_lay_43
        · have h := ifF c_26 h
          refine j_iload_n S D_M_lay_29 2 rfl rfl ?_
          refine j_iconst S D_M_lay_30 ci_2 ?_
          refine j_icmp_ne S D_M_lay_31 (fun c_31 => ?_) (fun c_31 => ?_)
          · have h := ifF c_31 h
            refine j_iload_n S D_M_lay_44 2 rfl rfl ?_
            refine j_iconst S D_M_lay_45 ci_2 ?_
            refine j_icmp_ne S D_M_lay_46 (fun c_46 => ?_) (fun c_46 => ?_)
            · have h := ifF c_46 h
              refine j_aload_n S D_M_lay_61 0 rfl rfl ?_
              refine j_getR S D_M_lay_62 fl_R6_61 sh_Mod rfl ?_
              refine j_iload_n S D_M_lay_65 1 rfl rfl ?_
              obtain ⟨g_66, h⟩ := gdE h
              refine j_iald S D_M_lay_66 sh_107 g_66 ?_
              obtain ⟨x_67, hx_67, h⟩ := ltE h
              refine j_nm hx_67 ?_
              refine j_istore S D_M_lay_67 (lv := [(4, .int x_67), (0, .ref (eb E + 91)), (1, .int a1), (2, .int a2), (3, .int a3)]) rfl (Nat.le_of_ble_eq_true rfl) ?_
              refine j_aload_n S D_M_lay_69 1 rfl rfl ?_
              refine j_getR S D_M_lay_70 fl_R6_61 sh_Mod rfl ?_
              refine j_iload_n S D_M_lay_73 2 rfl rfl ?_
              refine j_iload_n S D_M_lay_74 3 rfl rfl ?_
              obtain ⟨m_75, hm_75, h⟩ := ltE h
              refine j_iast S D_M_lay_75 sh_107 g_66 ?_
              refine j_mem hm_75 ?_
              refine j_aload_n S D_M_lay_76 1 rfl rfl ?_
              refine j_getR S D_M_lay_77 fl_R6_64 sh_Mod rfl ?_
              refine j_iload_n S D_M_lay_80 2 rfl rfl ?_
              refine j_iload_n S D_M_lay_81 3 rfl rfl ?_
              refine j_iconst S D_M_lay_82 ci_1 ?_
              refine j_icmp_ne S D_M_lay_83 (fun c_83 => ?_) (fun c_83 => ?_)
              · have h := ifF c_83 h
                refine j_iload_n S D_M_lay_95 3 rfl rfl ?_
                refine j_iconst S D_M_lay_96 ci_2 ?_
                refine j_icmp_ne S D_M_lay_97 (fun c_97 => ?_) (fun c_97 => ?_)
                · have h := ifF c_97 h
                  refine j_iload_n S D_M_lay_109 4 rfl rfl ?_
                  obtain ⟨m_110, hm_110, h⟩ := ltE h
                  refine j_iast S D_M_lay_110 sh_108 g_66 ?_
                  refine j_mem hm_110 ?_
                  refine j_aload_n S D_M_lay_111 1 rfl rfl ?_
                  refine j_getR S D_M_lay_112 fl_R6_67 sh_Mod rfl ?_
                  refine j_iload_n S D_M_lay_115 2 rfl rfl ?_
                  refine j_iload_n S D_M_lay_116 3 rfl rfl ?_
                  refine j_iconst S D_M_lay_117 ci_1 ?_
                  refine j_icmp_ne S D_M_lay_118 (fun c_118 => ?_) (fun c_118 => ?_)
                  · have h := ifF c_118 h
                    refine j_iconst S D_M_lay_129 ci_0 ?_
                    obtain ⟨m_130, hm_130, h⟩ := ltE h
                    refine j_iast S D_M_lay_130 sh_109 g_66 ?_
                    refine j_mem hm_130 ?_
                    refine j_iconst S D_M_lay_131 ci_0 ?_
                    refine j_istore S D_M_lay_132 (lv := [(5, .int 0), (4, .int x_67), (0, .ref (eb E + 91)), (1, .int a1), (2, .int a2), (3, .int a3)]) rfl (Nat.le_of_ble_eq_true rfl) ?_
                    refine j_locals [2, 3, 4, 5, 1, 0] rfl ?_
                    obtain ⟨y_134, m_134, e_134, h⟩ := bdE h
                    refine L_M_lay_134 S  N a1 a2 a3 x_67 0 m_130 _ _ e_134 ?_
                    refine j_iload S D_M_lay_176 4 rfl ?_
                    exact rtM hR h _ _ D_M_lay_178
                  · have h := ifT c_118 h
                    refine j_aload_n S D_M_lay_121 1 rfl rfl ?_
                    refine j_iload_n S D_M_lay_122 4 rfl rfl ?_
                    obtain ⟨r_123, e_123, h⟩ := bpE h
                    refine j_callVI (As := [.int a3]) S D_M_lay_123 mv_R6_100 (c_M_worthOf (cxL X) E a3 e_123) (by decide) sh_Mod rfl rfl rfl rfl (Nat.le_of_ble_eq_true rfl) ?_
                    refine j_goto S D_M_lay_126 ?_
                    obtain ⟨m_130, hm_130, h⟩ := ltE h
                    refine j_iast S D_M_lay_130 sh_109 g_66 ?_
                    refine j_mem hm_130 ?_
                    refine j_iconst S D_M_lay_131 ci_0 ?_
                    refine j_istore S D_M_lay_132 (lv := [(5, .int 0), (4, .int x_67), (0, .ref (eb E + 91)), (1, .int a1), (2, .int a2), (3, .int a3)]) rfl (Nat.le_of_ble_eq_true rfl) ?_
                    refine j_locals [2, 3, 4, 5, 1, 0] rfl ?_
                    obtain ⟨y_134, m_134, e_134, h⟩ := bdE h
                    refine L_M_lay_134 S  N a1 a2 a3 x_67 0 m_130 _ _ e_134 ?_
                    refine j_iload S D_M_lay_176 4 rfl ?_
                    exact rtM hR h _ _ D_M_lay_178
                · have h := ifT c_97 h
                  refine j_aload_n S D_M_lay_100 1 rfl rfl ?_
                  refine j_getR S D_M_lay_101 fl_R6_55 sh_Mod rfl ?_
                  refine j_iload_n S D_M_lay_104 4 rfl rfl ?_
                  obtain ⟨g_105, h⟩ := gdE h
                  refine j_iald S D_M_lay_105 sh_105 g_105 ?_
                  refine j_goto S D_M_lay_106 ?_
                  obtain ⟨m_110, hm_110, h⟩ := ltE h
                  refine j_iast S D_M_lay_110 sh_108 g_66 ?_
                  refine j_mem hm_110 ?_
                  refine j_aload_n S D_M_lay_111 1 rfl rfl ?_
                  refine j_getR S D_M_lay_112 fl_R6_67 sh_Mod rfl ?_
                  refine j_iload_n S D_M_lay_115 2 rfl rfl ?_
                  refine j_iload_n S D_M_lay_116 3 rfl rfl ?_
                  refine j_iconst S D_M_lay_117 ci_1 ?_
                  refine j_icmp_ne S D_M_lay_118 (fun c_118 => ?_) (fun c_118 => ?_)
                  · have h := ifF c_118 h
                    refine j_iconst S D_M_lay_129 ci_0 ?_
                    obtain ⟨m_130, hm_130, h⟩ := ltE h
                    refine j_iast S D_M_lay_130 sh_109 g_66 ?_
                    refine j_mem hm_130 ?_
                    refine j_iconst S D_M_lay_131 ci_0 ?_
                    refine j_istore S D_M_lay_132 (lv := [(5, .int 0), (4, .int x_67), (0, .ref (eb E + 91)), (1, .int a1), (2, .int a2), (3, .int a3)]) rfl (Nat.le_of_ble_eq_true rfl) ?_
                    refine j_locals [2, 3, 4, 5, 1, 0] rfl ?_
                    obtain ⟨y_134, m_134, e_134, h⟩ := bdE h
                    refine L_M_lay_134 S  N a1 a2 a3 x_67 0 m_130 _ _ e_134 ?_
                    refine j_iload S D_M_lay_176 4 rfl ?_
                    exact rtM hR h _ _ D_M_lay_178
                  · have h := ifT c_118 h
                    refine j_aload_n S D_M_lay_121 1 rfl rfl ?_
                    refine j_iload_n S D_M_lay_122 4 rfl rfl ?_
                    obtain ⟨r_123, e_123, h⟩ := bpE h
                    refine j_callVI (As := [.int a3]) S D_M_lay_123 mv_R6_100 (c_M_worthOf (cxL X) E a3 e_123) (by decide) sh_Mod rfl rfl rfl rfl (Nat.le_of_ble_eq_true rfl) ?_
                    refine j_goto S D_M_lay_126 ?_
                    obtain ⟨m_130, hm_130, h⟩ := ltE h
                    refine j_iast S D_M_lay_130 sh_109 g_66 ?_
                    refine j_mem hm_130 ?_
                    refine j_iconst S D_M_lay_131 ci_0 ?_
                    refine j_istore S D_M_lay_132 (lv := [(5, .int 0), (4, .int x_67), (0, .ref (eb E + 91)), (1, .int a1), (2, .int a2), (3, .int a3)]) rfl (Nat.le_of_ble_eq_true rfl) ?_
                    refine j_locals [2, 3, 4, 5, 1, 0] rfl ?_
                    obtain ⟨y_134, m_134, e_134, h⟩ := bdE h
                    refine L_M_lay_134 S  N a1 a2 a3 x_67 0 m_130 _ _ e_134 ?_
                    refine j_iload S D_M_lay_176 4 rfl ?_
                    exact rtM hR h _ _ D_M_lay_178
              · have h := ifT c_83 h
                refine j_aload_n S D_M_lay_86 1 rfl rfl ?_
                refine j_iload_n S D_M_lay_87 4 rfl rfl ?_
                refine j_iconst S D_M_lay_88 ci_0 ?_
                obtain ⟨r_89, e_89, h⟩ := bpE h
                refine j_callVI (As := [.int a3, .int 0]) S D_M_lay_89 mv_R6_93 (c_M_of (cxL X) E a3 0 e_89) (by decide) sh_Mod rfl rfl rfl rfl (Nat.le_of_ble_eq_true rfl) ?_
                refine j_goto S D_M_lay_92 ?_
                obtain ⟨m_110, hm_110, h⟩ := ltE h
                refine j_iast S D_M_lay_110 sh_108 g_66 ?_
                refine j_mem hm_110 ?_
                refine j_aload_n S D_M_lay_111 1 rfl rfl ?_
                refine j_getR S D_M_lay_112 fl_R6_67 sh_Mod rfl ?_
                refine j_iload_n S D_M_lay_115 2 rfl rfl ?_
                refine j_iload_n S D_M_lay_116 3 rfl rfl ?_
                refine j_iconst S D_M_lay_117 ci_1 ?_
                refine j_icmp_ne S D_M_lay_118 (fun c_118 => ?_) (fun c_118 => ?_)
                · have h := ifF c_118 h
                  refine j_iconst S D_M_lay_129 ci_0 ?_
                  obtain ⟨m_130, hm_130, h⟩ := ltE h
                  refine j_iast S D_M_lay_130 sh_109 g_66 ?_
                  refine j_mem hm_130 ?_
                  refine j_iconst S D_M_lay_131 ci_0 ?_
                  refine j_istore S D_M_lay_132 (lv := [(5, .int 0), (4, .int x_67), (0, .ref (eb E + 91)), (1, .int a1), (2, .int a2), (3, .int a3)]) rfl (Nat.le_of_ble_eq_true rfl) ?_
                  refine j_locals [2, 3, 4, 5, 1, 0] rfl ?_
                  obtain ⟨y_134, m_134, e_134, h⟩ := bdE h
                  refine L_M_lay_134 S  N a1 a2 a3 x_67 0 m_130 _ _ e_134 ?_
                  refine j_iload S D_M_lay_176 4 rfl ?_
                  exact rtM hR h _ _ D_M_lay_178
                · have h := ifT c_118 h
                  refine j_aload_n S D_M_lay_121 1 rfl rfl ?_
                  refine j_iload_n S D_M_lay_122 4 rfl rfl ?_
                  obtain ⟨r_123, e_123, h⟩ := bpE h
                  refine j_callVI (As := [.int a3]) S D_M_lay_123 mv_R6_100 (c_M_worthOf (cxL X) E a3 e_123) (by decide) sh_Mod rfl rfl rfl rfl (Nat.le_of_ble_eq_true rfl) ?_
                  refine j_goto S D_M_lay_126 ?_
                  obtain ⟨m_130, hm_130, h⟩ := ltE h
                  refine j_iast S D_M_lay_130 sh_109 g_66 ?_
                  refine j_mem hm_130 ?_
                  refine j_iconst S D_M_lay_131 ci_0 ?_
                  refine j_istore S D_M_lay_132 (lv := [(5, .int 0), (4, .int x_67), (0, .ref (eb E + 91)), (1, .int a1), (2, .int a2), (3, .int a3)]) rfl (Nat.le_of_ble_eq_true rfl) ?_
                  refine j_locals [2, 3, 4, 5, 1, 0] rfl ?_
                  obtain ⟨y_134, m_134, e_134, h⟩ := bdE h
                  refine L_M_lay_134 S  N a1 a2 a3 x_67 0 m_130 _ _ e_134 ?_
                  refine j_iload S D_M_lay_176 4 rfl ?_
                  exact rtM hR h _ _ D_M_lay_178
            · have h := ifT c_46 h
              refine j_aload_n S D_M_lay_49 0 rfl rfl ?_
              refine j_getR S D_M_lay_50 fl_R6_52 sh_Mod rfl ?_
              refine j_iload_n S D_M_lay_53 3 rfl rfl ?_
              obtain ⟨g_54, h⟩ := gdE h
              refine j_iald S D_M_lay_54 sh_104 g_54 ?_
              refine j_if_ge S D_M_lay_55 (fun c_55 => ?_) (fun c_55 => ?_)
              · have h := ifT c_55 h
                refine j_aload_n S D_M_lay_61 0 rfl rfl ?_
                refine j_getR S D_M_lay_62 fl_R6_61 sh_Mod rfl ?_
                refine j_iload_n S D_M_lay_65 1 rfl rfl ?_
                obtain ⟨g_66, h⟩ := gdE h
                refine j_iald S D_M_lay_66 sh_107 g_66 ?_
                obtain ⟨x_67, hx_67, h⟩ := ltE h
                refine j_nm hx_67 ?_
                refine j_istore S D_M_lay_67 (lv := [(4, .int x_67), (0, .ref (eb E + 91)), (1, .int a1), (2, .int a2), (3, .int a3)]) rfl (Nat.le_of_ble_eq_true rfl) ?_
                refine j_aload_n S D_M_lay_69 1 rfl rfl ?_
                refine j_getR S D_M_lay_70 fl_R6_61 sh_Mod rfl ?_
                refine j_iload_n S D_M_lay_73 2 rfl rfl ?_
                refine j_iload_n S D_M_lay_74 3 rfl rfl ?_
                obtain ⟨m_75, hm_75, h⟩ := ltE h
                refine j_iast S D_M_lay_75 sh_107 g_66 ?_
                refine j_mem hm_75 ?_
                refine j_aload_n S D_M_lay_76 1 rfl rfl ?_
                refine j_getR S D_M_lay_77 fl_R6_64 sh_Mod rfl ?_
                refine j_iload_n S D_M_lay_80 2 rfl rfl ?_
                refine j_iload_n S D_M_lay_81 3 rfl rfl ?_
                refine j_iconst S D_M_lay_82 ci_1 ?_
                refine j_icmp_ne S D_M_lay_83 (fun c_83 => ?_) (fun c_83 => ?_)
                · have h := ifF c_83 h
                  refine j_iload_n S D_M_lay_95 3 rfl rfl ?_
                  refine j_iconst S D_M_lay_96 ci_2 ?_
                  refine j_dia (P := J X E 6 110 [(4, .int x_67), (0, .ref (eb E + 91)), (1, .int a1), (2, .int a2), (3, .int a3)] [.int (if a2 = 2 then m_75 105 (ix a3) else a3), .int a1, .ref (eb E + 108)] SH m_75) (fun hj => ?_) ?_
                  · refine j_icmp_ne S D_M_lay_97 (fun c_97 => ?_) (fun c_97 => ?_)
                    · refine j_iload_n S D_M_lay_109 4 rfl rfl ?_
                      exact j_jnF hj c_97
                    · refine j_aload_n S D_M_lay_100 1 rfl rfl ?_
                      refine j_getR S D_M_lay_101 fl_R6_55 sh_Mod rfl ?_
                      refine j_iload_n S D_M_lay_104 4 rfl rfl ?_
                      refine j_iald S D_M_lay_105 sh_105 g_54 ?_
                      refine j_goto S D_M_lay_106 ?_
                      exact j_jnT hj c_97
                  obtain ⟨m_110, hm_110, h⟩ := ltE h
                  refine j_iast S D_M_lay_110 sh_108 g_66 ?_
                  refine j_mem hm_110 ?_
                  refine j_aload_n S D_M_lay_111 1 rfl rfl ?_
                  refine j_getR S D_M_lay_112 fl_R6_67 sh_Mod rfl ?_
                  refine j_iload_n S D_M_lay_115 2 rfl rfl ?_
                  refine j_iload_n S D_M_lay_116 3 rfl rfl ?_
                  refine j_iconst S D_M_lay_117 ci_1 ?_
                  refine j_icmp_ne S D_M_lay_118 (fun c_118 => ?_) (fun c_118 => ?_)
                  · have h := ifF c_118 h
                    refine j_iconst S D_M_lay_129 ci_0 ?_
                    obtain ⟨m_130, hm_130, h⟩ := ltE h
                    refine j_iast S D_M_lay_130 sh_109 g_66 ?_
                    refine j_mem hm_130 ?_
                    refine j_iconst S D_M_lay_131 ci_0 ?_
                    refine j_istore S D_M_lay_132 (lv := [(5, .int 0), (4, .int x_67), (0, .ref (eb E + 91)), (1, .int a1), (2, .int a2), (3, .int a3)]) rfl (Nat.le_of_ble_eq_true rfl) ?_
                    refine j_locals [2, 3, 4, 5, 1, 0] rfl ?_
                    obtain ⟨y_134, m_134, e_134, h⟩ := bdE h
                    refine L_M_lay_134 S  N a1 a2 a3 x_67 0 m_130 _ _ e_134 ?_
                    refine j_iload S D_M_lay_176 4 rfl ?_
                    exact rtM hR h _ _ D_M_lay_178
                  · have h := ifT c_118 h
                    refine j_aload_n S D_M_lay_121 1 rfl rfl ?_
                    refine j_iload_n S D_M_lay_122 4 rfl rfl ?_
                    obtain ⟨r_123, e_123, h⟩ := bpE h
                    refine j_callVI (As := [.int a3]) S D_M_lay_123 mv_R6_100 (c_M_worthOf (cxL X) E a3 e_123) (by decide) sh_Mod rfl rfl rfl rfl (Nat.le_of_ble_eq_true rfl) ?_
                    refine j_goto S D_M_lay_126 ?_
                    obtain ⟨m_130, hm_130, h⟩ := ltE h
                    refine j_iast S D_M_lay_130 sh_109 g_66 ?_
                    refine j_mem hm_130 ?_
                    refine j_iconst S D_M_lay_131 ci_0 ?_
                    refine j_istore S D_M_lay_132 (lv := [(5, .int 0), (4, .int x_67), (0, .ref (eb E + 91)), (1, .int a1), (2, .int a2), (3, .int a3)]) rfl (Nat.le_of_ble_eq_true rfl) ?_
                    refine j_locals [2, 3, 4, 5, 1, 0] rfl ?_
                    obtain ⟨y_134, m_134, e_134, h⟩ := bdE h
                    refine L_M_lay_134 S  N a1 a2 a3 x_67 0 m_130 _ _ e_134 ?_
                    refine j_iload S D_M_lay_176 4 rfl ?_
                    exact rtM hR h _ _ D_M_lay_178
                · have h := ifT c_83 h
                  refine j_aload_n S D_M_lay_86 1 rfl rfl ?_
                  refine j_iload_n S D_M_lay_87 4 rfl rfl ?_
                  refine j_iconst S D_M_lay_88 ci_0 ?_
                  obtain ⟨r_89, e_89, h⟩ := bpE h
                  refine j_callVI (As := [.int a3, .int 0]) S D_M_lay_89 mv_R6_93 (c_M_of (cxL X) E a3 0 e_89) (by decide) sh_Mod rfl rfl rfl rfl (Nat.le_of_ble_eq_true rfl) ?_
                  refine j_goto S D_M_lay_92 ?_
                  obtain ⟨m_110, hm_110, h⟩ := ltE h
                  refine j_iast S D_M_lay_110 sh_108 g_66 ?_
                  refine j_mem hm_110 ?_
                  refine j_aload_n S D_M_lay_111 1 rfl rfl ?_
                  refine j_getR S D_M_lay_112 fl_R6_67 sh_Mod rfl ?_
                  refine j_iload_n S D_M_lay_115 2 rfl rfl ?_
                  refine j_iload_n S D_M_lay_116 3 rfl rfl ?_
                  refine j_iconst S D_M_lay_117 ci_1 ?_
                  refine j_icmp_ne S D_M_lay_118 (fun c_118 => ?_) (fun c_118 => ?_)
                  · have h := ifF c_118 h
                    refine j_iconst S D_M_lay_129 ci_0 ?_
                    obtain ⟨m_130, hm_130, h⟩ := ltE h
                    refine j_iast S D_M_lay_130 sh_109 g_66 ?_
                    refine j_mem hm_130 ?_
                    refine j_iconst S D_M_lay_131 ci_0 ?_
                    refine j_istore S D_M_lay_132 (lv := [(5, .int 0), (4, .int x_67), (0, .ref (eb E + 91)), (1, .int a1), (2, .int a2), (3, .int a3)]) rfl (Nat.le_of_ble_eq_true rfl) ?_
                    refine j_locals [2, 3, 4, 5, 1, 0] rfl ?_
                    obtain ⟨y_134, m_134, e_134, h⟩ := bdE h
                    refine L_M_lay_134 S  N a1 a2 a3 x_67 0 m_130 _ _ e_134 ?_
                    refine j_iload S D_M_lay_176 4 rfl ?_
                    exact rtM hR h _ _ D_M_lay_178
                  · have h := ifT c_118 h
                    refine j_aload_n S D_M_lay_121 1 rfl rfl ?_
                    refine j_iload_n S D_M_lay_122 4 rfl rfl ?_
                    obtain ⟨r_123, e_123, h⟩ := bpE h
                    refine j_callVI (As := [.int a3]) S D_M_lay_123 mv_R6_100 (c_M_worthOf (cxL X) E a3 e_123) (by decide) sh_Mod rfl rfl rfl rfl (Nat.le_of_ble_eq_true rfl) ?_
                    refine j_goto S D_M_lay_126 ?_
                    obtain ⟨m_130, hm_130, h⟩ := ltE h
                    refine j_iast S D_M_lay_130 sh_109 g_66 ?_
                    refine j_mem hm_130 ?_
                    refine j_iconst S D_M_lay_131 ci_0 ?_
                    refine j_istore S D_M_lay_132 (lv := [(5, .int 0), (4, .int x_67), (0, .ref (eb E + 91)), (1, .int a1), (2, .int a2), (3, .int a3)]) rfl (Nat.le_of_ble_eq_true rfl) ?_
                    refine j_locals [2, 3, 4, 5, 1, 0] rfl ?_
                    obtain ⟨y_134, m_134, e_134, h⟩ := bdE h
                    refine L_M_lay_134 S  N a1 a2 a3 x_67 0 m_130 _ _ e_134 ?_
                    refine j_iload S D_M_lay_176 4 rfl ?_
                    exact rtM hR h _ _ D_M_lay_178
              · have h := ifF c_55 h
                refine j_ldc S D_M_lay_58 co_R6_172 ?_
                exact rtM hR h _ _ D_M_lay_60
          · have h := ifT c_31 h
            refine j_iload_n S D_M_lay_34 3 rfl rfl ?_
            obtain ⟨r_35, e_35, h⟩ := bpE h
            refine j_callSI (As := [.int a3]) S D_M_lay_35 ms_R6_169 (c_M_isSheet (cxL X) E a3 (mem := mem) e_35) (by decide) rfl rfl (Nat.le_of_ble_eq_true rfl) ?_
            refine j_if_ne S D_M_lay_38 (fun c_38 => ?_) (fun c_38 => ?_)
            · have h := ifF c_38 h
              refine j_iload_n S D_M_lay_44 2 rfl rfl ?_
              refine j_iconst S D_M_lay_45 ci_2 ?_
              refine j_icmp_ne S D_M_lay_46 (fun c_46 => ?_) (fun c_46 => ?_)
              · have h := ifF c_46 h
                refine j_aload_n S D_M_lay_61 0 rfl rfl ?_
                refine j_getR S D_M_lay_62 fl_R6_61 sh_Mod rfl ?_
                refine j_iload_n S D_M_lay_65 1 rfl rfl ?_
                obtain ⟨g_66, h⟩ := gdE h
                refine j_iald S D_M_lay_66 sh_107 g_66 ?_
                obtain ⟨x_67, hx_67, h⟩ := ltE h
                refine j_nm hx_67 ?_
                refine j_istore S D_M_lay_67 (lv := [(4, .int x_67), (0, .ref (eb E + 91)), (1, .int a1), (2, .int a2), (3, .int a3)]) rfl (Nat.le_of_ble_eq_true rfl) ?_
                refine j_aload_n S D_M_lay_69 1 rfl rfl ?_
                refine j_getR S D_M_lay_70 fl_R6_61 sh_Mod rfl ?_
                refine j_iload_n S D_M_lay_73 2 rfl rfl ?_
                refine j_iload_n S D_M_lay_74 3 rfl rfl ?_
                obtain ⟨m_75, hm_75, h⟩ := ltE h
                refine j_iast S D_M_lay_75 sh_107 g_66 ?_
                refine j_mem hm_75 ?_
                refine j_aload_n S D_M_lay_76 1 rfl rfl ?_
                refine j_getR S D_M_lay_77 fl_R6_64 sh_Mod rfl ?_
                refine j_iload_n S D_M_lay_80 2 rfl rfl ?_
                refine j_iload_n S D_M_lay_81 3 rfl rfl ?_
                refine j_iconst S D_M_lay_82 ci_1 ?_
                refine j_icmp_ne S D_M_lay_83 (fun c_83 => ?_) (fun c_83 => ?_)
                · have h := ifF c_83 h
                  refine j_iload_n S D_M_lay_95 3 rfl rfl ?_
                  refine j_iconst S D_M_lay_96 ci_2 ?_
                  refine j_icmp_ne S D_M_lay_97 (fun c_97 => ?_) (fun c_97 => ?_)
                  · have h := ifF c_97 h
                    refine j_iload_n S D_M_lay_109 4 rfl rfl ?_
                    obtain ⟨m_110, hm_110, h⟩ := ltE h
                    refine j_iast S D_M_lay_110 sh_108 g_66 ?_
                    refine j_mem hm_110 ?_
                    refine j_aload_n S D_M_lay_111 1 rfl rfl ?_
                    refine j_getR S D_M_lay_112 fl_R6_67 sh_Mod rfl ?_
                    refine j_iload_n S D_M_lay_115 2 rfl rfl ?_
                    refine j_iload_n S D_M_lay_116 3 rfl rfl ?_
                    refine j_iconst S D_M_lay_117 ci_1 ?_
                    refine j_icmp_ne S D_M_lay_118 (fun c_118 => ?_) (fun c_118 => ?_)
                    · have h := ifF c_118 h
                      refine j_iconst S D_M_lay_129 ci_0 ?_
                      obtain ⟨m_130, hm_130, h⟩ := ltE h
                      refine j_iast S D_M_lay_130 sh_109 g_66 ?_
                      refine j_mem hm_130 ?_
                      refine j_iconst S D_M_lay_131 ci_0 ?_
                      refine j_istore S D_M_lay_132 (lv := [(5, .int 0), (4, .int x_67), (0, .ref (eb E + 91)), (1, .int a1), (2, .int a2), (3, .int a3)]) rfl (Nat.le_of_ble_eq_true rfl) ?_
                      refine j_locals [2, 3, 4, 5, 1, 0] rfl ?_
                      obtain ⟨y_134, m_134, e_134, h⟩ := bdE h
                      refine L_M_lay_134 S  N a1 a2 a3 x_67 0 m_130 _ _ e_134 ?_
                      refine j_iload S D_M_lay_176 4 rfl ?_
                      exact rtM hR h _ _ D_M_lay_178
                    · have h := ifT c_118 h
                      refine j_aload_n S D_M_lay_121 1 rfl rfl ?_
                      refine j_iload_n S D_M_lay_122 4 rfl rfl ?_
                      obtain ⟨r_123, e_123, h⟩ := bpE h
                      refine j_callVI (As := [.int a3]) S D_M_lay_123 mv_R6_100 (c_M_worthOf (cxL X) E a3 e_123) (by decide) sh_Mod rfl rfl rfl rfl (Nat.le_of_ble_eq_true rfl) ?_
                      refine j_goto S D_M_lay_126 ?_
                      obtain ⟨m_130, hm_130, h⟩ := ltE h
                      refine j_iast S D_M_lay_130 sh_109 g_66 ?_
                      refine j_mem hm_130 ?_
                      refine j_iconst S D_M_lay_131 ci_0 ?_
                      refine j_istore S D_M_lay_132 (lv := [(5, .int 0), (4, .int x_67), (0, .ref (eb E + 91)), (1, .int a1), (2, .int a2), (3, .int a3)]) rfl (Nat.le_of_ble_eq_true rfl) ?_
                      refine j_locals [2, 3, 4, 5, 1, 0] rfl ?_
                      obtain ⟨y_134, m_134, e_134, h⟩ := bdE h
                      refine L_M_lay_134 S  N a1 a2 a3 x_67 0 m_130 _ _ e_134 ?_
                      refine j_iload S D_M_lay_176 4 rfl ?_
                      exact rtM hR h _ _ D_M_lay_178
                  · have h := ifT c_97 h
                    refine j_aload_n S D_M_lay_100 1 rfl rfl ?_
                    refine j_getR S D_M_lay_101 fl_R6_55 sh_Mod rfl ?_
                    refine j_iload_n S D_M_lay_104 4 rfl rfl ?_
                    obtain ⟨g_105, h⟩ := gdE h
                    refine j_iald S D_M_lay_105 sh_105 g_105 ?_
                    refine j_goto S D_M_lay_106 ?_
                    obtain ⟨m_110, hm_110, h⟩ := ltE h
                    refine j_iast S D_M_lay_110 sh_108 g_66 ?_
                    refine j_mem hm_110 ?_
                    refine j_aload_n S D_M_lay_111 1 rfl rfl ?_
                    refine j_getR S D_M_lay_112 fl_R6_67 sh_Mod rfl ?_
                    refine j_iload_n S D_M_lay_115 2 rfl rfl ?_
                    refine j_iload_n S D_M_lay_116 3 rfl rfl ?_
                    refine j_iconst S D_M_lay_117 ci_1 ?_
                    refine j_icmp_ne S D_M_lay_118 (fun c_118 => ?_) (fun c_118 => ?_)
                    · have h := ifF c_118 h
                      refine j_iconst S D_M_lay_129 ci_0 ?_
                      obtain ⟨m_130, hm_130, h⟩ := ltE h
                      refine j_iast S D_M_lay_130 sh_109 g_66 ?_
                      refine j_mem hm_130 ?_
                      refine j_iconst S D_M_lay_131 ci_0 ?_
                      refine j_istore S D_M_lay_132 (lv := [(5, .int 0), (4, .int x_67), (0, .ref (eb E + 91)), (1, .int a1), (2, .int a2), (3, .int a3)]) rfl (Nat.le_of_ble_eq_true rfl) ?_
                      refine j_locals [2, 3, 4, 5, 1, 0] rfl ?_
                      obtain ⟨y_134, m_134, e_134, h⟩ := bdE h
                      refine L_M_lay_134 S  N a1 a2 a3 x_67 0 m_130 _ _ e_134 ?_
                      refine j_iload S D_M_lay_176 4 rfl ?_
                      exact rtM hR h _ _ D_M_lay_178
                    · have h := ifT c_118 h
                      refine j_aload_n S D_M_lay_121 1 rfl rfl ?_
                      refine j_iload_n S D_M_lay_122 4 rfl rfl ?_
                      obtain ⟨r_123, e_123, h⟩ := bpE h
                      refine j_callVI (As := [.int a3]) S D_M_lay_123 mv_R6_100 (c_M_worthOf (cxL X) E a3 e_123) (by decide) sh_Mod rfl rfl rfl rfl (Nat.le_of_ble_eq_true rfl) ?_
                      refine j_goto S D_M_lay_126 ?_
                      obtain ⟨m_130, hm_130, h⟩ := ltE h
                      refine j_iast S D_M_lay_130 sh_109 g_66 ?_
                      refine j_mem hm_130 ?_
                      refine j_iconst S D_M_lay_131 ci_0 ?_
                      refine j_istore S D_M_lay_132 (lv := [(5, .int 0), (4, .int x_67), (0, .ref (eb E + 91)), (1, .int a1), (2, .int a2), (3, .int a3)]) rfl (Nat.le_of_ble_eq_true rfl) ?_
                      refine j_locals [2, 3, 4, 5, 1, 0] rfl ?_
                      obtain ⟨y_134, m_134, e_134, h⟩ := bdE h
                      refine L_M_lay_134 S  N a1 a2 a3 x_67 0 m_130 _ _ e_134 ?_
                      refine j_iload S D_M_lay_176 4 rfl ?_
                      exact rtM hR h _ _ D_M_lay_178
                · have h := ifT c_83 h
                  refine j_aload_n S D_M_lay_86 1 rfl rfl ?_
                  refine j_iload_n S D_M_lay_87 4 rfl rfl ?_
                  refine j_iconst S D_M_lay_88 ci_0 ?_
                  obtain ⟨r_89, e_89, h⟩ := bpE h
                  refine j_callVI (As := [.int a3, .int 0]) S D_M_lay_89 mv_R6_93 (c_M_of (cxL X) E a3 0 e_89) (by decide) sh_Mod rfl rfl rfl rfl (Nat.le_of_ble_eq_true rfl) ?_
                  refine j_goto S D_M_lay_92 ?_
                  obtain ⟨m_110, hm_110, h⟩ := ltE h
                  refine j_iast S D_M_lay_110 sh_108 g_66 ?_
                  refine j_mem hm_110 ?_
                  refine j_aload_n S D_M_lay_111 1 rfl rfl ?_
                  refine j_getR S D_M_lay_112 fl_R6_67 sh_Mod rfl ?_
                  refine j_iload_n S D_M_lay_115 2 rfl rfl ?_
                  refine j_iload_n S D_M_lay_116 3 rfl rfl ?_
                  refine j_iconst S D_M_lay_117 ci_1 ?_
                  refine j_icmp_ne S D_M_lay_118 (fun c_118 => ?_) (fun c_118 => ?_)
                  · have h := ifF c_118 h
                    refine j_iconst S D_M_lay_129 ci_0 ?_
                    obtain ⟨m_130, hm_130, h⟩ := ltE h
                    refine j_iast S D_M_lay_130 sh_109 g_66 ?_
                    refine j_mem hm_130 ?_
                    refine j_iconst S D_M_lay_131 ci_0 ?_
                    refine j_istore S D_M_lay_132 (lv := [(5, .int 0), (4, .int x_67), (0, .ref (eb E + 91)), (1, .int a1), (2, .int a2), (3, .int a3)]) rfl (Nat.le_of_ble_eq_true rfl) ?_
                    refine j_locals [2, 3, 4, 5, 1, 0] rfl ?_
                    obtain ⟨y_134, m_134, e_134, h⟩ := bdE h
                    refine L_M_lay_134 S  N a1 a2 a3 x_67 0 m_130 _ _ e_134 ?_
                    refine j_iload S D_M_lay_176 4 rfl ?_
                    exact rtM hR h _ _ D_M_lay_178
                  · have h := ifT c_118 h
                    refine j_aload_n S D_M_lay_121 1 rfl rfl ?_
                    refine j_iload_n S D_M_lay_122 4 rfl rfl ?_
                    obtain ⟨r_123, e_123, h⟩ := bpE h
                    refine j_callVI (As := [.int a3]) S D_M_lay_123 mv_R6_100 (c_M_worthOf (cxL X) E a3 e_123) (by decide) sh_Mod rfl rfl rfl rfl (Nat.le_of_ble_eq_true rfl) ?_
                    refine j_goto S D_M_lay_126 ?_
                    obtain ⟨m_130, hm_130, h⟩ := ltE h
                    refine j_iast S D_M_lay_130 sh_109 g_66 ?_
                    refine j_mem hm_130 ?_
                    refine j_iconst S D_M_lay_131 ci_0 ?_
                    refine j_istore S D_M_lay_132 (lv := [(5, .int 0), (4, .int x_67), (0, .ref (eb E + 91)), (1, .int a1), (2, .int a2), (3, .int a3)]) rfl (Nat.le_of_ble_eq_true rfl) ?_
                    refine j_locals [2, 3, 4, 5, 1, 0] rfl ?_
                    obtain ⟨y_134, m_134, e_134, h⟩ := bdE h
                    refine L_M_lay_134 S  N a1 a2 a3 x_67 0 m_130 _ _ e_134 ?_
                    refine j_iload S D_M_lay_176 4 rfl ?_
                    exact rtM hR h _ _ D_M_lay_178
              · have h := ifT c_46 h
                refine j_aload_n S D_M_lay_49 0 rfl rfl ?_
                refine j_getR S D_M_lay_50 fl_R6_52 sh_Mod rfl ?_
                refine j_iload_n S D_M_lay_53 3 rfl rfl ?_
                obtain ⟨g_54, h⟩ := gdE h
                refine j_iald S D_M_lay_54 sh_104 g_54 ?_
                refine j_if_ge S D_M_lay_55 (fun c_55 => ?_) (fun c_55 => ?_)
                · have h := ifT c_55 h
                  refine j_aload_n S D_M_lay_61 0 rfl rfl ?_
                  refine j_getR S D_M_lay_62 fl_R6_61 sh_Mod rfl ?_
                  refine j_iload_n S D_M_lay_65 1 rfl rfl ?_
                  obtain ⟨g_66, h⟩ := gdE h
                  refine j_iald S D_M_lay_66 sh_107 g_66 ?_
                  obtain ⟨x_67, hx_67, h⟩ := ltE h
                  refine j_nm hx_67 ?_
                  refine j_istore S D_M_lay_67 (lv := [(4, .int x_67), (0, .ref (eb E + 91)), (1, .int a1), (2, .int a2), (3, .int a3)]) rfl (Nat.le_of_ble_eq_true rfl) ?_
                  refine j_aload_n S D_M_lay_69 1 rfl rfl ?_
                  refine j_getR S D_M_lay_70 fl_R6_61 sh_Mod rfl ?_
                  refine j_iload_n S D_M_lay_73 2 rfl rfl ?_
                  refine j_iload_n S D_M_lay_74 3 rfl rfl ?_
                  obtain ⟨m_75, hm_75, h⟩ := ltE h
                  refine j_iast S D_M_lay_75 sh_107 g_66 ?_
                  refine j_mem hm_75 ?_
                  refine j_aload_n S D_M_lay_76 1 rfl rfl ?_
                  refine j_getR S D_M_lay_77 fl_R6_64 sh_Mod rfl ?_
                  refine j_iload_n S D_M_lay_80 2 rfl rfl ?_
                  refine j_iload_n S D_M_lay_81 3 rfl rfl ?_
                  refine j_iconst S D_M_lay_82 ci_1 ?_
                  refine j_icmp_ne S D_M_lay_83 (fun c_83 => ?_) (fun c_83 => ?_)
                  · have h := ifF c_83 h
                    refine j_iload_n S D_M_lay_95 3 rfl rfl ?_
                    refine j_iconst S D_M_lay_96 ci_2 ?_
                    refine j_dia (P := J X E 6 110 [(4, .int x_67), (0, .ref (eb E + 91)), (1, .int a1), (2, .int a2), (3, .int a3)] [.int (if a2 = 2 then m_75 105 (ix a3) else a3), .int a1, .ref (eb E + 108)] SH m_75) (fun hj => ?_) ?_
                    · refine j_icmp_ne S D_M_lay_97 (fun c_97 => ?_) (fun c_97 => ?_)
                      · refine j_iload_n S D_M_lay_109 4 rfl rfl ?_
                        exact j_jnF hj c_97
                      · refine j_aload_n S D_M_lay_100 1 rfl rfl ?_
                        refine j_getR S D_M_lay_101 fl_R6_55 sh_Mod rfl ?_
                        refine j_iload_n S D_M_lay_104 4 rfl rfl ?_
                        refine j_iald S D_M_lay_105 sh_105 g_54 ?_
                        refine j_goto S D_M_lay_106 ?_
                        exact j_jnT hj c_97
                    obtain ⟨m_110, hm_110, h⟩ := ltE h
                    refine j_iast S D_M_lay_110 sh_108 g_66 ?_
                    refine j_mem hm_110 ?_
                    refine j_aload_n S D_M_lay_111 1 rfl rfl ?_
                    refine j_getR S D_M_lay_112 fl_R6_67 sh_Mod rfl ?_
                    refine j_iload_n S D_M_lay_115 2 rfl rfl ?_
                    refine j_iload_n S D_M_lay_116 3 rfl rfl ?_
                    refine j_iconst S D_M_lay_117 ci_1 ?_
                    refine j_icmp_ne S D_M_lay_118 (fun c_118 => ?_) (fun c_118 => ?_)
                    · have h := ifF c_118 h
                      refine j_iconst S D_M_lay_129 ci_0 ?_
                      obtain ⟨m_130, hm_130, h⟩ := ltE h
                      refine j_iast S D_M_lay_130 sh_109 g_66 ?_
                      refine j_mem hm_130 ?_
                      refine j_iconst S D_M_lay_131 ci_0 ?_
                      refine j_istore S D_M_lay_132 (lv := [(5, .int 0), (4, .int x_67), (0, .ref (eb E + 91)), (1, .int a1), (2, .int a2), (3, .int a3)]) rfl (Nat.le_of_ble_eq_true rfl) ?_
                      refine j_locals [2, 3, 4, 5, 1, 0] rfl ?_
                      obtain ⟨y_134, m_134, e_134, h⟩ := bdE h
                      refine L_M_lay_134 S  N a1 a2 a3 x_67 0 m_130 _ _ e_134 ?_
                      refine j_iload S D_M_lay_176 4 rfl ?_
                      exact rtM hR h _ _ D_M_lay_178
                    · have h := ifT c_118 h
                      refine j_aload_n S D_M_lay_121 1 rfl rfl ?_
                      refine j_iload_n S D_M_lay_122 4 rfl rfl ?_
                      obtain ⟨r_123, e_123, h⟩ := bpE h
                      refine j_callVI (As := [.int a3]) S D_M_lay_123 mv_R6_100 (c_M_worthOf (cxL X) E a3 e_123) (by decide) sh_Mod rfl rfl rfl rfl (Nat.le_of_ble_eq_true rfl) ?_
                      refine j_goto S D_M_lay_126 ?_
                      obtain ⟨m_130, hm_130, h⟩ := ltE h
                      refine j_iast S D_M_lay_130 sh_109 g_66 ?_
                      refine j_mem hm_130 ?_
                      refine j_iconst S D_M_lay_131 ci_0 ?_
                      refine j_istore S D_M_lay_132 (lv := [(5, .int 0), (4, .int x_67), (0, .ref (eb E + 91)), (1, .int a1), (2, .int a2), (3, .int a3)]) rfl (Nat.le_of_ble_eq_true rfl) ?_
                      refine j_locals [2, 3, 4, 5, 1, 0] rfl ?_
                      obtain ⟨y_134, m_134, e_134, h⟩ := bdE h
                      refine L_M_lay_134 S  N a1 a2 a3 x_67 0 m_130 _ _ e_134 ?_
                      refine j_iload S D_M_lay_176 4 rfl ?_
                      exact rtM hR h _ _ D_M_lay_178
                  · have h := ifT c_83 h
                    refine j_aload_n S D_M_lay_86 1 rfl rfl ?_
                    refine j_iload_n S D_M_lay_87 4 rfl rfl ?_
                    refine j_iconst S D_M_lay_88 ci_0 ?_
                    obtain ⟨r_89, e_89, h⟩ := bpE h
                    refine j_callVI (As := [.int a3, .int 0]) S D_M_lay_89 mv_R6_93 (c_M_of (cxL X) E a3 0 e_89) (by decide) sh_Mod rfl rfl rfl rfl (Nat.le_of_ble_eq_true rfl) ?_
                    refine j_goto S D_M_lay_92 ?_
                    obtain ⟨m_110, hm_110, h⟩ := ltE h
                    refine j_iast S D_M_lay_110 sh_108 g_66 ?_
                    refine j_mem hm_110 ?_
                    refine j_aload_n S D_M_lay_111 1 rfl rfl ?_
                    refine j_getR S D_M_lay_112 fl_R6_67 sh_Mod rfl ?_
                    refine j_iload_n S D_M_lay_115 2 rfl rfl ?_
                    refine j_iload_n S D_M_lay_116 3 rfl rfl ?_
                    refine j_iconst S D_M_lay_117 ci_1 ?_
                    refine j_icmp_ne S D_M_lay_118 (fun c_118 => ?_) (fun c_118 => ?_)
                    · have h := ifF c_118 h
                      refine j_iconst S D_M_lay_129 ci_0 ?_
                      obtain ⟨m_130, hm_130, h⟩ := ltE h
                      refine j_iast S D_M_lay_130 sh_109 g_66 ?_
                      refine j_mem hm_130 ?_
                      refine j_iconst S D_M_lay_131 ci_0 ?_
                      refine j_istore S D_M_lay_132 (lv := [(5, .int 0), (4, .int x_67), (0, .ref (eb E + 91)), (1, .int a1), (2, .int a2), (3, .int a3)]) rfl (Nat.le_of_ble_eq_true rfl) ?_
                      refine j_locals [2, 3, 4, 5, 1, 0] rfl ?_
                      obtain ⟨y_134, m_134, e_134, h⟩ := bdE h
                      refine L_M_lay_134 S  N a1 a2 a3 x_67 0 m_130 _ _ e_134 ?_
                      refine j_iload S D_M_lay_176 4 rfl ?_
                      exact rtM hR h _ _ D_M_lay_178
                    · have h := ifT c_118 h
                      refine j_aload_n S D_M_lay_121 1 rfl rfl ?_
                      refine j_iload_n S D_M_lay_122 4 rfl rfl ?_
                      obtain ⟨r_123, e_123, h⟩ := bpE h
                      refine j_callVI (As := [.int a3]) S D_M_lay_123 mv_R6_100 (c_M_worthOf (cxL X) E a3 e_123) (by decide) sh_Mod rfl rfl rfl rfl (Nat.le_of_ble_eq_true rfl) ?_
                      refine j_goto S D_M_lay_126 ?_
                      obtain ⟨m_130, hm_130, h⟩ := ltE h
                      refine j_iast S D_M_lay_130 sh_109 g_66 ?_
                      refine j_mem hm_130 ?_
                      refine j_iconst S D_M_lay_131 ci_0 ?_
                      refine j_istore S D_M_lay_132 (lv := [(5, .int 0), (4, .int x_67), (0, .ref (eb E + 91)), (1, .int a1), (2, .int a2), (3, .int a3)]) rfl (Nat.le_of_ble_eq_true rfl) ?_
                      refine j_locals [2, 3, 4, 5, 1, 0] rfl ?_
                      obtain ⟨y_134, m_134, e_134, h⟩ := bdE h
                      refine L_M_lay_134 S  N a1 a2 a3 x_67 0 m_130 _ _ e_134 ?_
                      refine j_iload S D_M_lay_176 4 rfl ?_
                      exact rtM hR h _ _ D_M_lay_178
                · have h := ifF c_55 h
                  refine j_ldc S D_M_lay_58 co_R6_172 ?_
                  exact rtM hR h _ _ D_M_lay_60
            · have h := ifT c_38 h
              refine j_ldc S D_M_lay_41 co_R6_87 ?_
              exact rtM hR h _ _ D_M_lay_43

def y_M_ask : MethodName := ⟨"SandPictureModel", "ask", "(II)I"⟩
theorem D_M_ask_0 : decode prog_9_method_78_code 0 = .ok (.iload_n 1, 1) ∧ 0 + 1 = 1 := by decide +kernel
theorem D_M_ask_1 : decode prog_9_method_78_code 1 = .ok (.invokestatic 247, 3) ∧ 1 + 3 = 4 := by decide +kernel
theorem D_M_ask_4 : decode prog_9_method_78_code 4 = .ok (.ifCond .eq 12, 3) ∧ ((4 : Nat) : Int) + 12 = ((16 : Nat) : Int) ∧ 4 + 3 = 7 := by decide +kernel
theorem D_M_ask_16 : decode prog_9_method_78_code 16 = .ok (.ldc 87, 2) ∧ 16 + 2 = 18 := by decide +kernel
theorem D_M_ask_18 : decode prog_9_method_78_code 18 = .ok (.ireturn, 1) := by decide +kernel
theorem D_M_ask_7 : decode prog_9_method_78_code 7 = .ok (.iload_n 2, 1) ∧ 7 + 1 = 8 := by decide +kernel
theorem D_M_ask_8 : decode prog_9_method_78_code 8 = .ok (.iconst 0, 1) ∧ 8 + 1 = 9 := by decide +kernel
theorem D_M_ask_9 : decode prog_9_method_78_code 9 = .ok (.iconst 5, 1) ∧ 9 + 1 = 10 := by decide +kernel
theorem D_M_ask_10 : decode prog_9_method_78_code 10 = .ok (.invokestatic 79, 3) ∧ 10 + 3 = 13 := by decide +kernel
theorem D_M_ask_13 : decode prog_9_method_78_code 13 = .ok (.ifCond .ne 6, 3) ∧ ((13 : Nat) : Int) + 6 = ((19 : Nat) : Int) ∧ 13 + 3 = 16 := by decide +kernel
theorem D_M_ask_19 : decode prog_9_method_78_code 19 = .ok (.aload_n 0, 1) ∧ 19 + 1 = 20 := by decide +kernel
theorem D_M_ask_20 : decode prog_9_method_78_code 20 = .ok (.getfield 61, 3) ∧ 20 + 3 = 23 := by decide +kernel
theorem D_M_ask_23 : decode prog_9_method_78_code 23 = .ok (.iload_n 1, 1) ∧ 23 + 1 = 24 := by decide +kernel
theorem D_M_ask_24 : decode prog_9_method_78_code 24 = .ok (.iaload, 1) ∧ 24 + 1 = 25 := by decide +kernel
theorem D_M_ask_25 : decode prog_9_method_78_code 25 = .ok (.ifCond .ne 6, 3) ∧ ((25 : Nat) : Int) + 6 = ((31 : Nat) : Int) ∧ 25 + 3 = 28 := by decide +kernel
theorem D_M_ask_31 : decode prog_9_method_78_code 31 = .ok (.aload_n 0, 1) ∧ 31 + 1 = 32 := by decide +kernel
theorem D_M_ask_32 : decode prog_9_method_78_code 32 = .ok (.getfield 61, 3) ∧ 32 + 3 = 35 := by decide +kernel
theorem D_M_ask_35 : decode prog_9_method_78_code 35 = .ok (.iload_n 1, 1) ∧ 35 + 1 = 36 := by decide +kernel
theorem D_M_ask_36 : decode prog_9_method_78_code 36 = .ok (.iaload, 1) ∧ 36 + 1 = 37 := by decide +kernel
theorem D_M_ask_37 : decode prog_9_method_78_code 37 = .ok (.iconst 1, 1) ∧ 37 + 1 = 38 := by decide +kernel
theorem D_M_ask_38 : decode prog_9_method_78_code 38 = .ok (.if_icmp .ne 25, 3) ∧ ((38 : Nat) : Int) + 25 = ((63 : Nat) : Int) ∧ 38 + 3 = 41 := by decide +kernel
theorem D_M_ask_63 : decode prog_9_method_78_code 63 = .ok (.ldc 129, 2) ∧ 63 + 2 = 65 := by decide +kernel
theorem D_M_ask_65 : decode prog_9_method_78_code 65 = .ok (.ireturn, 1) := by decide +kernel
theorem D_M_ask_41 : decode prog_9_method_78_code 41 = .ok (.aload_n 0, 1) ∧ 41 + 1 = 42 := by decide +kernel
theorem D_M_ask_42 : decode prog_9_method_78_code 42 = .ok (.getfield 64, 3) ∧ 42 + 3 = 45 := by decide +kernel
theorem D_M_ask_45 : decode prog_9_method_78_code 45 = .ok (.iload_n 1, 1) ∧ 45 + 1 = 46 := by decide +kernel
theorem D_M_ask_46 : decode prog_9_method_78_code 46 = .ok (.iaload, 1) ∧ 46 + 1 = 47 := by decide +kernel
theorem D_M_ask_47 : decode prog_9_method_78_code 47 = .ok (.iload_n 2, 1) ∧ 47 + 1 = 48 := by decide +kernel
theorem D_M_ask_48 : decode prog_9_method_78_code 48 = .ok (.invokestatic 125, 3) ∧ 48 + 3 = 51 := by decide +kernel
theorem D_M_ask_54 : decode prog_9_method_78_code 54 = .ok (.aload_n 0, 1) ∧ 54 + 1 = 55 := by decide +kernel
theorem D_M_ask_55 : decode prog_9_method_78_code 55 = .ok (.getfield 67, 3) ∧ 55 + 3 = 58 := by decide +kernel
theorem D_M_ask_58 : decode prog_9_method_78_code 58 = .ok (.iload_n 1, 1) ∧ 58 + 1 = 59 := by decide +kernel
theorem D_M_ask_59 : decode prog_9_method_78_code 59 = .ok (.iaload, 1) ∧ 59 + 1 = 60 := by decide +kernel
theorem D_M_ask_60 : decode prog_9_method_78_code 60 = .ok (.goto 5, 3) ∧ ((60 : Nat) : Int) + 5 = ((65 : Nat) : Int) := by decide +kernel
theorem D_M_ask_51 : decode prog_9_method_78_code 51 = .ok (.ifCond .eq 12, 3) ∧ ((51 : Nat) : Int) + 12 = ((63 : Nat) : Int) ∧ 51 + 3 = 54 := by decide +kernel
theorem D_M_ask_28 : decode prog_9_method_78_code 28 = .ok (.ldc 172, 2) ∧ 28 + 2 = 30 := by decide +kernel
theorem D_M_ask_30 : decode prog_9_method_78_code 30 = .ok (.ireturn, 1) := by decide +kernel
def f_M_ask (a1 : Int32) (a2 : Int32) (mem : Mm) : Option (Int32) := bp (f_M_isSlot a1) fun r_1 => if r_1 = 0 then some (-1000000001) else bp (f_M_in a2 0 5) fun r_10 => if r_10 = 0 then some (-1000000001) else if inb a1 5 = true then if mem 107 (ix a1) = 0 then some (-1000000011) else if mem 107 (ix a1) = 1 then bp (f_M_isUnder (mem 108 (ix a1)) a2) fun r_48 => some (if r_48 = 0 then ((-1000000012) : Int32) else mem 109 (ix a1)) else some (-1000000012) else none
theorem c_M_ask (l : Launch) (E : En) (a1 : Int32) (a2 : Int32) {mem : Mm} {r : Int32} (h : f_M_ask a1 a2 mem = some r) : CtI l E 2 y_M_ask prog_9_method_78_code 3 (some .int) [.ref (eb E + 91), .int a1, .int a2] SH mem r mem := by
  refine mk_CtI ⟨by decide, (Nat.le_of_ble_eq_true rfl)⟩ (fun X S hl hR => ?_)
  have S : Std X E prog_9_method_78_code R6 3 2 := S
  show J X E 3 0 [(0, .ref (eb E + 91)), (1, .int a1), (2, .int a2)] [] SH mem
  unfold f_M_ask at h
  refine j_iload_n S D_M_ask_0 1 rfl rfl ?_
  obtain ⟨r_1, e_1, h⟩ := bpE h
  refine j_callSI (As := [.int a1]) S D_M_ask_1 ms_R6_247 (c_M_isSlot (cxL X) E a1 (mem := mem) e_1) (by decide) rfl rfl (Nat.le_of_ble_eq_true rfl) ?_
  refine j_if_eq S D_M_ask_4 (fun c_4 => ?_) (fun c_4 => ?_)
  · have h := ifT c_4 h
    refine j_ldc S D_M_ask_16 co_R6_87 ?_
    exact rtI hR h _ _ D_M_ask_18
  · have h := ifF c_4 h
    refine j_iload_n S D_M_ask_7 2 rfl rfl ?_
    refine j_iconst S D_M_ask_8 ci_0 ?_
    refine j_iconst S D_M_ask_9 ci_5 ?_
    obtain ⟨r_10, e_10, h⟩ := bpE h
    refine j_callSI (As := [.int a2, .int 0, .int 5]) S D_M_ask_10 ms_R6_79 (c_M_in (cxL X) E a2 0 5 (mem := mem) e_10) (by decide) rfl rfl (Nat.le_of_ble_eq_true rfl) ?_
    refine j_if_ne S D_M_ask_13 (fun c_13 => ?_) (fun c_13 => ?_)
    · have h := ifF c_13 h
      refine j_aload_n S D_M_ask_19 0 rfl rfl ?_
      refine j_getR S D_M_ask_20 fl_R6_61 sh_Mod rfl ?_
      refine j_iload_n S D_M_ask_23 1 rfl rfl ?_
      obtain ⟨g_24, h⟩ := gdE h
      refine j_iald S D_M_ask_24 sh_107 g_24 ?_
      refine j_if_ne S D_M_ask_25 (fun c_25 => ?_) (fun c_25 => ?_)
      · have h := ifF c_25 h
        refine j_aload_n S D_M_ask_31 0 rfl rfl ?_
        refine j_getR S D_M_ask_32 fl_R6_61 sh_Mod rfl ?_
        refine j_iload_n S D_M_ask_35 1 rfl rfl ?_
        refine j_iald S D_M_ask_36 sh_107 g_24 ?_
        refine j_iconst S D_M_ask_37 ci_1 ?_
        refine j_icmp_ne S D_M_ask_38 (fun c_38 => ?_) (fun c_38 => ?_)
        · have h := ifF c_38 h
          refine j_ldc S D_M_ask_63 co_R6_129 ?_
          exact rtI hR h _ _ D_M_ask_65
        · have h := ifT c_38 h
          refine j_aload_n S D_M_ask_41 0 rfl rfl ?_
          refine j_getR S D_M_ask_42 fl_R6_64 sh_Mod rfl ?_
          refine j_iload_n S D_M_ask_45 1 rfl rfl ?_
          refine j_iald S D_M_ask_46 sh_108 g_24 ?_
          refine j_iload_n S D_M_ask_47 2 rfl rfl ?_
          obtain ⟨r_48, e_48, h⟩ := bpE h
          refine j_callSI (As := [.int (mem 108 (ix a1)), .int a2]) S D_M_ask_48 ms_R6_125 (c_M_isUnder (cxL X) E (mem 108 (ix a1)) a2 (mem := mem) e_48) (by decide) rfl rfl (Nat.le_of_ble_eq_true rfl) ?_
          refine j_dia (P := J X E 3 65 [(0, .ref (eb E + 91)), (1, .int a1), (2, .int a2)] [.int (if r_48 = 0 then ((-1000000012) : Int32) else mem 109 (ix a1))] SH mem) (fun hj => ?_) ?_
          · refine j_if_eq S D_M_ask_51 (fun c_51 => ?_) (fun c_51 => ?_)
            · refine j_ldc S D_M_ask_63 co_R6_129 ?_
              exact j_jnT hj c_51
            · refine j_aload_n S D_M_ask_54 0 rfl rfl ?_
              refine j_getR S D_M_ask_55 fl_R6_67 sh_Mod rfl ?_
              refine j_iload_n S D_M_ask_58 1 rfl rfl ?_
              refine j_iald S D_M_ask_59 sh_109 g_24 ?_
              refine j_goto S D_M_ask_60 ?_
              exact j_jnF hj c_51
          exact rtI hR h _ _ D_M_ask_65
      · have h := ifT c_25 h
        refine j_ldc S D_M_ask_28 co_R6_172 ?_
        exact rtI hR h _ _ D_M_ask_30
    · have h := ifT c_13 h
      refine j_ldc S D_M_ask_16 co_R6_87 ?_
      exact rtI hR h _ _ D_M_ask_18

def y_M_item : MethodName := ⟨"SandPictureModel", "item", "(II)I"⟩
theorem D_M_item_0 : decode prog_9_method_79_code 0 = .ok (.iload_n 1, 1) ∧ 0 + 1 = 1 := by decide +kernel
theorem D_M_item_1 : decode prog_9_method_79_code 1 = .ok (.invokestatic 247, 3) ∧ 1 + 3 = 4 := by decide +kernel
theorem D_M_item_4 : decode prog_9_method_79_code 4 = .ok (.ifCond .ne 6, 3) ∧ ((4 : Nat) : Int) + 6 = ((10 : Nat) : Int) ∧ 4 + 3 = 7 := by decide +kernel
theorem D_M_item_10 : decode prog_9_method_79_code 10 = .ok (.aload_n 0, 1) ∧ 10 + 1 = 11 := by decide +kernel
theorem D_M_item_11 : decode prog_9_method_79_code 11 = .ok (.getfield 61, 3) ∧ 11 + 3 = 14 := by decide +kernel
theorem D_M_item_14 : decode prog_9_method_79_code 14 = .ok (.iload_n 1, 1) ∧ 14 + 1 = 15 := by decide +kernel
theorem D_M_item_15 : decode prog_9_method_79_code 15 = .ok (.iaload, 1) ∧ 15 + 1 = 16 := by decide +kernel
theorem D_M_item_16 : decode prog_9_method_79_code 16 = .ok (.ifCond .ne 6, 3) ∧ ((16 : Nat) : Int) + 6 = ((22 : Nat) : Int) ∧ 16 + 3 = 19 := by decide +kernel
theorem D_M_item_22 : decode prog_9_method_79_code 22 = .ok (.aload_n 0, 1) ∧ 22 + 1 = 23 := by decide +kernel
theorem D_M_item_23 : decode prog_9_method_79_code 23 = .ok (.getfield 61, 3) ∧ 23 + 3 = 26 := by decide +kernel
theorem D_M_item_26 : decode prog_9_method_79_code 26 = .ok (.iload_n 1, 1) ∧ 26 + 1 = 27 := by decide +kernel
theorem D_M_item_27 : decode prog_9_method_79_code 27 = .ok (.iaload, 1) ∧ 27 + 1 = 28 := by decide +kernel
theorem D_M_item_28 : decode prog_9_method_79_code 28 = .ok (.iconst 2, 1) ∧ 28 + 1 = 29 := by decide +kernel
theorem D_M_item_29 : decode prog_9_method_79_code 29 = .ok (.if_icmp .eq 6, 3) ∧ ((29 : Nat) : Int) + 6 = ((35 : Nat) : Int) ∧ 29 + 3 = 32 := by decide +kernel
theorem D_M_item_35 : decode prog_9_method_79_code 35 = .ok (.iload_n 2, 1) ∧ 35 + 1 = 36 := by decide +kernel
theorem D_M_item_36 : decode prog_9_method_79_code 36 = .ok (.iconst 0, 1) ∧ 36 + 1 = 37 := by decide +kernel
theorem D_M_item_37 : decode prog_9_method_79_code 37 = .ok (.aload_n 0, 1) ∧ 37 + 1 = 38 := by decide +kernel
theorem D_M_item_38 : decode prog_9_method_79_code 38 = .ok (.getfield 64, 3) ∧ 38 + 3 = 41 := by decide +kernel
theorem D_M_item_41 : decode prog_9_method_79_code 41 = .ok (.iload_n 1, 1) ∧ 41 + 1 = 42 := by decide +kernel
theorem D_M_item_42 : decode prog_9_method_79_code 42 = .ok (.iaload, 1) ∧ 42 + 1 = 43 := by decide +kernel
theorem D_M_item_43 : decode prog_9_method_79_code 43 = .ok (.iconst 1, 1) ∧ 43 + 1 = 44 := by decide +kernel
theorem D_M_item_44 : decode prog_9_method_79_code 44 = .ok (.isub, 1) ∧ 44 + 1 = 45 := by decide +kernel
theorem D_M_item_45 : decode prog_9_method_79_code 45 = .ok (.invokestatic 79, 3) ∧ 45 + 3 = 48 := by decide +kernel
theorem D_M_item_48 : decode prog_9_method_79_code 48 = .ok (.ifCond .ne 6, 3) ∧ ((48 : Nat) : Int) + 6 = ((54 : Nat) : Int) ∧ 48 + 3 = 51 := by decide +kernel
theorem D_M_item_54 : decode prog_9_method_79_code 54 = .ok (.aload_n 0, 1) ∧ 54 + 1 = 55 := by decide +kernel
theorem D_M_item_55 : decode prog_9_method_79_code 55 = .ok (.getfield 70, 3) ∧ 55 + 3 = 58 := by decide +kernel
theorem D_M_item_58 : decode prog_9_method_79_code 58 = .ok (.bipush 24, 2) ∧ 58 + 2 = 60 := by decide +kernel
theorem D_M_item_60 : decode prog_9_method_79_code 60 = .ok (.iload_n 1, 1) ∧ 60 + 1 = 61 := by decide +kernel
theorem D_M_item_61 : decode prog_9_method_79_code 61 = .ok (.imul, 1) ∧ 61 + 1 = 62 := by decide +kernel
theorem D_M_item_62 : decode prog_9_method_79_code 62 = .ok (.iload_n 2, 1) ∧ 62 + 1 = 63 := by decide +kernel
theorem D_M_item_63 : decode prog_9_method_79_code 63 = .ok (.iadd, 1) ∧ 63 + 1 = 64 := by decide +kernel
theorem D_M_item_64 : decode prog_9_method_79_code 64 = .ok (.iaload, 1) ∧ 64 + 1 = 65 := by decide +kernel
theorem D_M_item_65 : decode prog_9_method_79_code 65 = .ok (.istore_n 3, 1) ∧ 65 + 1 = 66 := by decide +kernel
theorem D_M_item_66 : decode prog_9_method_79_code 66 = .ok (.iload_n 3, 1) ∧ 66 + 1 = 67 := by decide +kernel
theorem D_M_item_67 : decode prog_9_method_79_code 67 = .ok (.ldc 168, 2) ∧ 67 + 2 = 69 := by decide +kernel
theorem D_M_item_77 : decode prog_9_method_79_code 77 = .ok (.iload_n 3, 1) ∧ 77 + 1 = 78 := by decide +kernel
theorem D_M_item_72 : decode prog_9_method_79_code 72 = .ok (.ldc 129, 2) ∧ 72 + 2 = 74 := by decide +kernel
theorem D_M_item_74 : decode prog_9_method_79_code 74 = .ok (.goto 4, 3) ∧ ((74 : Nat) : Int) + 4 = ((78 : Nat) : Int) := by decide +kernel
theorem D_M_item_69 : decode prog_9_method_79_code 69 = .ok (.if_icmp .ne 8, 3) ∧ ((69 : Nat) : Int) + 8 = ((77 : Nat) : Int) ∧ 69 + 3 = 72 := by decide +kernel
theorem D_M_item_78 : decode prog_9_method_79_code 78 = .ok (.ireturn, 1) := by decide +kernel
theorem D_M_item_51 : decode prog_9_method_79_code 51 = .ok (.ldc 245, 2) ∧ 51 + 2 = 53 := by decide +kernel
theorem D_M_item_53 : decode prog_9_method_79_code 53 = .ok (.ireturn, 1) := by decide +kernel
theorem D_M_item_32 : decode prog_9_method_79_code 32 = .ok (.ldc 129, 2) ∧ 32 + 2 = 34 := by decide +kernel
theorem D_M_item_34 : decode prog_9_method_79_code 34 = .ok (.ireturn, 1) := by decide +kernel
theorem D_M_item_19 : decode prog_9_method_79_code 19 = .ok (.ldc 172, 2) ∧ 19 + 2 = 21 := by decide +kernel
theorem D_M_item_21 : decode prog_9_method_79_code 21 = .ok (.ireturn, 1) := by decide +kernel
theorem D_M_item_7 : decode prog_9_method_79_code 7 = .ok (.ldc 87, 2) ∧ 7 + 2 = 9 := by decide +kernel
theorem D_M_item_9 : decode prog_9_method_79_code 9 = .ok (.ireturn, 1) := by decide +kernel
def f_M_item (a1 : Int32) (a2 : Int32) (mem : Mm) : Option (Int32) := bp (f_M_isSlot a1) fun r_1 => if r_1 = 0 then some (-1000000001) else if inb a1 5 = true then if mem 107 (ix a1) = 0 then some (-1000000011) else if mem 107 (ix a1) = 2 then bp (f_M_in a2 0 ((mem 108 (ix a1)) - 1)) fun r_45 => if r_45 = 0 then some (-1000000013) else if inb ((24 * a1) + a2) 120 = true then lt (mem 110 (ix ((24 * a1) + a2))) fun x_65 => some (if x_65 = (-1000000005) then ((-1000000012) : Int32) else x_65) else none else some (-1000000012) else none
theorem c_M_item (l : Launch) (E : En) (a1 : Int32) (a2 : Int32) {mem : Mm} {r : Int32} (h : f_M_item a1 a2 mem = some r) : CtI l E 2 y_M_item prog_9_method_79_code 4 (some .int) [.ref (eb E + 91), .int a1, .int a2] SH mem r mem := by
  refine mk_CtI ⟨by decide, (Nat.le_of_ble_eq_true rfl)⟩ (fun X S hl hR => ?_)
  have S : Std X E prog_9_method_79_code R6 4 2 := S
  show J X E 4 0 [(0, .ref (eb E + 91)), (1, .int a1), (2, .int a2)] [] SH mem
  unfold f_M_item at h
  refine j_iload_n S D_M_item_0 1 rfl rfl ?_
  obtain ⟨r_1, e_1, h⟩ := bpE h
  refine j_callSI (As := [.int a1]) S D_M_item_1 ms_R6_247 (c_M_isSlot (cxL X) E a1 (mem := mem) e_1) (by decide) rfl rfl (Nat.le_of_ble_eq_true rfl) ?_
  refine j_if_ne S D_M_item_4 (fun c_4 => ?_) (fun c_4 => ?_)
  · have h := ifF c_4 h
    refine j_aload_n S D_M_item_10 0 rfl rfl ?_
    refine j_getR S D_M_item_11 fl_R6_61 sh_Mod rfl ?_
    refine j_iload_n S D_M_item_14 1 rfl rfl ?_
    obtain ⟨g_15, h⟩ := gdE h
    refine j_iald S D_M_item_15 sh_107 g_15 ?_
    refine j_if_ne S D_M_item_16 (fun c_16 => ?_) (fun c_16 => ?_)
    · have h := ifF c_16 h
      refine j_aload_n S D_M_item_22 0 rfl rfl ?_
      refine j_getR S D_M_item_23 fl_R6_61 sh_Mod rfl ?_
      refine j_iload_n S D_M_item_26 1 rfl rfl ?_
      refine j_iald S D_M_item_27 sh_107 g_15 ?_
      refine j_iconst S D_M_item_28 ci_2 ?_
      refine j_icmp_eq S D_M_item_29 (fun c_29 => ?_) (fun c_29 => ?_)
      · have h := ifT c_29 h
        refine j_iload_n S D_M_item_35 2 rfl rfl ?_
        refine j_iconst S D_M_item_36 ci_0 ?_
        refine j_aload_n S D_M_item_37 0 rfl rfl ?_
        refine j_getR S D_M_item_38 fl_R6_64 sh_Mod rfl ?_
        refine j_iload_n S D_M_item_41 1 rfl rfl ?_
        refine j_iald S D_M_item_42 sh_108 g_15 ?_
        refine j_iconst S D_M_item_43 ci_1 ?_
        refine j_isub S D_M_item_44 ?_
        obtain ⟨r_45, e_45, h⟩ := bpE h
        refine j_callSI (As := [.int a2, .int 0, .int ((mem 108 (ix a1)) - 1)]) S D_M_item_45 ms_R6_79 (c_M_in (cxL X) E a2 0 ((mem 108 (ix a1)) - 1) (mem := mem) e_45) (by decide) rfl rfl (Nat.le_of_ble_eq_true rfl) ?_
        refine j_if_ne S D_M_item_48 (fun c_48 => ?_) (fun c_48 => ?_)
        · have h := ifF c_48 h
          refine j_aload_n S D_M_item_54 0 rfl rfl ?_
          refine j_getR S D_M_item_55 fl_R6_70 sh_Mod rfl ?_
          refine j_bipush S D_M_item_58 cb_24 ?_
          refine j_iload_n S D_M_item_60 1 rfl rfl ?_
          refine j_imul S D_M_item_61 ?_
          refine j_iload_n S D_M_item_62 2 rfl rfl ?_
          refine j_iadd S D_M_item_63 ?_
          obtain ⟨g_64, h⟩ := gdE h
          refine j_iald S D_M_item_64 sh_110 g_64 ?_
          obtain ⟨x_65, hx_65, h⟩ := ltE h
          refine j_nm hx_65 ?_
          refine j_istore_n S D_M_item_65 (lv := [(3, .int x_65), (0, .ref (eb E + 91)), (1, .int a1), (2, .int a2)]) rfl ⟨rfl, (Nat.le_of_ble_eq_true rfl)⟩ ?_
          refine j_iload_n S D_M_item_66 0 rfl rfl ?_
          refine j_ldc S D_M_item_67 co_R6_168 ?_
          refine j_dia (P := J X E 4 78 [(3, .int x_65), (0, .ref (eb E + 91)), (1, .int a1), (2, .int a2)] [.int (if x_65 = (-1000000005) then ((-1000000012) : Int32) else x_65)] SH mem) (fun hj => ?_) ?_
          · refine j_icmp_ne S D_M_item_69 (fun c_69 => ?_) (fun c_69 => ?_)
            · refine j_iload_n S D_M_item_77 0 rfl rfl ?_
              exact j_jnF hj c_69
            · refine j_ldc S D_M_item_72 co_R6_129 ?_
              refine j_goto S D_M_item_74 ?_
              exact j_jnT hj c_69
          exact rtI hR h _ _ D_M_item_78
        · have h := ifT c_48 h
          refine j_ldc S D_M_item_51 co_R6_245 ?_
          exact rtI hR h _ _ D_M_item_53
      · have h := ifF c_29 h
        refine j_ldc S D_M_item_32 co_R6_129 ?_
        exact rtI hR h _ _ D_M_item_34
    · have h := ifT c_16 h
      refine j_ldc S D_M_item_19 co_R6_172 ?_
      exact rtI hR h _ _ D_M_item_21
  · have h := ifT c_4 h
    refine j_ldc S D_M_item_7 co_R6_87 ?_
    exact rtI hR h _ _ D_M_item_9

def y_M_rest : MethodName := ⟨"SandPictureModel", "rest", "(II)I"⟩
theorem D_M_rest_0 : decode prog_9_method_80_code 0 = .ok (.iload_n 1, 1) ∧ 0 + 1 = 1 := by decide +kernel
theorem D_M_rest_1 : decode prog_9_method_80_code 1 = .ok (.invokestatic 247, 3) ∧ 1 + 3 = 4 := by decide +kernel
theorem D_M_rest_4 : decode prog_9_method_80_code 4 = .ok (.ifCond .ne 6, 3) ∧ ((4 : Nat) : Int) + 6 = ((10 : Nat) : Int) ∧ 4 + 3 = 7 := by decide +kernel
theorem D_M_rest_10 : decode prog_9_method_80_code 10 = .ok (.aload_n 0, 1) ∧ 10 + 1 = 11 := by decide +kernel
theorem D_M_rest_11 : decode prog_9_method_80_code 11 = .ok (.getfield 61, 3) ∧ 11 + 3 = 14 := by decide +kernel
theorem D_M_rest_14 : decode prog_9_method_80_code 14 = .ok (.iload_n 1, 1) ∧ 14 + 1 = 15 := by decide +kernel
theorem D_M_rest_15 : decode prog_9_method_80_code 15 = .ok (.iaload, 1) ∧ 15 + 1 = 16 := by decide +kernel
theorem D_M_rest_16 : decode prog_9_method_80_code 16 = .ok (.ifCond .ne 6, 3) ∧ ((16 : Nat) : Int) + 6 = ((22 : Nat) : Int) ∧ 16 + 3 = 19 := by decide +kernel
theorem D_M_rest_22 : decode prog_9_method_80_code 22 = .ok (.aload_n 0, 1) ∧ 22 + 1 = 23 := by decide +kernel
theorem D_M_rest_23 : decode prog_9_method_80_code 23 = .ok (.getfield 61, 3) ∧ 23 + 3 = 26 := by decide +kernel
theorem D_M_rest_26 : decode prog_9_method_80_code 26 = .ok (.iload_n 1, 1) ∧ 26 + 1 = 27 := by decide +kernel
theorem D_M_rest_27 : decode prog_9_method_80_code 27 = .ok (.iaload, 1) ∧ 27 + 1 = 28 := by decide +kernel
theorem D_M_rest_28 : decode prog_9_method_80_code 28 = .ok (.iconst 3, 1) ∧ 28 + 1 = 29 := by decide +kernel
theorem D_M_rest_29 : decode prog_9_method_80_code 29 = .ok (.if_icmp .eq 6, 3) ∧ ((29 : Nat) : Int) + 6 = ((35 : Nat) : Int) ∧ 29 + 3 = 32 := by decide +kernel
theorem D_M_rest_35 : decode prog_9_method_80_code 35 = .ok (.iload_n 2, 1) ∧ 35 + 1 = 36 := by decide +kernel
theorem D_M_rest_36 : decode prog_9_method_80_code 36 = .ok (.ifCond .ne 8, 3) ∧ ((36 : Nat) : Int) + 8 = ((44 : Nat) : Int) ∧ 36 + 3 = 39 := by decide +kernel
theorem D_M_rest_44 : decode prog_9_method_80_code 44 = .ok (.iload_n 2, 1) ∧ 44 + 1 = 45 := by decide +kernel
theorem D_M_rest_45 : decode prog_9_method_80_code 45 = .ok (.iconst (-1), 1) ∧ 45 + 1 = 46 := by decide +kernel
theorem D_M_rest_53 : decode prog_9_method_80_code 53 = .ok (.aload_n 0, 1) ∧ 53 + 1 = 54 := by decide +kernel
theorem D_M_rest_54 : decode prog_9_method_80_code 54 = .ok (.getfield 64, 3) ∧ 54 + 3 = 57 := by decide +kernel
theorem D_M_rest_57 : decode prog_9_method_80_code 57 = .ok (.iload_n 1, 1) ∧ 57 + 1 = 58 := by decide +kernel
theorem D_M_rest_58 : decode prog_9_method_80_code 58 = .ok (.iaload, 1) ∧ 58 + 1 = 59 := by decide +kernel
theorem D_M_rest_59 : decode prog_9_method_80_code 59 = .ok (.iload_n 2, 1) ∧ 59 + 1 = 60 := by decide +kernel
theorem D_M_rest_60 : decode prog_9_method_80_code 60 = .ok (.irem, 1) ∧ 60 + 1 = 61 := by decide +kernel
theorem D_M_rest_49 : decode prog_9_method_80_code 49 = .ok (.iconst 0, 1) ∧ 49 + 1 = 50 := by decide +kernel
theorem D_M_rest_50 : decode prog_9_method_80_code 50 = .ok (.goto 11, 3) ∧ ((50 : Nat) : Int) + 11 = ((61 : Nat) : Int) := by decide +kernel
theorem D_M_rest_46 : decode prog_9_method_80_code 46 = .ok (.if_icmp .ne 7, 3) ∧ ((46 : Nat) : Int) + 7 = ((53 : Nat) : Int) ∧ 46 + 3 = 49 := by decide +kernel
theorem D_M_rest_61 : decode prog_9_method_80_code 61 = .ok (.ireturn, 1) := by decide +kernel
theorem D_M_rest_39 : decode prog_9_method_80_code 39 = .ok (.ldc 250, 2) ∧ 39 + 2 = 41 := by decide +kernel
theorem D_M_rest_41 : decode prog_9_method_80_code 41 = .ok (.goto 20, 3) ∧ ((41 : Nat) : Int) + 20 = ((61 : Nat) : Int) := by decide +kernel
theorem D_M_rest_32 : decode prog_9_method_80_code 32 = .ok (.ldc 129, 2) ∧ 32 + 2 = 34 := by decide +kernel
theorem D_M_rest_34 : decode prog_9_method_80_code 34 = .ok (.ireturn, 1) := by decide +kernel
theorem D_M_rest_19 : decode prog_9_method_80_code 19 = .ok (.ldc 172, 2) ∧ 19 + 2 = 21 := by decide +kernel
theorem D_M_rest_21 : decode prog_9_method_80_code 21 = .ok (.ireturn, 1) := by decide +kernel
theorem D_M_rest_7 : decode prog_9_method_80_code 7 = .ok (.ldc 87, 2) ∧ 7 + 2 = 9 := by decide +kernel
theorem D_M_rest_9 : decode prog_9_method_80_code 9 = .ok (.ireturn, 1) := by decide +kernel
def f_M_rest (a1 : Int32) (a2 : Int32) (mem : Mm) : Option (Int32) := bp (f_M_isSlot a1) fun r_1 => if r_1 = 0 then some (-1000000001) else if inb a1 5 = true then if mem 107 (ix a1) = 0 then some (-1000000011) else if mem 107 (ix a1) = 3 then if a2 = 0 then some (-1000000002) else some (if a2 = (-1) then (0 : Int32) else (mem 108 (ix a1)) - (mem 108 (ix a1)) / a2 * a2) else some (-1000000012) else none
theorem c_M_rest (l : Launch) (E : En) (a1 : Int32) (a2 : Int32) {mem : Mm} {r : Int32} (h : f_M_rest a1 a2 mem = some r) : CtI l E 2 y_M_rest prog_9_method_80_code 3 (some .int) [.ref (eb E + 91), .int a1, .int a2] SH mem r mem := by
  refine mk_CtI ⟨by decide, (Nat.le_of_ble_eq_true rfl)⟩ (fun X S hl hR => ?_)
  have S : Std X E prog_9_method_80_code R6 3 2 := S
  show J X E 3 0 [(0, .ref (eb E + 91)), (1, .int a1), (2, .int a2)] [] SH mem
  unfold f_M_rest at h
  refine j_iload_n S D_M_rest_0 1 rfl rfl ?_
  obtain ⟨r_1, e_1, h⟩ := bpE h
  refine j_callSI (As := [.int a1]) S D_M_rest_1 ms_R6_247 (c_M_isSlot (cxL X) E a1 (mem := mem) e_1) (by decide) rfl rfl (Nat.le_of_ble_eq_true rfl) ?_
  refine j_if_ne S D_M_rest_4 (fun c_4 => ?_) (fun c_4 => ?_)
  · have h := ifF c_4 h
    refine j_aload_n S D_M_rest_10 0 rfl rfl ?_
    refine j_getR S D_M_rest_11 fl_R6_61 sh_Mod rfl ?_
    refine j_iload_n S D_M_rest_14 1 rfl rfl ?_
    obtain ⟨g_15, h⟩ := gdE h
    refine j_iald S D_M_rest_15 sh_107 g_15 ?_
    refine j_if_ne S D_M_rest_16 (fun c_16 => ?_) (fun c_16 => ?_)
    · have h := ifF c_16 h
      refine j_aload_n S D_M_rest_22 0 rfl rfl ?_
      refine j_getR S D_M_rest_23 fl_R6_61 sh_Mod rfl ?_
      refine j_iload_n S D_M_rest_26 1 rfl rfl ?_
      refine j_iald S D_M_rest_27 sh_107 g_15 ?_
      refine j_iconst S D_M_rest_28 ci_3 ?_
      refine j_icmp_eq S D_M_rest_29 (fun c_29 => ?_) (fun c_29 => ?_)
      · have h := ifT c_29 h
        refine j_iload_n S D_M_rest_35 2 rfl rfl ?_
        refine j_if_ne S D_M_rest_36 (fun c_36 => ?_) (fun c_36 => ?_)
        · have h := ifF c_36 h
          refine j_iload_n S D_M_rest_44 2 rfl rfl ?_
          refine j_iconst S D_M_rest_45 ci_m1 ?_
          refine j_dia (P := J X E 3 61 [(0, .ref (eb E + 91)), (1, .int a1), (2, .int a2)] [.int (if a2 = (-1) then (0 : Int32) else (mem 108 (ix a1)) - (mem 108 (ix a1)) / a2 * a2)] SH mem) (fun hj => ?_) ?_
          · refine j_icmp_ne S D_M_rest_46 (fun c_46 => ?_) (fun c_46 => ?_)
            · refine j_aload_n S D_M_rest_53 0 rfl rfl ?_
              refine j_getR S D_M_rest_54 fl_R6_64 sh_Mod rfl ?_
              refine j_iload_n S D_M_rest_57 1 rfl rfl ?_
              refine j_iald S D_M_rest_58 sh_108 g_15 ?_
              refine j_iload_n S D_M_rest_59 2 rfl rfl ?_
              refine j_irem S D_M_rest_60 c_36 ?_
              exact j_jnF hj c_46
            · refine j_iconst S D_M_rest_49 ci_0 ?_
              refine j_goto S D_M_rest_50 ?_
              exact j_jnT hj c_46
          exact rtI hR h _ _ D_M_rest_61
        · have h := ifT c_36 h
          refine j_ldc S D_M_rest_39 co_R6_250 ?_
          refine j_goto S D_M_rest_41 ?_
          exact rtI hR h _ _ D_M_rest_61
      · have h := ifF c_29 h
        refine j_ldc S D_M_rest_32 co_R6_129 ?_
        exact rtI hR h _ _ D_M_rest_34
    · have h := ifT c_16 h
      refine j_ldc S D_M_rest_19 co_R6_172 ?_
      exact rtI hR h _ _ D_M_rest_21
  · have h := ifT c_4 h
    refine j_ldc S D_M_rest_7 co_R6_87 ?_
    exact rtI hR h _ _ D_M_rest_9

def y_M_tell : MethodName := ⟨"SandPictureModel", "tell", "(I)I"⟩
theorem D_M_tell_0 : decode prog_9_method_81_code 0 = .ok (.aload_n 0, 1) ∧ 0 + 1 = 1 := by decide +kernel
theorem D_M_tell_1 : decode prog_9_method_81_code 1 = .ok (.getfield 251, 3) ∧ 1 + 3 = 4 := by decide +kernel
theorem D_M_tell_4 : decode prog_9_method_81_code 4 = .ok (.bipush 60, 2) ∧ 4 + 2 = 6 := by decide +kernel
theorem D_M_tell_6 : decode prog_9_method_81_code 6 = .ok (.if_icmp .ne 6, 3) ∧ ((6 : Nat) : Int) + 6 = ((12 : Nat) : Int) ∧ 6 + 3 = 9 := by decide +kernel
theorem D_M_tell_12 : decode prog_9_method_81_code 12 = .ok (.aload_n 0, 1) ∧ 12 + 1 = 13 := by decide +kernel
theorem D_M_tell_13 : decode prog_9_method_81_code 13 = .ok (.getfield 76, 3) ∧ 13 + 3 = 16 := by decide +kernel
theorem D_M_tell_16 : decode prog_9_method_81_code 16 = .ok (.aload_n 0, 1) ∧ 16 + 1 = 17 := by decide +kernel
theorem D_M_tell_17 : decode prog_9_method_81_code 17 = .ok (.getfield 251, 3) ∧ 17 + 3 = 20 := by decide +kernel
theorem D_M_tell_20 : decode prog_9_method_81_code 20 = .ok (.iload_n 1, 1) ∧ 20 + 1 = 21 := by decide +kernel
theorem D_M_tell_21 : decode prog_9_method_81_code 21 = .ok (.iastore, 1) ∧ 21 + 1 = 22 := by decide +kernel
theorem D_M_tell_22 : decode prog_9_method_81_code 22 = .ok (.aload_n 0, 1) ∧ 22 + 1 = 23 := by decide +kernel
theorem D_M_tell_23 : decode prog_9_method_81_code 23 = .ok (.dup, 1) ∧ 23 + 1 = 24 := by decide +kernel
theorem D_M_tell_24 : decode prog_9_method_81_code 24 = .ok (.getfield 251, 3) ∧ 24 + 3 = 27 := by decide +kernel
theorem D_M_tell_27 : decode prog_9_method_81_code 27 = .ok (.iconst 1, 1) ∧ 27 + 1 = 28 := by decide +kernel
theorem D_M_tell_28 : decode prog_9_method_81_code 28 = .ok (.iadd, 1) ∧ 28 + 1 = 29 := by decide +kernel
theorem D_M_tell_29 : decode prog_9_method_81_code 29 = .ok (.putfield 251, 3) ∧ 29 + 3 = 32 := by decide +kernel
theorem D_M_tell_32 : decode prog_9_method_81_code 32 = .ok (.aload_n 0, 1) ∧ 32 + 1 = 33 := by decide +kernel
theorem D_M_tell_33 : decode prog_9_method_81_code 33 = .ok (.getfield 251, 3) ∧ 33 + 3 = 36 := by decide +kernel
theorem D_M_tell_36 : decode prog_9_method_81_code 36 = .ok (.ireturn, 1) := by decide +kernel
theorem D_M_tell_9 : decode prog_9_method_81_code 9 = .ok (.ldc 88, 2) ∧ 9 + 2 = 11 := by decide +kernel
theorem D_M_tell_11 : decode prog_9_method_81_code 11 = .ok (.ireturn, 1) := by decide +kernel
def f_M_tell (a1 : Int32) (mem : Mm) : Option (Int32 × Mm) := if mem 91 33 = 60 then some ((-1000000003), mem) else if inb (mem 91 33) 60 = true then lt (mst mem 112 (ix (mem 91 33)) a1) fun m_21 => lt (mst m_21 91 33 ((m_21 91 33) + 1)) fun m_29 => some (m_29 91 33, m_29) else none
theorem c_M_tell (l : Launch) (E : En) (a1 : Int32) {mem : Mm} {r : Int32} {m2 : Mm} (h : f_M_tell a1 mem = some (r, m2)) : CtI l E 0 y_M_tell prog_9_method_81_code 2 (some .int) [.ref (eb E + 91), .int a1] SH mem r m2 := by
  refine mk_CtI ⟨by decide, (Nat.le_of_ble_eq_true rfl)⟩ (fun X S hl hR => ?_)
  have S : Std X E prog_9_method_81_code R6 2 0 := S
  show J X E 2 0 [(0, .ref (eb E + 91)), (1, .int a1)] [] SH mem
  unfold f_M_tell at h
  refine j_aload_n S D_M_tell_0 0 rfl rfl ?_
  refine j_getI S D_M_tell_1 fl_R6_251 sh_Mod rfl ?_
  refine j_bipush S D_M_tell_4 cb_60 ?_
  refine j_icmp_ne S D_M_tell_6 (fun c_6 => ?_) (fun c_6 => ?_)
  · have h := ifF c_6 h
    refine j_aload_n S D_M_tell_12 0 rfl rfl ?_
    refine j_getR S D_M_tell_13 fl_R6_76 sh_Mod rfl ?_
    refine j_aload_n S D_M_tell_16 0 rfl rfl ?_
    refine j_getI S D_M_tell_17 fl_R6_251 sh_Mod rfl ?_
    refine j_iload_n S D_M_tell_20 1 rfl rfl ?_
    obtain ⟨g_21, h⟩ := gdE h
    obtain ⟨m_21, hm_21, h⟩ := ltE h
    refine j_iast S D_M_tell_21 sh_112 g_21 ?_
    refine j_mem hm_21 ?_
    refine j_aload_n S D_M_tell_22 0 rfl rfl ?_
    refine j_dup S D_M_tell_23 rfl ?_
    refine j_getI S D_M_tell_24 fl_R6_251 sh_Mod rfl ?_
    refine j_iconst S D_M_tell_27 ci_1 ?_
    refine j_iadd S D_M_tell_28 ?_
    obtain ⟨m_29, hm_29, h⟩ := ltE h
    refine j_putI S D_M_tell_29 fp_R6_251 sh_Mod rfl ?_
    refine j_mem hm_29 ?_
    refine j_aload_n S D_M_tell_32 0 rfl rfl ?_
    refine j_getI S D_M_tell_33 fl_R6_251 sh_Mod rfl ?_
    exact rtM hR h _ _ D_M_tell_36
  · have h := ifT c_6 h
    refine j_ldc S D_M_tell_9 co_R6_88 ?_
    exact rtM hR h _ _ D_M_tell_11
