theorem ob_R5_1 : Cond.methodLink R5 1 Lib.objectInit ∈ TB ∧ Cond.instanceMethod Lib.objectInit ∈ TB ∧ Cond.code Lib.objectInit ⟨#[0xb1]⟩ 1 none ∈ TB := ⟨tb_t 21 (by decide +kernel), tb_t 22 (by decide +kernel), tb_t 23 (by decide +kernel)⟩
theorem ml_R5_49 : Cond.methodLink R5 49 ⟨"SandPicture$Picture", "<init>", "([LSandPicture$Text;[I)V"⟩ ∈ TB := tb_t 80 (by decide +kernel)
theorem ob_R0_3 : Cond.methodLink R0 3 Lib.objectInit ∈ TB ∧ Cond.instanceMethod Lib.objectInit ∈ TB ∧ Cond.code Lib.objectInit ⟨#[0xb1]⟩ 1 none ∈ TB := ⟨tb_t 83 (by decide +kernel), tb_t 22 (by decide +kernel), tb_t 23 (by decide +kernel)⟩
theorem ob_R1_3 : Cond.methodLink R1 3 Lib.objectInit ∈ TB ∧ Cond.instanceMethod Lib.objectInit ∈ TB ∧ Cond.code Lib.objectInit ⟨#[0xb1]⟩ 1 none ∈ TB := ⟨tb_t 164 (by decide +kernel), tb_t 22 (by decide +kernel), tb_t 23 (by decide +kernel)⟩
theorem ob_R2_3 : Cond.methodLink R2 3 Lib.objectInit ∈ TB ∧ Cond.instanceMethod Lib.objectInit ∈ TB ∧ Cond.code Lib.objectInit ⟨#[0xb1]⟩ 1 none ∈ TB := ⟨tb_t 182 (by decide +kernel), tb_t 22 (by decide +kernel), tb_t 23 (by decide +kernel)⟩
theorem ob_R3_3 : Cond.methodLink R3 3 Lib.objectInit ∈ TB ∧ Cond.instanceMethod Lib.objectInit ∈ TB ∧ Cond.code Lib.objectInit ⟨#[0xb1]⟩ 1 none ∈ TB := ⟨tb_t 31 (by decide +kernel), tb_t 22 (by decide +kernel), tb_t 23 (by decide +kernel)⟩
theorem ob_R4_3 : Cond.methodLink R4 3 Lib.objectInit ∈ TB ∧ Cond.instanceMethod Lib.objectInit ∈ TB ∧ Cond.code Lib.objectInit ⟨#[0xb1]⟩ 1 none ∈ TB := ⟨tb_t 61 (by decide +kernel), tb_t 22 (by decide +kernel), tb_t 23 (by decide +kernel)⟩
theorem ml_R_law_9 : Cond.methodLink R_law 9 ⟨"SandPicture", "<init>", "()V"⟩ ∈ TB := tb_t 18 (by decide +kernel)
theorem ml_R_law_12 : Cond.methodLink R_law 12 ⟨"SandPictureModel", "<init>", "()V"⟩ ∈ TB := tb_t 769 (by decide +kernel)
theorem ob_R6_1 : Cond.methodLink R6 1 Lib.objectInit ∈ TB ∧ Cond.instanceMethod Lib.objectInit ∈ TB ∧ Cond.code Lib.objectInit ⟨#[0xb1]⟩ 1 none ∈ TB := ⟨tb_t 772 (by decide +kernel), tb_t 22 (by decide +kernel), tb_t 23 (by decide +kernel)⟩
theorem ck_R5_9 : Cond.classLink R5 9 R4 ∈ TB := tb_t 24 (by decide +kernel)
theorem cko_R5_9 : Cond.classLink R5 9 R4 ∈ TB ∧ Cond.instantiable R4 4 ∈ TB ∧ Cond.initialized R4 ∈ TB := ⟨ck_R5_9, inst4, tb_t 3 (by decide +kernel)⟩
theorem ck_R5_15 : Cond.classLink R5 15 R3 ∈ TB := tb_t 26 (by decide +kernel)
theorem cko_R5_15 : Cond.classLink R5 15 R3 ∈ TB ∧ Cond.instantiable R3 6 ∈ TB ∧ Cond.initialized R3 ∈ TB := ⟨ck_R5_15, inst3, tb_t 2 (by decide +kernel)⟩
theorem ck_R5_26 : Cond.classLink R5 26 R1 ∈ TB := tb_t 53 (by decide +kernel)
theorem cko_R5_26 : Cond.classLink R5 26 R1 ∈ TB ∧ Cond.instantiable R1 3 ∈ TB ∧ Cond.initialized R1 ∈ TB := ⟨ck_R5_26, inst1, tb_t 5 (by decide +kernel)⟩
theorem ck_R5_32 : Cond.classLink R5 32 R2 ∈ TB := tb_t 55 (by decide +kernel)
theorem cko_R5_32 : Cond.classLink R5 32 R2 ∈ TB ∧ Cond.instantiable R2 5 ∈ TB ∧ Cond.initialized R2 ∈ TB := ⟨ck_R5_32, inst2, tb_t 6 (by decide +kernel)⟩
theorem ck_R5_47 : Cond.classLink R5 47 R0 ∈ TB := tb_t 78 (by decide +kernel)
theorem cko_R5_47 : Cond.classLink R5 47 R0 ∈ TB ∧ Cond.instantiable R0 19 ∈ TB ∧ Cond.initialized R0 ∈ TB := ⟨ck_R5_47, inst0, tb_t 4 (by decide +kernel)⟩
theorem ck_R2_24 : Cond.classLink R2 24 R1 ∈ TB := tb_t 183 (by decide +kernel)
theorem cko_R2_24 : Cond.classLink R2 24 R1 ∈ TB ∧ Cond.instantiable R1 3 ∈ TB ∧ Cond.initialized R1 ∈ TB := ⟨ck_R2_24, inst1, tb_t 5 (by decide +kernel)⟩
theorem ck_R_law_7 : Cond.classLink R_law 7 R5 ∈ TB := tb_t 16 (by decide +kernel)
theorem cko_R_law_7 : Cond.classLink R_law 7 R5 ∈ TB ∧ Cond.instantiable R5 10 ∈ TB ∧ Cond.initialized R5 ∈ TB := ⟨ck_R_law_7, inst5, tb_t 1 (by decide +kernel)⟩
theorem ck_R_law_10 : Cond.classLink R_law 10 R6 ∈ TB := tb_t 767 (by decide +kernel)
theorem cko_R_law_10 : Cond.classLink R_law 10 R6 ∈ TB ∧ Cond.instantiable R6 34 ∈ TB ∧ Cond.initialized R6 ∈ TB := ⟨ck_R_law_10, inst6, tb_t 7 (by decide +kernel)⟩
theorem arc_0 : Cond.arrayClass (newarray.typeOf .int) ∈ TB := tb_t 52 (by decide +kernel)
theorem arc_1 : Cond.arrayClass (newarray.typeOf .boolean) ∈ TB := tb_t 877 (by decide +kernel)
theorem arc_2 : Cond.arrayClass (newarray.typeOf .char) ∈ TB := tb_t 876 (by decide +kernel)
theorem vp_fls {b k : Nat} {f : Nat → Int32} {sl : List Sl} {s : Sl} (h : sl[k]? = some s) : vp_V (fls b f sl) k = slv b f k s := by
  unfold vp_V
  rw [List.getD_eq_getElem?_getD, fls_at h]
  rfl
theorem dfl0 : ∀ (b k : Nat), k < 19 → defaultValue (ty0 k) = vp_V (fls b (fun _ => 0) [some none, some none, none, some none, none, some none, some none, some none, some none, some none, some none, some none, some none, none, none, none, none, none, none]) k := by
  intro b k hk
  match k, hk with
  | 0, _ => refine Eq.trans ?_ (vp_fls (s := some none) ?_).symm <;> rfl
  | 1, _ => refine Eq.trans ?_ (vp_fls (s := some none) ?_).symm <;> rfl
  | 2, _ => refine Eq.trans ?_ (vp_fls (s := none) ?_).symm <;> rfl
  | 3, _ => refine Eq.trans ?_ (vp_fls (s := some none) ?_).symm <;> rfl
  | 4, _ => refine Eq.trans ?_ (vp_fls (s := none) ?_).symm <;> rfl
  | 5, _ => refine Eq.trans ?_ (vp_fls (s := some none) ?_).symm <;> rfl
  | 6, _ => refine Eq.trans ?_ (vp_fls (s := some none) ?_).symm <;> rfl
  | 7, _ => refine Eq.trans ?_ (vp_fls (s := some none) ?_).symm <;> rfl
  | 8, _ => refine Eq.trans ?_ (vp_fls (s := some none) ?_).symm <;> rfl
  | 9, _ => refine Eq.trans ?_ (vp_fls (s := some none) ?_).symm <;> rfl
  | 10, _ => refine Eq.trans ?_ (vp_fls (s := some none) ?_).symm <;> rfl
  | 11, _ => refine Eq.trans ?_ (vp_fls (s := some none) ?_).symm <;> rfl
  | 12, _ => refine Eq.trans ?_ (vp_fls (s := some none) ?_).symm <;> rfl
  | 13, _ => refine Eq.trans ?_ (vp_fls (s := none) ?_).symm <;> rfl
  | 14, _ => refine Eq.trans ?_ (vp_fls (s := none) ?_).symm <;> rfl
  | 15, _ => refine Eq.trans ?_ (vp_fls (s := none) ?_).symm <;> rfl
  | 16, _ => refine Eq.trans ?_ (vp_fls (s := none) ?_).symm <;> rfl
  | 17, _ => refine Eq.trans ?_ (vp_fls (s := none) ?_).symm <;> rfl
  | 18, _ => refine Eq.trans ?_ (vp_fls (s := none) ?_).symm <;> rfl
  | k + 19, h => exact absurd h (by omega)
theorem dfl1 : ∀ (b k : Nat), k < 3 → defaultValue (ty1 k) = vp_V (fls b (fun _ => 0) [none, none, some none]) k := by
  intro b k hk
  match k, hk with
  | 0, _ => refine Eq.trans ?_ (vp_fls (s := none) ?_).symm <;> rfl
  | 1, _ => refine Eq.trans ?_ (vp_fls (s := none) ?_).symm <;> rfl
  | 2, _ => refine Eq.trans ?_ (vp_fls (s := some none) ?_).symm <;> rfl
  | k + 3, h => exact absurd h (by omega)
theorem dfl2 : ∀ (b k : Nat), k < 5 → defaultValue (ty2 k) = vp_V (fls b (fun _ => 0) [none, none, none, none, some none]) k := by
  intro b k hk
  match k, hk with
  | 0, _ => refine Eq.trans ?_ (vp_fls (s := none) ?_).symm <;> rfl
  | 1, _ => refine Eq.trans ?_ (vp_fls (s := none) ?_).symm <;> rfl
  | 2, _ => refine Eq.trans ?_ (vp_fls (s := none) ?_).symm <;> rfl
  | 3, _ => refine Eq.trans ?_ (vp_fls (s := none) ?_).symm <;> rfl
  | 4, _ => refine Eq.trans ?_ (vp_fls (s := some none) ?_).symm <;> rfl
  | k + 5, h => exact absurd h (by omega)
theorem dfl3 : ∀ (b k : Nat), k < 6 → defaultValue (ty3 k) = vp_V (fls b (fun _ => 0) [none, some none, none, none, none, none]) k := by
  intro b k hk
  match k, hk with
  | 0, _ => refine Eq.trans ?_ (vp_fls (s := none) ?_).symm <;> rfl
  | 1, _ => refine Eq.trans ?_ (vp_fls (s := some none) ?_).symm <;> rfl
  | 2, _ => refine Eq.trans ?_ (vp_fls (s := none) ?_).symm <;> rfl
  | 3, _ => refine Eq.trans ?_ (vp_fls (s := none) ?_).symm <;> rfl
  | 4, _ => refine Eq.trans ?_ (vp_fls (s := none) ?_).symm <;> rfl
  | 5, _ => refine Eq.trans ?_ (vp_fls (s := none) ?_).symm <;> rfl
  | k + 6, h => exact absurd h (by omega)
theorem dfl4 : ∀ (b k : Nat), k < 4 → defaultValue (ty4 k) = vp_V (fls b (fun _ => 0) [none, none, none, some none]) k := by
  intro b k hk
  match k, hk with
  | 0, _ => refine Eq.trans ?_ (vp_fls (s := none) ?_).symm <;> rfl
  | 1, _ => refine Eq.trans ?_ (vp_fls (s := none) ?_).symm <;> rfl
  | 2, _ => refine Eq.trans ?_ (vp_fls (s := none) ?_).symm <;> rfl
  | 3, _ => refine Eq.trans ?_ (vp_fls (s := some none) ?_).symm <;> rfl
  | k + 4, h => exact absurd h (by omega)
theorem dfl5 : ∀ (b k : Nat), k < 10 → defaultValue (ty5 k) = vp_V (fls b (fun _ => 0) [some none, some none, some none, some none, some none, none, some none, some none, some none, none]) k := by
  intro b k hk
  match k, hk with
  | 0, _ => refine Eq.trans ?_ (vp_fls (s := some none) ?_).symm <;> rfl
  | 1, _ => refine Eq.trans ?_ (vp_fls (s := some none) ?_).symm <;> rfl
  | 2, _ => refine Eq.trans ?_ (vp_fls (s := some none) ?_).symm <;> rfl
  | 3, _ => refine Eq.trans ?_ (vp_fls (s := some none) ?_).symm <;> rfl
  | 4, _ => refine Eq.trans ?_ (vp_fls (s := some none) ?_).symm <;> rfl
  | 5, _ => refine Eq.trans ?_ (vp_fls (s := none) ?_).symm <;> rfl
  | 6, _ => refine Eq.trans ?_ (vp_fls (s := some none) ?_).symm <;> rfl
  | 7, _ => refine Eq.trans ?_ (vp_fls (s := some none) ?_).symm <;> rfl
  | 8, _ => refine Eq.trans ?_ (vp_fls (s := some none) ?_).symm <;> rfl
  | 9, _ => refine Eq.trans ?_ (vp_fls (s := none) ?_).symm <;> rfl
  | k + 10, h => exact absurd h (by omega)
theorem dfl6 : ∀ (b k : Nat), k < 34 → defaultValue (ty6 k) = vp_V (fls b (fun _ => 0) [some none, some none, some none, none, none, some none, some none, none, none, none, none, none, none, none, some none, some none, some none, none, none, some none, none, some none, some none, some none, some none, some none, some none, some none, some none, some none, some none, some none, some none, none]) k := by
  intro b k hk
  match k, hk with
  | 0, _ => refine Eq.trans ?_ (vp_fls (s := some none) ?_).symm <;> rfl
  | 1, _ => refine Eq.trans ?_ (vp_fls (s := some none) ?_).symm <;> rfl
  | 2, _ => refine Eq.trans ?_ (vp_fls (s := some none) ?_).symm <;> rfl
  | 3, _ => refine Eq.trans ?_ (vp_fls (s := none) ?_).symm <;> rfl
  | 4, _ => refine Eq.trans ?_ (vp_fls (s := none) ?_).symm <;> rfl
  | 5, _ => refine Eq.trans ?_ (vp_fls (s := some none) ?_).symm <;> rfl
  | 6, _ => refine Eq.trans ?_ (vp_fls (s := some none) ?_).symm <;> rfl
  | 7, _ => refine Eq.trans ?_ (vp_fls (s := none) ?_).symm <;> rfl
  | 8, _ => refine Eq.trans ?_ (vp_fls (s := none) ?_).symm <;> rfl
  | 9, _ => refine Eq.trans ?_ (vp_fls (s := none) ?_).symm <;> rfl
  | 10, _ => refine Eq.trans ?_ (vp_fls (s := none) ?_).symm <;> rfl
  | 11, _ => refine Eq.trans ?_ (vp_fls (s := none) ?_).symm <;> rfl
  | 12, _ => refine Eq.trans ?_ (vp_fls (s := none) ?_).symm <;> rfl
  | 13, _ => refine Eq.trans ?_ (vp_fls (s := none) ?_).symm <;> rfl
  | 14, _ => refine Eq.trans ?_ (vp_fls (s := some none) ?_).symm <;> rfl
  | 15, _ => refine Eq.trans ?_ (vp_fls (s := some none) ?_).symm <;> rfl
  | 16, _ => refine Eq.trans ?_ (vp_fls (s := some none) ?_).symm <;> rfl
  | 17, _ => refine Eq.trans ?_ (vp_fls (s := none) ?_).symm <;> rfl
  | 18, _ => refine Eq.trans ?_ (vp_fls (s := none) ?_).symm <;> rfl
  | 19, _ => refine Eq.trans ?_ (vp_fls (s := some none) ?_).symm <;> rfl
  | 20, _ => refine Eq.trans ?_ (vp_fls (s := none) ?_).symm <;> rfl
  | 21, _ => refine Eq.trans ?_ (vp_fls (s := some none) ?_).symm <;> rfl
  | 22, _ => refine Eq.trans ?_ (vp_fls (s := some none) ?_).symm <;> rfl
  | 23, _ => refine Eq.trans ?_ (vp_fls (s := some none) ?_).symm <;> rfl
  | 24, _ => refine Eq.trans ?_ (vp_fls (s := some none) ?_).symm <;> rfl
  | 25, _ => refine Eq.trans ?_ (vp_fls (s := some none) ?_).symm <;> rfl
  | 26, _ => refine Eq.trans ?_ (vp_fls (s := some none) ?_).symm <;> rfl
  | 27, _ => refine Eq.trans ?_ (vp_fls (s := some none) ?_).symm <;> rfl
  | 28, _ => refine Eq.trans ?_ (vp_fls (s := some none) ?_).symm <;> rfl
  | 29, _ => refine Eq.trans ?_ (vp_fls (s := some none) ?_).symm <;> rfl
  | 30, _ => refine Eq.trans ?_ (vp_fls (s := some none) ?_).symm <;> rfl
  | 31, _ => refine Eq.trans ?_ (vp_fls (s := some none) ?_).symm <;> rfl
  | 32, _ => refine Eq.trans ?_ (vp_fls (s := some none) ?_).symm <;> rfl
  | 33, _ => refine Eq.trans ?_ (vp_fls (s := none) ?_).symm <;> rfl
  | k + 34, h => exact absurd h (by omega)
theorem pr_R5_11 : ∃ q : vw_C, CL[5]? = some q ∧ 0 < q.2.2 ∧ Cond.fieldLink R5 11 (q.2.1 0).1 (q.2.1 0).2.1 (q.2.1 0).2.2.1 ∈ TB ∧ parseFieldDescriptor (q.2.1 0).2.2.1 = some (.array (.object "SandPicture$Text")) ∧ (q.2.1 0).2.2.2 = true ∧ (q.2.1 0).1 = R5 := ⟨_, rfl, by decide, tb_t 206 (by decide +kernel), by decide +kernel, by decide +kernel, rfl⟩
theorem pr_R5_18 : ∃ q : vw_C, CL[5]? = some q ∧ 1 < q.2.2 ∧ Cond.fieldLink R5 18 (q.2.1 1).1 (q.2.1 1).2.1 (q.2.1 1).2.2.1 ∈ TB ∧ parseFieldDescriptor (q.2.1 1).2.2.1 = some (.object "SandPicture$Tape") ∧ (q.2.1 1).2.2.2 = true ∧ (q.2.1 1).1 = R5 := ⟨_, rfl, by decide, tb_t 207 (by decide +kernel), by decide +kernel, by decide +kernel, rfl⟩
theorem pr_R5_28 : ∃ q : vw_C, CL[5]? = some q ∧ 6 < q.2.2 ∧ Cond.fieldLink R5 28 (q.2.1 6).1 (q.2.1 6).2.1 (q.2.1 6).2.2.1 ∈ TB ∧ parseFieldDescriptor (q.2.1 6).2.2.1 = some (.array (.object "SandPicture$Sheet")) ∧ (q.2.1 6).2.2.2 = true ∧ (q.2.1 6).1 = R5 := ⟨_, rfl, by decide, tb_t 212 (by decide +kernel), by decide +kernel, by decide +kernel, rfl⟩
theorem pr_R5_34 : ∃ q : vw_C, CL[5]? = some q ∧ 7 < q.2.2 ∧ Cond.fieldLink R5 34 (q.2.1 7).1 (q.2.1 7).2.1 (q.2.1 7).2.2.1 ∈ TB ∧ parseFieldDescriptor (q.2.1 7).2.2.1 = some (.array (.object "SandPicture$Slot")) ∧ (q.2.1 7).2.2.2 = true ∧ (q.2.1 7).1 = R5 := ⟨_, rfl, by decide, tb_t 213 (by decide +kernel), by decide +kernel, by decide +kernel, rfl⟩
theorem pr_R5_38 : ∃ q : vw_C, CL[5]? = some q ∧ 8 < q.2.2 ∧ Cond.fieldLink R5 38 (q.2.1 8).1 (q.2.1 8).2.1 (q.2.1 8).2.2.1 ∈ TB ∧ parseFieldDescriptor (q.2.1 8).2.2.1 = some (.array .int) ∧ (q.2.1 8).2.2.2 = true ∧ (q.2.1 8).1 = R5 := ⟨_, rfl, by decide, tb_t 214 (by decide +kernel), by decide +kernel, by decide +kernel, rfl⟩
theorem pr_R5_52 : ∃ q : vw_C, CL[5]? = some q ∧ 2 < q.2.2 ∧ Cond.fieldLink R5 52 (q.2.1 2).1 (q.2.1 2).2.1 (q.2.1 2).2.2.1 ∈ TB ∧ parseFieldDescriptor (q.2.1 2).2.2.1 = some (.object "SandPicture$Picture") ∧ (q.2.1 2).2.2.2 = true ∧ (q.2.1 2).1 = R5 := ⟨_, rfl, by decide, tb_t 208 (by decide +kernel), by decide +kernel, by decide +kernel, rfl⟩
theorem pr_R5_56 : ∃ q : vw_C, CL[5]? = some q ∧ 3 < q.2.2 ∧ Cond.fieldLink R5 56 (q.2.1 3).1 (q.2.1 3).2.1 (q.2.1 3).2.2.1 ∈ TB ∧ parseFieldDescriptor (q.2.1 3).2.2.1 = some (.object "SandPicture$Picture") ∧ (q.2.1 3).2.2.2 = true ∧ (q.2.1 3).1 = R5 := ⟨_, rfl, by decide, tb_t 209 (by decide +kernel), by decide +kernel, by decide +kernel, rfl⟩
theorem pr_R5_59 : ∃ q : vw_C, CL[5]? = some q ∧ 4 < q.2.2 ∧ Cond.fieldLink R5 59 (q.2.1 4).1 (q.2.1 4).2.1 (q.2.1 4).2.2.1 ∈ TB ∧ parseFieldDescriptor (q.2.1 4).2.2.1 = some (.object "SandPicture$Picture") ∧ (q.2.1 4).2.2.2 = true ∧ (q.2.1 4).1 = R5 := ⟨_, rfl, by decide, tb_t 210 (by decide +kernel), by decide +kernel, by decide +kernel, rfl⟩
theorem pr_R0_16 : ∃ q : vw_C, CL[0]? = some q ∧ 3 < q.2.2 ∧ Cond.fieldLink R0 16 (q.2.1 3).1 (q.2.1 3).2.1 (q.2.1 3).2.2.1 ∈ TB ∧ parseFieldDescriptor (q.2.1 3).2.2.1 = some (.array .int) ∧ (q.2.1 3).2.2.2 = true ∧ (q.2.1 3).1 = R0 := ⟨_, rfl, by decide, tb_t 89 (by decide +kernel), by decide +kernel, by decide +kernel, rfl⟩
theorem pr_R0_23 : ∃ q : vw_C, CL[0]? = some q ∧ 5 < q.2.2 ∧ Cond.fieldLink R0 23 (q.2.1 5).1 (q.2.1 5).2.1 (q.2.1 5).2.2.1 ∈ TB ∧ parseFieldDescriptor (q.2.1 5).2.2.1 = some (.array .int) ∧ (q.2.1 5).2.2.2 = true ∧ (q.2.1 5).1 = R0 := ⟨_, rfl, by decide, tb_t 93 (by decide +kernel), by decide +kernel, by decide +kernel, rfl⟩
theorem pr_R0_26 : ∃ q : vw_C, CL[0]? = some q ∧ 6 < q.2.2 ∧ Cond.fieldLink R0 26 (q.2.1 6).1 (q.2.1 6).2.1 (q.2.1 6).2.2.1 ∈ TB ∧ parseFieldDescriptor (q.2.1 6).2.2.1 = some (.array .int) ∧ (q.2.1 6).2.2.2 = true ∧ (q.2.1 6).1 = R0 := ⟨_, rfl, by decide, tb_t 95 (by decide +kernel), by decide +kernel, by decide +kernel, rfl⟩
theorem pr_R0_29 : ∃ q : vw_C, CL[0]? = some q ∧ 7 < q.2.2 ∧ Cond.fieldLink R0 29 (q.2.1 7).1 (q.2.1 7).2.1 (q.2.1 7).2.2.1 ∈ TB ∧ parseFieldDescriptor (q.2.1 7).2.2.1 = some (.array .int) ∧ (q.2.1 7).2.2.2 = true ∧ (q.2.1 7).1 = R0 := ⟨_, rfl, by decide, tb_t 97 (by decide +kernel), by decide +kernel, by decide +kernel, rfl⟩
theorem pr_R0_32 : ∃ q : vw_C, CL[0]? = some q ∧ 8 < q.2.2 ∧ Cond.fieldLink R0 32 (q.2.1 8).1 (q.2.1 8).2.1 (q.2.1 8).2.2.1 ∈ TB ∧ parseFieldDescriptor (q.2.1 8).2.2.1 = some (.array .int) ∧ (q.2.1 8).2.2.2 = true ∧ (q.2.1 8).1 = R0 := ⟨_, rfl, by decide, tb_t 99 (by decide +kernel), by decide +kernel, by decide +kernel, rfl⟩
theorem pr_R0_35 : ∃ q : vw_C, CL[0]? = some q ∧ 9 < q.2.2 ∧ Cond.fieldLink R0 35 (q.2.1 9).1 (q.2.1 9).2.1 (q.2.1 9).2.2.1 ∈ TB ∧ parseFieldDescriptor (q.2.1 9).2.2.1 = some (.array .int) ∧ (q.2.1 9).2.2.2 = true ∧ (q.2.1 9).1 = R0 := ⟨_, rfl, by decide, tb_t 101 (by decide +kernel), by decide +kernel, by decide +kernel, rfl⟩
theorem pr_R0_38 : ∃ q : vw_C, CL[0]? = some q ∧ 10 < q.2.2 ∧ Cond.fieldLink R0 38 (q.2.1 10).1 (q.2.1 10).2.1 (q.2.1 10).2.2.1 ∈ TB ∧ parseFieldDescriptor (q.2.1 10).2.2.1 = some (.array .int) ∧ (q.2.1 10).2.2.2 = true ∧ (q.2.1 10).1 = R0 := ⟨_, rfl, by decide, tb_t 103 (by decide +kernel), by decide +kernel, by decide +kernel, rfl⟩
theorem pr_R0_41 : ∃ q : vw_C, CL[0]? = some q ∧ 11 < q.2.2 ∧ Cond.fieldLink R0 41 (q.2.1 11).1 (q.2.1 11).2.1 (q.2.1 11).2.2.1 ∈ TB ∧ parseFieldDescriptor (q.2.1 11).2.2.1 = some (.array .int) ∧ (q.2.1 11).2.2.2 = true ∧ (q.2.1 11).1 = R0 := ⟨_, rfl, by decide, tb_t 105 (by decide +kernel), by decide +kernel, by decide +kernel, rfl⟩
theorem pr_R0_44 : ∃ q : vw_C, CL[0]? = some q ∧ 12 < q.2.2 ∧ Cond.fieldLink R0 44 (q.2.1 12).1 (q.2.1 12).2.1 (q.2.1 12).2.2.1 ∈ TB ∧ parseFieldDescriptor (q.2.1 12).2.2.1 = some (.array .int) ∧ (q.2.1 12).2.2.2 = true ∧ (q.2.1 12).1 = R0 := ⟨_, rfl, by decide, tb_t 107 (by decide +kernel), by decide +kernel, by decide +kernel, rfl⟩
theorem pr_R0_65 : ∃ q : vw_C, CL[0]? = some q ∧ 0 < q.2.2 ∧ Cond.fieldLink R0 65 (q.2.1 0).1 (q.2.1 0).2.1 (q.2.1 0).2.2.1 ∈ TB ∧ parseFieldDescriptor (q.2.1 0).2.2.1 = some (.array (.object "SandPicture$Text")) ∧ (q.2.1 0).2.2.2 = true ∧ (q.2.1 0).1 = R0 := ⟨_, rfl, by decide, tb_t 85 (by decide +kernel), by decide +kernel, by decide +kernel, rfl⟩
theorem pr_R0_69 : ∃ q : vw_C, CL[0]? = some q ∧ 1 < q.2.2 ∧ Cond.fieldLink R0 69 (q.2.1 1).1 (q.2.1 1).2.1 (q.2.1 1).2.2.1 ∈ TB ∧ parseFieldDescriptor (q.2.1 1).2.2.1 = some (.array .int) ∧ (q.2.1 1).2.2.2 = true ∧ (q.2.1 1).1 = R0 := ⟨_, rfl, by decide, tb_t 86 (by decide +kernel), by decide +kernel, by decide +kernel, rfl⟩
theorem pr_R1_18 : ∃ q : vw_C, CL[1]? = some q ∧ 2 < q.2.2 ∧ Cond.fieldLink R1 18 (q.2.1 2).1 (q.2.1 2).2.1 (q.2.1 2).2.2.1 ∈ TB ∧ parseFieldDescriptor (q.2.1 2).2.2.1 = some (.array .int) ∧ (q.2.1 2).2.2.2 = true ∧ (q.2.1 2).1 = R1 := ⟨_, rfl, by decide, tb_t 169 (by decide +kernel), by decide +kernel, by decide +kernel, rfl⟩
theorem pr_R2_27 : ∃ q : vw_C, CL[2]? = some q ∧ 4 < q.2.2 ∧ Cond.fieldLink R2 27 (q.2.1 4).1 (q.2.1 4).2.1 (q.2.1 4).2.2.1 ∈ TB ∧ parseFieldDescriptor (q.2.1 4).2.2.1 = some (.object "SandPicture$Sheet") ∧ (q.2.1 4).2.2.2 = true ∧ (q.2.1 4).1 = R2 := ⟨_, rfl, by decide, tb_t 193 (by decide +kernel), by decide +kernel, by decide +kernel, rfl⟩
theorem pr_R3_15 : ∃ q : vw_C, CL[3]? = some q ∧ 1 < q.2.2 ∧ Cond.fieldLink R3 15 (q.2.1 1).1 (q.2.1 1).2.1 (q.2.1 1).2.2.1 ∈ TB ∧ parseFieldDescriptor (q.2.1 1).2.2.1 = some (.array .int) ∧ (q.2.1 1).2.2.2 = true ∧ (q.2.1 1).1 = R3 := ⟨_, rfl, by decide, tb_t 34 (by decide +kernel), by decide +kernel, by decide +kernel, rfl⟩
theorem pr_R4_21 : ∃ q : vw_C, CL[4]? = some q ∧ 3 < q.2.2 ∧ Cond.fieldLink R4 21 (q.2.1 3).1 (q.2.1 3).2.1 (q.2.1 3).2.2.1 ∈ TB ∧ parseFieldDescriptor (q.2.1 3).2.2.1 = some (.array .int) ∧ (q.2.1 3).2.2.2 = true ∧ (q.2.1 3).1 = R4 := ⟨_, rfl, by decide, tb_t 68 (by decide +kernel), by decide +kernel, by decide +kernel, rfl⟩
theorem pr_R6_9 : ∃ q : vw_C, CL[6]? = some q ∧ 0 < q.2.2 ∧ Cond.fieldLink R6 9 (q.2.1 0).1 (q.2.1 0).2.1 (q.2.1 0).2.2.1 ∈ TB ∧ parseFieldDescriptor (q.2.1 0).2.2.1 = some (.array .int) ∧ (q.2.1 0).2.2.2 = true ∧ (q.2.1 0).1 = R6 := ⟨_, rfl, by decide, tb_t 773 (by decide +kernel), by decide +kernel, by decide +kernel, rfl⟩
theorem pr_R6_13 : ∃ q : vw_C, CL[6]? = some q ∧ 1 < q.2.2 ∧ Cond.fieldLink R6 13 (q.2.1 1).1 (q.2.1 1).2.1 (q.2.1 1).2.2.1 ∈ TB ∧ parseFieldDescriptor (q.2.1 1).2.2.1 = some (.array .int) ∧ (q.2.1 1).2.2.2 = true ∧ (q.2.1 1).1 = R6 := ⟨_, rfl, by decide, tb_t 774 (by decide +kernel), by decide +kernel, by decide +kernel, rfl⟩
theorem pr_R6_16 : ∃ q : vw_C, CL[6]? = some q ∧ 2 < q.2.2 ∧ Cond.fieldLink R6 16 (q.2.1 2).1 (q.2.1 2).2.1 (q.2.1 2).2.2.1 ∈ TB ∧ parseFieldDescriptor (q.2.1 2).2.2.1 = some (.array .int) ∧ (q.2.1 2).2.2.2 = true ∧ (q.2.1 2).1 = R6 := ⟨_, rfl, by decide, tb_t 775 (by decide +kernel), by decide +kernel, by decide +kernel, rfl⟩
theorem pr_R6_23 : ∃ q : vw_C, CL[6]? = some q ∧ 5 < q.2.2 ∧ Cond.fieldLink R6 23 (q.2.1 5).1 (q.2.1 5).2.1 (q.2.1 5).2.2.1 ∈ TB ∧ parseFieldDescriptor (q.2.1 5).2.2.1 = some (.array .int) ∧ (q.2.1 5).2.2.2 = true ∧ (q.2.1 5).1 = R6 := ⟨_, rfl, by decide, tb_t 778 (by decide +kernel), by decide +kernel, by decide +kernel, rfl⟩
theorem pr_R6_26 : ∃ q : vw_C, CL[6]? = some q ∧ 6 < q.2.2 ∧ Cond.fieldLink R6 26 (q.2.1 6).1 (q.2.1 6).2.1 (q.2.1 6).2.2.1 ∈ TB ∧ parseFieldDescriptor (q.2.1 6).2.2.1 = some (.array .int) ∧ (q.2.1 6).2.2.2 = true ∧ (q.2.1 6).1 = R6 := ⟨_, rfl, by decide, tb_t 779 (by decide +kernel), by decide +kernel, by decide +kernel, rfl⟩
theorem pr_R6_29 : ∃ q : vw_C, CL[6]? = some q ∧ 14 < q.2.2 ∧ Cond.fieldLink R6 29 (q.2.1 14).1 (q.2.1 14).2.1 (q.2.1 14).2.2.1 ∈ TB ∧ parseFieldDescriptor (q.2.1 14).2.2.1 = some (.array .char) ∧ (q.2.1 14).2.2.2 = true ∧ (q.2.1 14).1 = R6 := ⟨_, rfl, by decide, tb_t 787 (by decide +kernel), by decide +kernel, by decide +kernel, rfl⟩
theorem pr_R6_33 : ∃ q : vw_C, CL[6]? = some q ∧ 15 < q.2.2 ∧ Cond.fieldLink R6 33 (q.2.1 15).1 (q.2.1 15).2.1 (q.2.1 15).2.2.1 ∈ TB ∧ parseFieldDescriptor (q.2.1 15).2.2.1 = some (.array .int) ∧ (q.2.1 15).2.2.2 = true ∧ (q.2.1 15).1 = R6 := ⟨_, rfl, by decide, tb_t 788 (by decide +kernel), by decide +kernel, by decide +kernel, rfl⟩
theorem pr_R6_36 : ∃ q : vw_C, CL[6]? = some q ∧ 16 < q.2.2 ∧ Cond.fieldLink R6 36 (q.2.1 16).1 (q.2.1 16).2.1 (q.2.1 16).2.2.1 ∈ TB ∧ parseFieldDescriptor (q.2.1 16).2.2.1 = some (.array .int) ∧ (q.2.1 16).2.2.2 = true ∧ (q.2.1 16).1 = R6 := ⟨_, rfl, by decide, tb_t 789 (by decide +kernel), by decide +kernel, by decide +kernel, rfl⟩
theorem pr_R6_39 : ∃ q : vw_C, CL[6]? = some q ∧ 19 < q.2.2 ∧ Cond.fieldLink R6 39 (q.2.1 19).1 (q.2.1 19).2.1 (q.2.1 19).2.2.1 ∈ TB ∧ parseFieldDescriptor (q.2.1 19).2.2.1 = some (.array .int) ∧ (q.2.1 19).2.2.2 = true ∧ (q.2.1 19).1 = R6 := ⟨_, rfl, by decide, tb_t 792 (by decide +kernel), by decide +kernel, by decide +kernel, rfl⟩
theorem pr_R6_42 : ∃ q : vw_C, CL[6]? = some q ∧ 21 < q.2.2 ∧ Cond.fieldLink R6 42 (q.2.1 21).1 (q.2.1 21).2.1 (q.2.1 21).2.2.1 ∈ TB ∧ parseFieldDescriptor (q.2.1 21).2.2.1 = some (.array .boolean) ∧ (q.2.1 21).2.2.2 = true ∧ (q.2.1 21).1 = R6 := ⟨_, rfl, by decide, tb_t 794 (by decide +kernel), by decide +kernel, by decide +kernel, rfl⟩
theorem pr_R6_46 : ∃ q : vw_C, CL[6]? = some q ∧ 22 < q.2.2 ∧ Cond.fieldLink R6 46 (q.2.1 22).1 (q.2.1 22).2.1 (q.2.1 22).2.2.1 ∈ TB ∧ parseFieldDescriptor (q.2.1 22).2.2.1 = some (.array .int) ∧ (q.2.1 22).2.2.2 = true ∧ (q.2.1 22).1 = R6 := ⟨_, rfl, by decide, tb_t 795 (by decide +kernel), by decide +kernel, by decide +kernel, rfl⟩
theorem pr_R6_49 : ∃ q : vw_C, CL[6]? = some q ∧ 23 < q.2.2 ∧ Cond.fieldLink R6 49 (q.2.1 23).1 (q.2.1 23).2.1 (q.2.1 23).2.2.1 ∈ TB ∧ parseFieldDescriptor (q.2.1 23).2.2.1 = some (.array .int) ∧ (q.2.1 23).2.2.2 = true ∧ (q.2.1 23).1 = R6 := ⟨_, rfl, by decide, tb_t 796 (by decide +kernel), by decide +kernel, by decide +kernel, rfl⟩
theorem pr_R6_52 : ∃ q : vw_C, CL[6]? = some q ∧ 24 < q.2.2 ∧ Cond.fieldLink R6 52 (q.2.1 24).1 (q.2.1 24).2.1 (q.2.1 24).2.2.1 ∈ TB ∧ parseFieldDescriptor (q.2.1 24).2.2.1 = some (.array .int) ∧ (q.2.1 24).2.2.2 = true ∧ (q.2.1 24).1 = R6 := ⟨_, rfl, by decide, tb_t 797 (by decide +kernel), by decide +kernel, by decide +kernel, rfl⟩
theorem pr_R6_55 : ∃ q : vw_C, CL[6]? = some q ∧ 25 < q.2.2 ∧ Cond.fieldLink R6 55 (q.2.1 25).1 (q.2.1 25).2.1 (q.2.1 25).2.2.1 ∈ TB ∧ parseFieldDescriptor (q.2.1 25).2.2.1 = some (.array .int) ∧ (q.2.1 25).2.2.2 = true ∧ (q.2.1 25).1 = R6 := ⟨_, rfl, by decide, tb_t 798 (by decide +kernel), by decide +kernel, by decide +kernel, rfl⟩
theorem pr_R6_58 : ∃ q : vw_C, CL[6]? = some q ∧ 26 < q.2.2 ∧ Cond.fieldLink R6 58 (q.2.1 26).1 (q.2.1 26).2.1 (q.2.1 26).2.2.1 ∈ TB ∧ parseFieldDescriptor (q.2.1 26).2.2.1 = some (.array .int) ∧ (q.2.1 26).2.2.2 = true ∧ (q.2.1 26).1 = R6 := ⟨_, rfl, by decide, tb_t 799 (by decide +kernel), by decide +kernel, by decide +kernel, rfl⟩
theorem pr_R6_61 : ∃ q : vw_C, CL[6]? = some q ∧ 27 < q.2.2 ∧ Cond.fieldLink R6 61 (q.2.1 27).1 (q.2.1 27).2.1 (q.2.1 27).2.2.1 ∈ TB ∧ parseFieldDescriptor (q.2.1 27).2.2.1 = some (.array .int) ∧ (q.2.1 27).2.2.2 = true ∧ (q.2.1 27).1 = R6 := ⟨_, rfl, by decide, tb_t 800 (by decide +kernel), by decide +kernel, by decide +kernel, rfl⟩
theorem pr_R6_64 : ∃ q : vw_C, CL[6]? = some q ∧ 28 < q.2.2 ∧ Cond.fieldLink R6 64 (q.2.1 28).1 (q.2.1 28).2.1 (q.2.1 28).2.2.1 ∈ TB ∧ parseFieldDescriptor (q.2.1 28).2.2.1 = some (.array .int) ∧ (q.2.1 28).2.2.2 = true ∧ (q.2.1 28).1 = R6 := ⟨_, rfl, by decide, tb_t 801 (by decide +kernel), by decide +kernel, by decide +kernel, rfl⟩
theorem pr_R6_67 : ∃ q : vw_C, CL[6]? = some q ∧ 29 < q.2.2 ∧ Cond.fieldLink R6 67 (q.2.1 29).1 (q.2.1 29).2.1 (q.2.1 29).2.2.1 ∈ TB ∧ parseFieldDescriptor (q.2.1 29).2.2.1 = some (.array .int) ∧ (q.2.1 29).2.2.2 = true ∧ (q.2.1 29).1 = R6 := ⟨_, rfl, by decide, tb_t 802 (by decide +kernel), by decide +kernel, by decide +kernel, rfl⟩
theorem pr_R6_70 : ∃ q : vw_C, CL[6]? = some q ∧ 30 < q.2.2 ∧ Cond.fieldLink R6 70 (q.2.1 30).1 (q.2.1 30).2.1 (q.2.1 30).2.2.1 ∈ TB ∧ parseFieldDescriptor (q.2.1 30).2.2.1 = some (.array .int) ∧ (q.2.1 30).2.2.2 = true ∧ (q.2.1 30).1 = R6 := ⟨_, rfl, by decide, tb_t 803 (by decide +kernel), by decide +kernel, by decide +kernel, rfl⟩
theorem pr_R6_73 : ∃ q : vw_C, CL[6]? = some q ∧ 31 < q.2.2 ∧ Cond.fieldLink R6 73 (q.2.1 31).1 (q.2.1 31).2.1 (q.2.1 31).2.2.1 ∈ TB ∧ parseFieldDescriptor (q.2.1 31).2.2.1 = some (.array .int) ∧ (q.2.1 31).2.2.2 = true ∧ (q.2.1 31).1 = R6 := ⟨_, rfl, by decide, tb_t 804 (by decide +kernel), by decide +kernel, by decide +kernel, rfl⟩
theorem pr_R6_76 : ∃ q : vw_C, CL[6]? = some q ∧ 32 < q.2.2 ∧ Cond.fieldLink R6 76 (q.2.1 32).1 (q.2.1 32).2.1 (q.2.1 32).2.2.1 ∈ TB ∧ parseFieldDescriptor (q.2.1 32).2.2.1 = some (.array .int) ∧ (q.2.1 32).2.2.2 = true ∧ (q.2.1 32).1 = R6 := ⟨_, rfl, by decide, tb_t 805 (by decide +kernel), by decide +kernel, by decide +kernel, rfl⟩
theorem im_P_init : Cond.instanceMethod ⟨"SandPicture$Picture", "<init>", "([LSandPicture$Text;[I)V"⟩ ∈ TB := tb_t 81 (by decide +kernel)
theorem cd_P_init : Cond.code ⟨"SandPicture$Picture", "<init>", "([LSandPicture$Text;[I)V"⟩ prog_3_method_1_code 3 none ∈ TB ∧ Cond.initialized "SandPicture$Picture" ∈ TB := ⟨tb_t 82 (by decide +kernel), tb_t 4 (by decide +kernel)⟩
theorem im_H_init : Cond.instanceMethod ⟨"SandPicture$Sheet", "<init>", "()V"⟩ ∈ TB := tb_t 162 (by decide +kernel)
theorem cd_H_init : Cond.code ⟨"SandPicture$Sheet", "<init>", "()V"⟩ prog_4_method_1_code 1 none ∈ TB ∧ Cond.initialized "SandPicture$Sheet" ∈ TB := ⟨tb_t 163 (by decide +kernel), tb_t 5 (by decide +kernel)⟩
theorem im_L_init : Cond.instanceMethod ⟨"SandPicture$Slot", "<init>", "()V"⟩ ∈ TB := tb_t 180 (by decide +kernel)
theorem cd_L_init : Cond.code ⟨"SandPicture$Slot", "<init>", "()V"⟩ prog_5_method_1_code 1 none ∈ TB ∧ Cond.initialized "SandPicture$Slot" ∈ TB := ⟨tb_t 181 (by decide +kernel), tb_t 6 (by decide +kernel)⟩
theorem im_T_init : Cond.instanceMethod ⟨"SandPicture$Tape", "<init>", "()V"⟩ ∈ TB := tb_t 29 (by decide +kernel)
theorem cd_T_init : Cond.code ⟨"SandPicture$Tape", "<init>", "()V"⟩ prog_6_method_1_code 1 none ∈ TB ∧ Cond.initialized "SandPicture$Tape" ∈ TB := ⟨tb_t 30 (by decide +kernel), tb_t 2 (by decide +kernel)⟩
theorem im_X_init : Cond.instanceMethod ⟨"SandPicture$Text", "<init>", "()V"⟩ ∈ TB := tb_t 59 (by decide +kernel)
theorem cd_X_init : Cond.code ⟨"SandPicture$Text", "<init>", "()V"⟩ prog_7_method_1_code 1 none ∈ TB ∧ Cond.initialized "SandPicture$Text" ∈ TB := ⟨tb_t 60 (by decide +kernel), tb_t 3 (by decide +kernel)⟩
theorem im_S_init : Cond.instanceMethod ⟨"SandPicture", "<init>", "()V"⟩ ∈ TB := tb_t 19 (by decide +kernel)
theorem cd_S_init : Cond.code ⟨"SandPicture", "<init>", "()V"⟩ prog_1_method_1_code 3 none ∈ TB ∧ Cond.initialized "SandPicture" ∈ TB := ⟨tb_t 20 (by decide +kernel), tb_t 1 (by decide +kernel)⟩
theorem im_M_init : Cond.instanceMethod ⟨"SandPictureModel", "<init>", "()V"⟩ ∈ TB := tb_t 770 (by decide +kernel)
theorem cd_M_init : Cond.code ⟨"SandPictureModel", "<init>", "()V"⟩ prog_9_method_1_code 2 none ∈ TB ∧ Cond.initialized "SandPictureModel" ∈ TB := ⟨tb_t 771 (by decide +kernel), tb_t 7 (by decide +kernel)⟩
theorem stdK0 {X : Cx} {E : En} {cc : ByteArray} {own : String} {nL d N O : Nat} (S : Std (cxK X 0 0) E cc own nL d) (h1 : N ≤ (cxR X).cells) (h2 : O ≤ (cxR X).slots) : Std (cxK X N O) E cc own nL d :=
  ⟨S.1, S.2.1, S.2.2.1, S.2.2.2.1, S.2.2.2.2.1, S.2.2.2.2.2.1, S.2.2.2.2.2.2.1, S.2.2.2.2.2.2.2.1, S.2.2.2.2.2.2.2.2.1, h1, h2⟩
theorem rc {X : Cx} {d mc ms N : Nat} (h : cxR X = rmN d mc ms) (hN : N ≤ mc) : N ≤ (cxR X).cells := by rw [h]; exact hN
theorem ro {X : Cx} {d mc ms N : Nat} (h : cxR X = rmN d mc ms) (hN : N ≤ ms) : N ≤ (cxR X).slots := by rw [h]; exact hN
theorem pcut {sh0 L : List Sh} (P Q : List Sh) (h : L = P ++ Q) : sh0 ++ L = (sh0 ++ P) ++ Q := by rw [h, List.append_assoc]
