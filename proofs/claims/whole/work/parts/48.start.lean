def lw_P (b : Addr) (xs : List Int32) (args : Array Value) (s : State) : Prop := args = #[.ref b] ∧ s.IntsAt b xs ∧ xs.length ≤ 3072 ∧ (Jvm.Cond.and given_1 narrow_1).before args s = true
def lw_Q (_ : Array Value) (s : State) (o : Outcome) (t : State) : Prop := o = .returned (some (.int 1)) ∧ Framed s o t [] 600000 7302249
def lw_Z (below : List Frame) (a : Array Value) (s : State) : State → Prop := fun t => ∃ o, t.status = .running ∧ Ended t below o ∧ lw_Q a s o t
/-- the law's own end, with 1 on the stack, nothing written that was there before, its room as the claim has it -/
theorem lw_ret {p : Program} {l : Launch} {e : Env} {s : State} {m : MethodId} {below : List Frame} {meth : Method} {c : Code} {b : Nat} (hx : p.tables.exec = Jvm.exec) (hb : c.code = code) (hr : meth.sig.returnType = ret) (hlocks : meth.locks = false) {pc : Nat} {H : Heap} {ls : Array Slot} (hdg : decode code pc = .ok (.ireturn, 1)) : W p l e room_1 s m #[Value.ref b] below meth c H [] 600000 7302249 (lw_Z below #[Value.ref b] s) (F0 m pc ls [.int 1]) := by
  intro T hT X
  obtain ⟨fs, hret, hrun, hended, hW, hframe⟩ := X.leave (v := some (.int 1)) (hlocks := hlocks) (fun h => by rw [hr] at h; cases h)
  have hmeth' : T.vm.method? m = some meth := X.method'
  refine ⟨T.setFrames fs, ?_, .returned (some (.int 1)), hrun, hended, rfl, ⟨_, rfl⟩, hW, hframe⟩
  jvm_step X.here [X.here.top, hx, hb, hdg, hmeth', hr, ret, narrow_b1]
  (try refine ⟨rfl, ?_⟩); (try refine ⟨rfl, ?_⟩)
  first | (intro acts; rw [hret _ acts rfl rfl rfl]) | rw [hret _ _ rfl rfl rfl]
  exact Steps.refl _
/-- what holds at the law's entry: the machine, the code, the tables' words (any of lw_tbl by 'hts w (by decide +kernel)'), the script of L ints xs at the cell b, what the Statement gives of the start (any of its parts by flat_of_before) -/
def lw_At (p : Program) (s : State) (m : MethodId) (meth : Method) (c : Code) (b L : Nat) (xs : Nat → Int32) : Prop :=
  p.tables.exec = Jvm.exec ∧ c.code = code ∧ meth.sig.returnType = ret ∧ c.maxLocals = 4 ∧ s.vm.findClass R_law = some m.cls ∧ (∀ w ∈ lw_tbl, w.before #[Value.ref b] s = true) ∧ va_X b L xs s s.heap ∧ b < s.heap.size ∧ meth.locks = false ∧ (Jvm.Cond.and given_1 narrow_1).before #[Value.ref b] s = true
/-! THE START: the classes, the texts, the law's first rows, up to its loop -/
theorem st_tab {w : Cond} {b : Nat} {s : State} (h : ∀ w ∈ lw_tbl, w.before #[Value.ref b] s = true) (i : Nat) (hi : tables_1[i]? = some w) : w.before #[Value.ref b] s = true := h _ (List.mem_append_right _ (List.mem_of_getElem? hi))
theorem st_arr {A : Array Value} {s : State} {ty : FieldType} (h : (Cond.arrayClass ty).before A s = true) (ho : ∀ C, ty ≠ .object C) : ∃ cA, ArrOfT s cA ty ∧ va_RA s cA ty := by
  obtain ⟨cA, kA, comp, h1, h2, h3⟩ := Cond.arrayClass_spec (args := A) (first := s) (o := none) (s := s) (idx := []) h
  refine ⟨cA, fun n z => ⟨fun k h => (by cases h), kA, h2, comp, h3⟩, ?_⟩
  cases ty with
  | object C => exact absurd rfl (ho C)
  | _ => exact h1
theorem st_over {A : Array Value} {s : State} {C : String} (h : (Cond.arrayOver (.object C)).before A s = true) : ∃ cA, ArrOfT s cA (.object C) ∧ va_RA s cA (.object C) := by
  obtain ⟨comp, cA, kA, h1, h2, h3, h4, h5⟩ := Cond.arrayOver_spec (args := A) (first := s) (o := none) (s := s) (idx := []) h
  exact ⟨cA, fun n z => ⟨fun k h => (by cases h), kA, h3, comp, h4⟩, kA, comp, h3, h4, h1, h5⟩
def pick7 (α : Type) (a0 a1 a2 a3 a4 a5 a6 : α) : Nat → α := fun k => match k with
  | 0 => a0 | 1 => a1 | 2 => a2 | 3 => a3 | 4 => a4 | 5 => a5 | _ => a6
theorem st_Kn {A : Array Value} {s : State} {b : Nat} (hA : A = #[Value.ref b]) (h : ∀ w ∈ lw_tbl, w.before A s = true) : ∃ (D : va_G) (cA : Nat → ClassId), va_K D CL (tysOf cA) s := by
  subst hA
  have hT : ∀ w ∈ TB, w.before #[Value.ref b] s = true := fun w hw => h w (List.mem_filter.mp hw).1
  obtain ⟨c0, i0, q0⟩ := u_known hT iw0 (hT _ inst0)
  obtain ⟨c1, i1, q1⟩ := u_known hT iw1 (hT _ inst1)
  obtain ⟨c2, i2, q2⟩ := u_known hT iw2 (hT _ inst2)
  obtain ⟨c3, i3, q3⟩ := u_known hT iw3 (hT _ inst3)
  obtain ⟨c4, i4, q4⟩ := u_known hT iw4 (hT _ inst4)
  obtain ⟨c5, i5, q5⟩ := u_known hT iw5 (hT _ inst5)
  obtain ⟨c6, i6, q6⟩ := u_known hT iw6 (hT _ inst6)
  obtain ⟨a0, p0⟩ := st_arr (ty := .int) (st_tab h 52 (by decide +kernel)) (fun C e => by cases e)
  obtain ⟨a1, p1⟩ := st_arr (ty := .boolean) (st_tab h 877 (by decide +kernel)) (fun C e => by cases e)
  obtain ⟨a2, p2⟩ := st_arr (ty := .char) (st_tab h 876 (by decide +kernel)) (fun C e => by cases e)
  obtain ⟨a3, p3⟩ := st_over (C := R4) (st_tab h 25 (by decide +kernel))
  obtain ⟨a4, p4⟩ := st_over (C := R1) (st_tab h 54 (by decide +kernel))
  obtain ⟨a5, p5⟩ := st_over (C := R2) (st_tab h 56 (by decide +kernel))
  refine ⟨(pick7 ClassId c0 c1 c2 c3 c4 c5 c6, pick7 (Nat → Nat) i0 i1 i2 i3 i4 i5 i6), pick7 ClassId a0 a1 a2 a3 a4 a5 a5, fun c q hq => ?_, fun k q hk => ?_⟩
  · match c, hq with
    | 0, hq => cases hq; exact q0
    | 1, hq => cases hq; exact q1
    | 2, hq => cases hq; exact q2
    | 3, hq => cases hq; exact q3
    | 4, hq => cases hq; exact q4
    | 5, hq => cases hq; exact q5
    | 6, hq => cases hq; exact q6
    | k + 7, hq => simp [CL] at hq
  · match k, hk with
    | 0, hk => cases hk; exact p0
    | 1, hk => cases hk; exact p1
    | 2, hk => cases hk; exact p2
    | 3, hk => cases hk; exact p3
    | 4, hk => cases hk; exact p4
    | 5, hk => cases hk; exact p5
    | k + 6, hk => simp [tysOf] at hk
def st_tm : Nat → Term := fun i => match i with
  | 0 => .string R3 79
  | 1 => .string R3 81
  | 2 => .string R3 83
  | 3 => .string R3 85
  | 4 => .string R3 87
  | _ => .string R3 89
theorem st_lt6 {P : Nat → Prop} (h0 : P 0) (h1 : P 1) (h2 : P 2) (h3 : P 3) (h4 : P 4) (h5 : P 5) : ∀ i, i < 6 → P i := by
  intro i hi
  match i, hi with
  | 0, _ => exact h0
  | 1, _ => exact h1
  | 2, _ => exact h2
  | 3, _ => exact h3
  | 4, _ => exact h4
  | 5, _ => exact h5
  | k + 6, h => omega
set_option maxHeartbeats 4000000 in
theorem st_Ks {s : State} {b : Nat} (Ap : Nat → Prop) (hA : ∀ a : Nat, a < s.heap.size → ¬ Ap a) (h : ∀ w ∈ lw_tbl, w.before #[Value.ref b] s = true) (hg : (Jvm.Cond.and given_1 narrow_1).before #[Value.ref b] s = true) : ∃ adK adV : Nat → Nat, vk_S 6 kS kB adK adV Ap s s.heap ∧ (vk_R R3 79 "pour" (adK 0) s ∧ vk_R R3 81 "back" (adK 1) s ∧ vk_R R3 83 "fine" (adK 2) s ∧ vk_R R3 85 "pdx" (adK 3) s ∧ vk_R R3 87 "dfw" (adK 4) s ∧ vk_R R3 89 "hs" (adK 5) s) ∧
    va_Z "java/lang/String" "COMPACT_STRINGS" "Z" (.int 1) Ap s s.heap ∧ va_Zq "jdk/internal/util/Preconditions" "SIOOBE_FORMATTER" "Ljava/util/function/BiFunction;" Ap s s.heap := by
  have hs := flat_of_before _ hg
  have D : ∀ {w : Cond}, w ∈ flatC (Jvm.Cond.and given_1 narrow_1) → w.before #[Value.ref b] s = true := fun {w} hw => hs w hw
  obtain ⟨adK, adV, hS, hE⟩ := vk_Sof (args := #[Value.ref b]) (s := s) (N := 6) (tm := st_tm) (len := kS) (byt := kB) (A := Ap) (st_lt6 (by decide) (by decide) (by decide) (by decide) (by decide) (by decide))
    (st_lt6 (D (by decide +kernel)) (D (by decide +kernel)) (D (by decide +kernel)) (D (by decide +kernel)) (D (by decide +kernel)) (D (by decide +kernel)))
    (st_lt6 (D (by decide +kernel)) (D (by decide +kernel)) (D (by decide +kernel)) (D (by decide +kernel)) (D (by decide +kernel)) (D (by decide +kernel)))
    (st_lt6 (D (by decide +kernel)) (D (by decide +kernel)) (D (by decide +kernel)) (D (by decide +kernel)) (D (by decide +kernel)) (D (by decide +kernel)))
    (st_lt6 (D (by decide +kernel)) (D (by decide +kernel)) (D (by decide +kernel)) (D (by decide +kernel)) (D (by decide +kernel)) (D (by decide +kernel)))
    (st_lt6 (fun j hj => match j, hj with | 0, _ => D (by decide +kernel) | 1, _ => D (by decide +kernel) | 2, _ => D (by decide +kernel) | 3, _ => D (by decide +kernel) | q + 4, hj => absurd hj (by simp [kS])) (fun j hj => match j, hj with | 0, _ => D (by decide +kernel) | 1, _ => D (by decide +kernel) | 2, _ => D (by decide +kernel) | 3, _ => D (by decide +kernel) | q + 4, hj => absurd hj (by simp [kS])) (fun j hj => match j, hj with | 0, _ => D (by decide +kernel) | 1, _ => D (by decide +kernel) | 2, _ => D (by decide +kernel) | 3, _ => D (by decide +kernel) | q + 4, hj => absurd hj (by simp [kS])) (fun j hj => match j, hj with | 0, _ => D (by decide +kernel) | 1, _ => D (by decide +kernel) | 2, _ => D (by decide +kernel) | q + 3, hj => absurd hj (by simp [kS])) (fun j hj => match j, hj with | 0, _ => D (by decide +kernel) | 1, _ => D (by decide +kernel) | 2, _ => D (by decide +kernel) | q + 3, hj => absurd hj (by simp [kS])) (fun j hj => match j, hj with | 0, _ => D (by decide +kernel) | 1, _ => D (by decide +kernel) | q + 2, hj => absurd hj (by simp [kS])))
    (fun i j hi hj hij => by
      have := st_lt6 (P := fun i => ∀ j, j < 6 → i ≠ j → (Cond.not (Cond.eq (st_tm i) (st_tm j))).before #[Value.ref b] s = true ∨ (Cond.not (Cond.eq (st_tm j) (st_tm i))).before #[Value.ref b] s = true)
        (st_lt6 (fun e => absurd rfl e) (fun _ => Or.inl (D (by decide +kernel))) (fun _ => Or.inl (D (by decide +kernel))) (fun _ => Or.inl (D (by decide +kernel))) (fun _ => Or.inl (D (by decide +kernel))) (fun _ => Or.inl (D (by decide +kernel))))
        (st_lt6 (fun _ => Or.inr (D (by decide +kernel))) (fun e => absurd rfl e) (fun _ => Or.inl (D (by decide +kernel))) (fun _ => Or.inl (D (by decide +kernel))) (fun _ => Or.inl (D (by decide +kernel))) (fun _ => Or.inl (D (by decide +kernel))))
        (st_lt6 (fun _ => Or.inr (D (by decide +kernel))) (fun _ => Or.inr (D (by decide +kernel))) (fun e => absurd rfl e) (fun _ => Or.inl (D (by decide +kernel))) (fun _ => Or.inl (D (by decide +kernel))) (fun _ => Or.inl (D (by decide +kernel))))
        (st_lt6 (fun _ => Or.inr (D (by decide +kernel))) (fun _ => Or.inr (D (by decide +kernel))) (fun _ => Or.inr (D (by decide +kernel))) (fun e => absurd rfl e) (fun _ => Or.inl (D (by decide +kernel))) (fun _ => Or.inl (D (by decide +kernel))))
        (st_lt6 (fun _ => Or.inr (D (by decide +kernel))) (fun _ => Or.inr (D (by decide +kernel))) (fun _ => Or.inr (D (by decide +kernel))) (fun _ => Or.inr (D (by decide +kernel))) (fun e => absurd rfl e) (fun _ => Or.inl (D (by decide +kernel))))
        (st_lt6 (fun _ => Or.inr (D (by decide +kernel))) (fun _ => Or.inr (D (by decide +kernel))) (fun _ => Or.inr (D (by decide +kernel))) (fun _ => Or.inr (D (by decide +kernel))) (fun _ => Or.inr (D (by decide +kernel))) (fun e => absurd rfl e))
      exact this i hi j hj hij) hA
  refine ⟨adK, adV, hS, ⟨vk_R.of (st_tab h 517 (by decide +kernel)) ((hE 0 (by decide))), vk_R.of (st_tab h 518 (by decide +kernel)) ((hE 1 (by decide))), vk_R.of (st_tab h 519 (by decide +kernel)) ((hE 2 (by decide))), vk_R.of (st_tab h 591 (by decide +kernel)) ((hE 3 (by decide))), vk_R.of (st_tab h 592 (by decide +kernel)) ((hE 4 (by decide))), vk_R.of (st_tab h 593 (by decide +kernel)) ((hE 5 (by decide)))⟩, ?_, ?_⟩
  · exact va_Zof (st_tab h 533 (by decide +kernel)) (st_tab h 11 (by decide +kernel)) (va_eqt (D (by decide +kernel))) hA
  · exact va_Zqof (st_tab h 549 (by decide +kernel)) (st_tab h 13 (by decide +kernel)) (D (by decide +kernel)) hA
theorem D_W_law_0 : decode code 0 = .ok (.new 7, 3) ∧ 0 + 3 = 3 := by decide +kernel
theorem D_W_law_3 : decode code 3 = .ok (.dup, 1) ∧ 3 + 1 = 4 := by decide +kernel
theorem D_W_law_4 : decode code 4 = .ok (.invokespecial 9, 3) ∧ 4 + 3 = 7 := by decide +kernel
theorem D_W_law_7 : decode code 7 = .ok (.astore_n 1, 1) ∧ 7 + 1 = 8 := by decide +kernel
theorem D_W_law_8 : decode code 8 = .ok (.new 10, 3) ∧ 8 + 3 = 11 := by decide +kernel
theorem D_W_law_11 : decode code 11 = .ok (.dup, 1) ∧ 11 + 1 = 12 := by decide +kernel
theorem D_W_law_12 : decode code 12 = .ok (.invokespecial 12, 3) ∧ 12 + 3 = 15 := by decide +kernel
theorem D_W_law_15 : decode code 15 = .ok (.astore_n 2, 1) ∧ 15 + 1 = 16 := by decide +kernel
theorem D_W_law_16 : decode code 16 = .ok (.iconst 0, 1) ∧ 16 + 1 = 17 := by decide +kernel
theorem D_W_law_17 : decode code 17 = .ok (.istore_n 3, 1) ∧ 17 + 1 = 18 := by decide +kernel
def mem0 : Mm := g_M_init_8 (g_M_init_7 (g_M_init_6 (g_M_init_5 (g_M_init_4 (g_M_init_3 (g_M_init_2 (g_M_init_1 (g_M_init_0 (va_up (f_S_init (va_up (fun _ _ => 0) (0 + 0) (fun _ => 0))) (91 + 0) (fun _ => 0))))))))))
set_option maxHeartbeats 4000000 in
theorem start_J {X : Cx} {E : En} {b L : Nat} {xs : Nat → Int32} (S0 : Std (cxK X 0 0) E code R_law 4 200) (hRm : cxR X = room_1) (hz : (cxS X).heap.size = eb E) (hKx : Kx (cxS X)) (hX : va_X b L xs (cxS X) (cxS X).heap) (hbl : b < (cxS X).heap.size) (hR : ∀ (pc : Nat) (ls : List (Nat × Value)) (mem : Mm), decode code pc = .ok (.ireturn, 1) → J (cxK X 113 7440) E 4 pc ls [.int 1] SH mem) (N n : Nat) (hp : f_W_law_L18 L xs N n 0 mem0 = some ()) : J (cxK X 0 0) E 4 0 [(0, .ref b)] [] [] (fun _ _ => 0) := by
  have hrc : (cxR X).cells = 600000 := by rw [hRm]; rfl
  have hro : (cxR X).slots = 7302249 := by rw [hRm]; rfl
  have hbA : ¬ Ab E b := by
    show ¬ (eb E ≤ b)
    omega
  have S := S0
  refine j_shp (List.append_nil []).symm ?_
  refine k_newO (j := 0) (n0 := 0) (C := R5) (T := T5) (M := 10) (ci := 5) S ⟨by omega, by omega⟩ rfl rfl D_W_law_0 cko_R_law_7 rfl ty5 tok5 dfl5 ⟨rfl, rfl, by omega, by omega⟩ (L2 := [.inl (5, [some none, some none, some none, some none, some none, none, some none, some none, some none, none])]) rfl ?_
  have S : Std (cxK X 1 10) E code R_law 4 200 := stdK0 S0 (by omega) (by omega)
  refine j_dup S D_W_law_3 rfl ?_
  have hM1 := c_S_init (cxL X) E (mem := va_up (fun _ _ => 0) (0 + 0) (fun _ => 0))
  refine j_shp (List.nil_append _) ?_
  refine k_callN (As := []) (N1 := 91) (O1 := 2297) S hKx ⟨by show _ = eb E + 1; omega, by show 0 < 1; omega⟩ D_W_law_4 ⟨Or.inl ml_R_law_9, im_S_init⟩ cd_S_init (by decide +kernel) hM1 (by decide) rfl rfl (Nat.le_of_ble_eq_true rfl) ⟨rfl, rfl, by omega, by omega⟩ ?_
  have S : Std (cxK X 91 2297) E code R_law 4 200 := stdK0 S0 (by omega) (by omega)
  refine j_astore_n S D_W_law_7 (lv := [(1, .ref (eb E + (0 + 0))), (0, .ref b)]) rfl ⟨rfl, (Nat.le_of_ble_eq_true rfl)⟩ ?_
  refine j_shp (List.append_nil (SH.take 91)).symm ?_
  refine k_newO (j := 0) (n0 := 91) (C := R6) (T := T6) (M := 34) (ci := 6) S ⟨by omega, by omega⟩ rfl rfl D_W_law_8 cko_R_law_10 rfl ty6 tok6 dfl6 ⟨rfl, rfl, by omega, by omega⟩ (L2 := [.inl (6, [some none, some none, some none, none, none, some none, some none, none, none, none, none, none, none, none, some none, some none, some none, none, none, some none, none, some none, some none, some none, some none, some none, some none, some none, some none, some none, some none, some none, some none, none])]) rfl ?_
  have S : Std (cxK X 92 2331) E code R_law 4 200 := stdK0 S0 (by omega) (by omega)
  refine j_dup S D_W_law_11 rfl ?_
  have hM2 := c_M_init (cxL X) E (mem := va_up (f_S_init (va_up (fun _ _ => 0) (0 + 0) (fun _ => 0))) (91 + 0) (fun _ => 0))
  have hl1 : ((SH.take 91) ++ ([.inl (6, [some none, some none, some none, none, none, some none, some none, none, none, none, none, none, none, none, some none, some none, some none, none, none, some none, none, some none, some none, some none, some none, some none, some none, some none, some none, some none, some none, some none, some none, none])] : List Sh)).length = 92 := rfl
  refine k_callN (As := []) (N1 := 113) (O1 := 7440) S hKx ⟨by rw [hl1]; omega, by rw [hl1]; omega⟩ D_W_law_12 ⟨Or.inl ml_R_law_12, im_M_init⟩ cd_M_init (by decide +kernel) hM2 (by decide) rfl rfl (Nat.le_of_ble_eq_true rfl) ⟨rfl, rfl, by omega, by omega⟩ ?_
  have S : Std (cxK X 113 7440) E code R_law 4 200 := stdK0 S0 (by omega) (by omega)
  refine j_shp (sh2 := SH) rfl ?_
  refine j_astore_n S D_W_law_15 (lv := [(2, .ref (eb E + (91 + 0))), (1, .ref (eb E + (0 + 0))), (0, .ref b)]) rfl ⟨rfl, (Nat.le_of_ble_eq_true rfl)⟩ ?_
  refine j_iconst S D_W_law_16 ci_0 ?_
  refine j_istore_n S D_W_law_17 (lv := [(3, .int 0), (2, .ref (eb E + (91 + 0))), (1, .ref (eb E + (0 + 0))), (0, .ref b)]) rfl ⟨rfl, (Nat.le_of_ble_eq_true rfl)⟩ ?_
  refine j_locals (lv := [(0, .ref b), (1, .ref (eb E + 0)), (2, .ref (eb E + 91)), (3, .int 0)]) [3, 2, 1, 0] rfl ?_
  exact L_W_law_18 (X := cxK X 113 7440) L xs hX hbl hbA S N hR n 0 _ hp
theorem whole_start_of (hpure : ∀ (Ln : Nat) (xs : Nat → Int32), Ln ≤ 3072 → ∃ N n, f_W_law_L18 Ln xs N n 0 mem0 = some ()) {p : Program} {e : Env} {s : State} {m : MethodId} {below : List Frame} {meth : Method} {c : Code} (l : Launch) {b L : Nat} {xs : Nat → Int32} (hL : L ≤ 3072) (C0 : lw_At p s m meth c b L xs) : W p l e room_1 s m #[Value.ref b] below meth c s.heap [] 0 0 (lw_Z below #[Value.ref b] s) (entryFrame m ([Value.ref b] : List Value).toArray 4) := by
  obtain ⟨hx, hb, hr, hml, hown, hts, hX, hbl, hlk, hg⟩ := C0
  obtain ⟨D, cA, hK⟩ := st_Kn rfl hts
  obtain ⟨adK, adV, hKs⟩ := st_Ks (fun q => s.heap.size ≤ q) (fun a h1 h2 => absurd h1 (Nat.not_lt.mpr h2)) hts hg
  have hT : ∀ w ∈ TB, w.before #[Value.ref b] s = true := fun w hw => hts w (List.mem_filter.mp hw).1
  have hKx : Kx s := ⟨⟨va_AO.of (st_tab hts 25 (by decide +kernel)), va_AO.of (st_tab hts 54 (by decide +kernel)), va_AO.of (st_tab hts 56 (by decide +kernel))⟩, va_Nw.of rfl (st_tab hts 28 (by decide +kernel)), va_Nw.of rfl (st_tab hts 58 (by decide +kernel)), va_Nw.of rfl (st_tab hts 161 (by decide +kernel)), va_Nw.of rfl (st_tab hts 179 (by decide +kernel)), va_Nw.of rfl (st_tab hts 184 (by decide +kernel))⟩
  obtain ⟨N, n, hp⟩ := hpure L xs hL
  have S0 : Std (cxK (p, l, e, room_1, s, m, #[Value.ref b], below, meth, c, (0, 0), lw_Z below #[Value.ref b] s) 0 0) (D, cA, s.heap.size, adK, adV) code R_law 4 200 := ⟨hx, hb, hml, hown, hT, hK, hKs, (Nat.le_of_ble_eq_true rfl), (Nat.le_of_ble_eq_true rfl), Nat.zero_le _, Nat.zero_le _⟩
  rw [lg_entry_eq]
  refine start_J S0 rfl rfl hKx hX hbl (fun pc ls mem hd H locs arr hP hS hl => ?_) N n hp s.heap [] _ (fun k q hq => by simp [wd] at hq) va_S.rf (lv_entry [Value.ref b] (Nat.le_of_ble_eq_true rfl))
  exact W.widen (Nat.le_of_ble_eq_true rfl) (Nat.le_of_ble_eq_true rfl) (va_forget (fun q hq => hS.2.2 q hq) (lw_ret hx hb hr hlk hd))
