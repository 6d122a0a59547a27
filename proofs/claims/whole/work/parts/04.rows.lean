/-! THE JUDGEMENT J: the machine, in a method's activation X, at pc, with the locals ls and the operand stack st, over any heap that holds the world (sh, mem), comes to X's end. One row an instruction. -/
abbrev cxP (X : Cx) : Program := X.1
abbrev cxL (X : Cx) : Launch := X.2.1
abbrev cxE (X : Cx) : Env := X.2.2.1
abbrev cxR (X : Cx) : Room := X.2.2.2.1
abbrev cxS (X : Cx) : State := X.2.2.2.2.1
abbrev cxM (X : Cx) : MethodId := X.2.2.2.2.2.1
abbrev cxA (X : Cx) : Array Value := X.2.2.2.2.2.2.1
abbrev cxB (X : Cx) : List Frame := X.2.2.2.2.2.2.2.1
abbrev cxT (X : Cx) : Method := X.2.2.2.2.2.2.2.2.1
abbrev cxC (X : Cx) : Code := X.2.2.2.2.2.2.2.2.2.1
abbrev cxN (X : Cx) : Nat := X.2.2.2.2.2.2.2.2.2.2.1.1
abbrev cxO (X : Cx) : Nat := X.2.2.2.2.2.2.2.2.2.2.1.2
abbrev cxQ (X : Cx) : State → Prop := X.2.2.2.2.2.2.2.2.2.2.2
abbrev cxK (X : Cx) (N O : Nat) : Cx := (cxP X, cxL X, cxE X, cxR X, cxS X, cxM X, cxA X, cxB X, cxT X, cxC X, (N, O), cxQ X)
def J (X : Cx) (E : En) (nL pc : Nat) (ls : List (Nat × Value)) (st : List Value) (sh : List Sh) (mem : Mm) : Prop :=
  ∀ (H : Heap) (locs : List Loc) (arr : Array Slot), va_P E.1 CL (wd E sh mem) H → va_S (Ab E) (cxS X).heap H locs → lv_has arr nL ls →
    W (cxP X) (cxL X) (cxE X) (cxR X) (cxS X) (cxM X) (cxA X) (cxB X) (cxT X) (cxC X) H locs (cxN X) (cxO X) (cxQ X) (F0 (cxM X) pc arr st)
def Kn (E : En) (U : State) : Prop := va_K E.1 CL (tysOf E.2.1) U
def kS : List Nat := [4, 4, 4, 3, 3, 2]
def kB : List (List Int32) := [[112, 111, 117, 114], [98, 97, 99, 107], [102, 105, 110, 101], [112, 100, 120], [100, 102, 119], [104, 115]]
def Ks (E : En) (U : State) (H : Heap) : Prop :=
  vk_S 6 kS kB E.2.2.2.1 E.2.2.2.2 (Ab E) U H ∧ (vk_R R3 79 "pour" (E.2.2.2.1 0) U ∧ vk_R R3 81 "back" (E.2.2.2.1 1) U ∧ vk_R R3 83 "fine" (E.2.2.2.1 2) U ∧ vk_R R3 85 "pdx" (E.2.2.2.1 3) U ∧ vk_R R3 87 "dfw" (E.2.2.2.1 4) U ∧ vk_R R3 89 "hs" (E.2.2.2.1 5) U) ∧
  va_Z "java/lang/String" "COMPACT_STRINGS" "Z" (.int 1) (Ab E) U H ∧ va_Zq "jdk/internal/util/Preconditions" "SIOOBE_FORMATTER" "Ljava/util/function/BiFunction;" (Ab E) U H
theorem Ks.warm {E : En} {s U : State} {H0 H : Heap} (h : Ks E s H0) (hW : s.WarmedH U.vm) (hq : ∀ a : Nat, a < H0.size → ¬ Ab E a → H[a]? = H0[a]?) : Ks E U H := by
  obtain ⟨h1, ⟨r0, r1, r2, r3, r4, r5⟩, h3, h4⟩ := h
  exact ⟨(h1.kept hq).moved hW.alike, ⟨r0.warm hW, r1.warm hW, r2.warm hW, r3.warm hW, r4.warm hW, r5.warm hW⟩, (h3.kept hq).moved hW.alike, (h4.kept hq).moved hW.alike⟩
/-- what stands in a method's activation: the machine, its code, its class, the tables' words, the classes, the texts, its room -/
def Std (X : Cx) (E : En) (cc : ByteArray) (own : String) (nL d : Nat) : Prop :=
  (cxP X).tables.exec = Jvm.exec ∧ (cxC X).code = cc ∧ (cxC X).maxLocals = nL ∧ (cxS X).vm.findClass own = some (cxM X).cls ∧ (∀ w ∈ TB, w.before (cxA X) (cxS X) = true) ∧ Kn E (cxS X) ∧ Ks E (cxS X) (cxS X).heap ∧
  (d ≤ (cxR X).frames ∧ 40 * d ≤ (cxR X).locals ∧ cxN X ≤ (cxR X).cells ∧ cxO X ≤ (cxR X).slots)
theorem clw {ci : Nat} {q : vw_C} (h : CL[ci]? = some q) : ∀ w ∈ u_ws q.1 q.2.1 q.2.2, w ∈ TB := by
  match ci, h with
  | 0, h => cases h; exact iw0
  | 1, h => cases h; exact iw1
  | 2, h => cases h; exact iw2
  | 3, h => cases h; exact iw3
  | 4, h => cases h; exact iw4
  | 5, h => cases h; exact iw5
  | 6, h => cases h; exact iw6
  | k + 7, h => simp [CL] at h
theorem clt {ci : Nat} {q : vw_C} (h : CL[ci]? = some q) : ∃ ty : Nat → FieldType, ∀ k, k < q.2.2 → parseFieldDescriptor (q.2.1 k).2.2.1 = some (ty k) := by
  match ci, h with
  | 0, h => cases h; exact ⟨_, tok0⟩
  | 1, h => cases h; exact ⟨_, tok1⟩
  | 2, h => cases h; exact ⟨_, tok2⟩
  | 3, h => cases h; exact ⟨_, tok3⟩
  | 4, h => cases h; exact ⟨_, tok4⟩
  | 5, h => cases h; exact ⟨_, tok5⟩
  | 6, h => cases h; exact ⟨_, tok6⟩
  | k + 7, h => simp [CL] at h
theorem cln {ci : Nat} {q : vw_C} (h : CL[ci]? = some q) : ∀ a, a < q.2.2 → ∀ b, b < q.2.2 → a ≠ b → (q.2.1 a).2.1 ≠ (q.2.1 b).2.1 := by
  match ci, h with
  | 0, h => cases h; exact nm0
  | 1, h => cases h; exact nm1
  | 2, h => cases h; exact nm2
  | 3, h => cases h; exact nm3
  | 4, h => cases h; exact nm4
  | 5, h => cases h; exact nm5
  | 6, h => cases h; exact nm6
  | k + 7, h => simp [CL] at h
/-- a field's link: entry idx of own's pool is place i of class ci -/
def FLk (own : String) (idx ci i : Nat) : Prop := ∃ q : vw_C, CL[ci]? = some q ∧ i < q.2.2 ∧ Cond.fieldLink own idx (q.2.1 i).1 (q.2.1 i).2.1 (q.2.1 i).2.2.1 ∈ TB
/-- ... that is not final, of type ty -/
def FPk (own : String) (idx ci i : Nat) (ty : FieldType) : Prop := ∃ q : vw_C, CL[ci]? = some q ∧ i < q.2.2 ∧ Cond.fieldLink own idx (q.2.1 i).1 (q.2.1 i).2.1 (q.2.1 i).2.2.1 ∈ TB ∧ parseFieldDescriptor (q.2.1 i).2.2.1 = some ty ∧ (q.2.1 i).2.2.2 = false
section JR
variable {X : Cx} {E : En} {cc : ByteArray} {own : String} {nL d pc np tg : Nat} {ls : List (Nat × Value)} {st : List Value} {sh : List Sh} {mem : Mm} {x y v : Int32} {a b : Value}
theorem j_iconst (S : Std X E cc own nL d) {n : Int} (hd : decode cc pc = .ok (.iconst n, 1) ∧ pc + 1 = np) (hv : Int32.ofInt n = v) (k : J X E nL np ls (.int v :: st) sh mem) : J X E nL pc ls st sh mem := by
  obtain ⟨hd, rfl⟩ := hd; exact fun H locs arr hP hS hl => lv_iconst S.1 S.2.1 hd hv (k H locs arr hP hS hl)
theorem j_bipush (S : Std X E cc own nL d) {n : Int} (hd : decode cc pc = .ok (.bipush n, 2) ∧ pc + 2 = np) (hv : (Int8.ofInt n).toInt32 = v) (k : J X E nL np ls (.int v :: st) sh mem) : J X E nL pc ls st sh mem := by
  obtain ⟨hd, rfl⟩ := hd; exact fun H locs arr hP hS hl => lv_bipush S.1 S.2.1 hd hv (k H locs arr hP hS hl)
theorem j_sipush (S : Std X E cc own nL d) {n : Int} (hd : decode cc pc = .ok (.sipush n, 3) ∧ pc + 3 = np) (hv : (Int16.ofInt n).toInt32 = v) (k : J X E nL np ls (.int v :: st) sh mem) : J X E nL pc ls st sh mem := by
  obtain ⟨hd, rfl⟩ := hd; exact fun H locs arr hP hS hl => lv_sipush S.1 S.2.1 hd hv (k H locs arr hP hS hl)
theorem j_ldc (S : Std X E cc own nL d) {i : Nat} (hd : decode cc pc = .ok (.ldc i, 2) ∧ pc + 2 = np) (hw : Cond.constant own i v ∈ TB) (k : J X E nL np ls (.int v :: st) sh mem) : J X E nL pc ls st sh mem := by
  obtain ⟨hd, rfl⟩ := hd; exact fun H locs arr hP hS hl => lv_ldc S.1 S.2.1 S.2.2.2.1 (S.2.2.2.2.1 _ hw) hd (k H locs arr hP hS hl)
theorem j_ldcw (S : Std X E cc own nL d) {i : Nat} (hd : decode cc pc = .ok (.ldc_w i, 3) ∧ pc + 3 = np) (hw : Cond.constant own i v ∈ TB) (k : J X E nL np ls (.int v :: st) sh mem) : J X E nL pc ls st sh mem := by
  obtain ⟨hd, rfl⟩ := hd; exact fun H locs arr hP hS hl => lv_ldcw S.1 S.2.1 S.2.2.2.1 (S.2.2.2.2.1 _ hw) hd (k H locs arr hP hS hl)
theorem j_iload_n (S : Std X E cc own nL d) {f : Fin 4} {i : Nat} (hd : decode cc pc = .ok (.iload_n f, 1) ∧ pc + 1 = np) (q : Nat) (hl : ls[q]? = some (i, .int x)) (hi : (f : Nat) = i) (k : J X E nL np ls (.int x :: st) sh mem) : J X E nL pc ls st sh mem := by
  obtain ⟨hd, rfl⟩ := hd; exact fun H locs arr hP hS h => lv_iload_n S.1 S.2.1 hd hi (lv_at h q hl) (k H locs arr hP hS h)
theorem j_iload (S : Std X E cc own nL d) {i : Nat} (hd : decode cc pc = .ok (.iload i, 2) ∧ pc + 2 = np) (q : Nat) (hl : ls[q]? = some (i, .int x)) (k : J X E nL np ls (.int x :: st) sh mem) : J X E nL pc ls st sh mem := by
  obtain ⟨hd, rfl⟩ := hd; exact fun H locs arr hP hS h => lv_iload S.1 S.2.1 hd (lv_at h q hl) (k H locs arr hP hS h)
theorem j_aload_n (S : Std X E cc own nL d) {f : Fin 4} {i r : Nat} (hd : decode cc pc = .ok (.aload_n f, 1) ∧ pc + 1 = np) (q : Nat) (hl : ls[q]? = some (i, .ref r)) (hi : (f : Nat) = i) (k : J X E nL np ls (.ref r :: st) sh mem) : J X E nL pc ls st sh mem := by
  obtain ⟨hd, rfl⟩ := hd; exact fun H locs arr hP hS h => lv_aload_n S.1 S.2.1 hd hi (lv_at h q hl) (k H locs arr hP hS h)
theorem j_aload (S : Std X E cc own nL d) {i r : Nat} (hd : decode cc pc = .ok (.aload i, 2) ∧ pc + 2 = np) (q : Nat) (hl : ls[q]? = some (i, .ref r)) (k : J X E nL np ls (.ref r :: st) sh mem) : J X E nL pc ls st sh mem := by
  obtain ⟨hd, rfl⟩ := hd; exact fun H locs arr hP hS h => lv_aload S.1 S.2.1 hd (lv_at h q hl) (k H locs arr hP hS h)
theorem j_lload (S : Std X E cc own nL d) {i : Nat} {x : Int64} (hd : decode cc pc = .ok (.lload i, 2) ∧ pc + 2 = np) (q : Nat) (hl : ls[q]? = some (i, .long x)) (k : J X E nL np ls (.long x :: st) sh mem) : J X E nL pc ls st sh mem := by
  obtain ⟨hd, rfl⟩ := hd; exact fun H locs arr hP hS h => lv_lload S.1 S.2.1 hd (lv_at h q hl) (k H locs arr hP hS h)
theorem j_istore_n (S : Std X E cc own nL d) {f : Fin 4} {i : Nat} (hd : decode cc pc = .ok (.istore_n f, 1) ∧ pc + 1 = np) {lv : List (Nat × Value)} (hl : (i, Value.int x) :: ls.filter (fun q => !(q.1 == i) && !(q.1 + 1 == i && q.2.category == 2)) = lv) (hi : (f : Nat) = i ∧ i < nL) (k : J X E nL np lv st sh mem) : J X E nL pc ls (.int x :: st) sh mem := by
  obtain ⟨hd, rfl⟩ := hd; exact fun H locs arr hP hS h => lv_istore_n S.1 S.2.1 hd hi.1 h hi.2 hl (fun arr h => k H locs arr hP hS h)
theorem j_istore (S : Std X E cc own nL d) {i : Nat} (hd : decode cc pc = .ok (.istore i, 2) ∧ pc + 2 = np) {lv : List (Nat × Value)} (hl : (i, Value.int x) :: ls.filter (fun q => !(q.1 == i) && !(q.1 + 1 == i && q.2.category == 2)) = lv) (hi : i < nL) (k : J X E nL np lv st sh mem) : J X E nL pc ls (.int x :: st) sh mem := by
  obtain ⟨hd, rfl⟩ := hd; exact fun H locs arr hP hS h => lv_istore S.1 S.2.1 hd h hi hl (fun arr h => k H locs arr hP hS h)
theorem j_astore_n (S : Std X E cc own nL d) {f : Fin 4} {i r : Nat} (hd : decode cc pc = .ok (.astore_n f, 1) ∧ pc + 1 = np) {lv : List (Nat × Value)} (hl : (i, Value.ref r) :: ls.filter (fun q => !(q.1 == i) && !(q.1 + 1 == i && q.2.category == 2)) = lv) (hi : (f : Nat) = i ∧ i < nL) (k : J X E nL np lv st sh mem) : J X E nL pc ls (.ref r :: st) sh mem := by
  obtain ⟨hd, rfl⟩ := hd; exact fun H locs arr hP hS h => lv_astore_n S.1 S.2.1 hd hi.1 h hi.2 hl (fun arr h => k H locs arr hP hS h)
theorem j_astore (S : Std X E cc own nL d) {i r : Nat} (hd : decode cc pc = .ok (.astore i, 2) ∧ pc + 2 = np) {lv : List (Nat × Value)} (hl : (i, Value.ref r) :: ls.filter (fun q => !(q.1 == i) && !(q.1 + 1 == i && q.2.category == 2)) = lv) (hi : i < nL) (k : J X E nL np lv st sh mem) : J X E nL pc ls (.ref r :: st) sh mem := by
  obtain ⟨hd, rfl⟩ := hd; exact fun H locs arr hP hS h => lv_astore S.1 S.2.1 hd h hi hl (fun arr h => k H locs arr hP hS h)
theorem j_lstore (S : Std X E cc own nL d) {i : Nat} {x : Int64} (hd : decode cc pc = .ok (.lstore i, 2) ∧ pc + 2 = np) {lv : List (Nat × Value)} (hl : (i, Value.long x) :: ls.filter (fun q => !(q.1 == i) && (!(q.1 == i + 1) && !(q.1 + 1 == i && q.2.category == 2))) = lv) (hi : i + 1 < nL) (k : J X E nL np lv st sh mem) : J X E nL pc ls (.long x :: st) sh mem := by
  obtain ⟨hd, rfl⟩ := hd; exact fun H locs arr hP hS h => lv_lstore S.1 S.2.1 hd h hi hl (fun arr h => k H locs arr hP hS h)
theorem j_iinc (S : Std X E cc own nL d) {i : Nat} {n : Int} (hd : decode cc pc = .ok (.iinc i n, 3) ∧ pc + 3 = np) (q : Nat) (hq : ls[q]? = some (i, .int x)) (hv : x + Int32.ofInt n = v) {lv : List (Nat × Value)} (hl : (i, Value.int v) :: ls.filter (fun q => !(q.1 == i) && !(q.1 + 1 == i && q.2.category == 2)) = lv) (hi : i < nL) (k : J X E nL np lv st sh mem) : J X E nL pc ls st sh mem := by
  obtain ⟨hd, rfl⟩ := hd; exact fun H locs arr hP hS h => lv_iinc S.1 S.2.1 hd h hq hv hi hl (fun arr h => k H locs arr hP hS h)
theorem j_locals {lv : List (Nat × Value)} (ks : List Nat) (hl : lv_pick ls ks = lv) (k : J X E nL pc lv st sh mem) : J X E nL pc ls st sh mem := fun H locs arr hP hS h => k H locs arr hP hS (lv_sub h ks hl)
theorem j_iadd (S : Std X E cc own nL d) (hd : decode cc pc = .ok (.iadd, 1) ∧ pc + 1 = np) (k : J X E nL np ls (.int (x + y) :: st) sh mem) : J X E nL pc ls (.int y :: .int x :: st) sh mem := by
  obtain ⟨hd, rfl⟩ := hd; exact fun H locs arr hP hS hl => lv_iadd S.1 S.2.1 hd (k H locs arr hP hS hl)
theorem j_isub (S : Std X E cc own nL d) (hd : decode cc pc = .ok (.isub, 1) ∧ pc + 1 = np) (k : J X E nL np ls (.int (x - y) :: st) sh mem) : J X E nL pc ls (.int y :: .int x :: st) sh mem := by
  obtain ⟨hd, rfl⟩ := hd; exact fun H locs arr hP hS hl => lv_isub S.1 S.2.1 hd (k H locs arr hP hS hl)
theorem j_imul (S : Std X E cc own nL d) (hd : decode cc pc = .ok (.imul, 1) ∧ pc + 1 = np) (k : J X E nL np ls (.int (x * y) :: st) sh mem) : J X E nL pc ls (.int y :: .int x :: st) sh mem := by
  obtain ⟨hd, rfl⟩ := hd; exact fun H locs arr hP hS hl => lv_imul S.1 S.2.1 hd (k H locs arr hP hS hl)
theorem j_iand (S : Std X E cc own nL d) (hd : decode cc pc = .ok (.iand, 1) ∧ pc + 1 = np) (k : J X E nL np ls (.int (x &&& y) :: st) sh mem) : J X E nL pc ls (.int y :: .int x :: st) sh mem := by
  obtain ⟨hd, rfl⟩ := hd; exact fun H locs arr hP hS hl => lv_iand S.1 S.2.1 hd (k H locs arr hP hS hl)
theorem j_ior (S : Std X E cc own nL d) (hd : decode cc pc = .ok (.ior, 1) ∧ pc + 1 = np) (k : J X E nL np ls (.int (x ||| y) :: st) sh mem) : J X E nL pc ls (.int y :: .int x :: st) sh mem := by
  obtain ⟨hd, rfl⟩ := hd; exact fun H locs arr hP hS hl => lv_ior S.1 S.2.1 hd (k H locs arr hP hS hl)
theorem j_idiv (S : Std X E cc own nL d) (hd : decode cc pc = .ok (.idiv, 1) ∧ pc + 1 = np) (hne : ¬ y = 0) (k : J X E nL np ls (.int (x / y) :: st) sh mem) : J X E nL pc ls (.int y :: .int x :: st) sh mem := by
  obtain ⟨hd, rfl⟩ := hd; exact fun H locs arr hP hS hl => lv_idiv S.1 S.2.1 hd hne (k H locs arr hP hS hl)
theorem j_irem (S : Std X E cc own nL d) (hd : decode cc pc = .ok (.irem, 1) ∧ pc + 1 = np) (hne : ¬ y = 0) (k : J X E nL np ls (.int (x - x / y * y) :: st) sh mem) : J X E nL pc ls (.int y :: .int x :: st) sh mem := by
  obtain ⟨hd, rfl⟩ := hd; exact fun H locs arr hP hS hl => lv_irem S.1 S.2.1 hd hne (k H locs arr hP hS hl)
theorem j_ineg (S : Std X E cc own nL d) (hd : decode cc pc = .ok (.ineg, 1) ∧ pc + 1 = np) (k : J X E nL np ls (.int (-x) :: st) sh mem) : J X E nL pc ls (.int x :: st) sh mem := by
  obtain ⟨hd, rfl⟩ := hd; exact fun H locs arr hP hS hl => lv_ineg S.1 S.2.1 hd (k H locs arr hP hS hl)
theorem j_ishl (S : Std X E cc own nL d) (hd : decode cc pc = .ok (.ishl, 1) ∧ pc + 1 = np) (k : J X E nL np ls (.int (x <<< (y &&& 31)) :: st) sh mem) : J X E nL pc ls (.int y :: .int x :: st) sh mem := by
  obtain ⟨hd, rfl⟩ := hd; exact fun H locs arr hP hS hl => lv_ishl S.1 S.2.1 hd (k H locs arr hP hS hl)
theorem j_ishr (S : Std X E cc own nL d) (hd : decode cc pc = .ok (.ishr, 1) ∧ pc + 1 = np) (k : J X E nL np ls (.int (x >>> (y &&& 31)) :: st) sh mem) : J X E nL pc ls (.int y :: .int x :: st) sh mem := by
  obtain ⟨hd, rfl⟩ := hd; exact fun H locs arr hP hS hl => lv_ishr S.1 S.2.1 hd (k H locs arr hP hS hl)
theorem j_iushr (S : Std X E cc own nL d) (hd : decode cc pc = .ok (.iushr, 1) ∧ pc + 1 = np) (k : J X E nL np ls (.int (x.toUInt32 >>> (y.toUInt32 &&& Int32.toUInt32 31)).toInt32 :: st) sh mem) : J X E nL pc ls (.int y :: .int x :: st) sh mem := by
  obtain ⟨hd, rfl⟩ := hd; exact fun H locs arr hP hS hl => lv_iushr S.1 S.2.1 hd rfl (k H locs arr hP hS hl)
theorem j_i2s (S : Std X E cc own nL d) (hd : decode cc pc = .ok (.i2s, 1) ∧ pc + 1 = np) (k : J X E nL np ls (.int x.toInt16.toInt32 :: st) sh mem) : J X E nL pc ls (.int x :: st) sh mem := by
  obtain ⟨hd, rfl⟩ := hd; exact fun H locs arr hP hS hl => lv_i2s S.1 S.2.1 hd rfl (k H locs arr hP hS hl)
theorem j_i2c (S : Std X E cc own nL d) (hd : decode cc pc = .ok (.i2c, 1) ∧ pc + 1 = np) (k : J X E nL np ls (.int (x.toUInt32 % 65536).toInt32 :: st) sh mem) : J X E nL pc ls (.int x :: st) sh mem := by
  obtain ⟨hd, rfl⟩ := hd; exact fun H locs arr hP hS hl => lv_i2c S.1 S.2.1 hd rfl (k H locs arr hP hS hl)
theorem j_i2l (S : Std X E cc own nL d) (hd : decode cc pc = .ok (.i2l, 1) ∧ pc + 1 = np) (k : J X E nL np ls (.long x.toInt64 :: st) sh mem) : J X E nL pc ls (.int x :: st) sh mem := by
  obtain ⟨hd, rfl⟩ := hd; exact fun H locs arr hP hS hl => lv_i2l S.1 S.2.1 hd rfl (k H locs arr hP hS hl)
theorem j_l2i (S : Std X E cc own nL d) {x : Int64} (hd : decode cc pc = .ok (.l2i, 1) ∧ pc + 1 = np) (k : J X E nL np ls (.int x.toInt32 :: st) sh mem) : J X E nL pc ls (.long x :: st) sh mem := by
  obtain ⟨hd, rfl⟩ := hd; exact fun H locs arr hP hS hl => lv_l2i S.1 S.2.1 hd rfl (k H locs arr hP hS hl)
theorem j_lconst (S : Std X E cc own nL d) {n : Fin 2} {v : Int64} (hd : decode cc pc = .ok (.lconst n, 1) ∧ pc + 1 = np) (hv : Int64.ofNat (n : Nat) = v) (k : J X E nL np ls (.long v :: st) sh mem) : J X E nL pc ls st sh mem := by
  obtain ⟨hd, rfl⟩ := hd; exact fun H locs arr hP hS hl => lv_lconst S.1 S.2.1 hd hv (k H locs arr hP hS hl)
theorem j_ladd (S : Std X E cc own nL d) {x y : Int64} (hd : decode cc pc = .ok (.ladd, 1) ∧ pc + 1 = np) (k : J X E nL np ls (.long (x + y) :: st) sh mem) : J X E nL pc ls (.long y :: .long x :: st) sh mem := by
  obtain ⟨hd, rfl⟩ := hd; exact fun H locs arr hP hS hl => lv_ladd S.1 S.2.1 hd (k H locs arr hP hS hl)
theorem j_lsub (S : Std X E cc own nL d) {x y : Int64} (hd : decode cc pc = .ok (.lsub, 1) ∧ pc + 1 = np) (k : J X E nL np ls (.long (x - y) :: st) sh mem) : J X E nL pc ls (.long y :: .long x :: st) sh mem := by
  obtain ⟨hd, rfl⟩ := hd; exact fun H locs arr hP hS hl => lv_lsub S.1 S.2.1 hd (k H locs arr hP hS hl)
theorem j_lneg (S : Std X E cc own nL d) {x : Int64} (hd : decode cc pc = .ok (.lneg, 1) ∧ pc + 1 = np) (k : J X E nL np ls (.long (-x) :: st) sh mem) : J X E nL pc ls (.long x :: st) sh mem := by
  obtain ⟨hd, rfl⟩ := hd; exact fun H locs arr hP hS hl => lv_lneg S.1 S.2.1 hd (k H locs arr hP hS hl)
theorem j_lcmp (S : Std X E cc own nL d) {x y : Int64} (hd : decode cc pc = .ok (.lcmp, 1) ∧ pc + 1 = np) (k : J X E nL np ls (.int (lg_cmp x y) :: st) sh mem) : J X E nL pc ls (.long y :: .long x :: st) sh mem := by
  obtain ⟨hd, rfl⟩ := hd; exact fun H locs arr hP hS hl => W.lcmp S.1 S.2.1 hd (k H locs arr hP hS hl)
theorem j_dup (S : Std X E cc own nL d) (hd : decode cc pc = .ok (.dup, 1) ∧ pc + 1 = np) (ha : a.category = 1) (k : J X E nL np ls (a :: a :: st) sh mem) : J X E nL pc ls (a :: st) sh mem := by
  obtain ⟨hd, rfl⟩ := hd; exact fun H locs arr hP hS hl => lv_dup S.1 S.2.1 hd ha (k H locs arr hP hS hl)
theorem j_dup2 (S : Std X E cc own nL d) (hd : decode cc pc = .ok (.dup2, 1) ∧ pc + 1 = np) (ha : a.category = 1 ∧ b.category = 1) (k : J X E nL np ls (a :: b :: a :: b :: st) sh mem) : J X E nL pc ls (a :: b :: st) sh mem := by
  obtain ⟨hd, rfl⟩ := hd; exact fun H locs arr hP hS hl => lv_dup2_11 S.1 S.2.1 hd ha.1 ha.2 (k H locs arr hP hS hl)
theorem j_pop (S : Std X E cc own nL d) (hd : decode cc pc = .ok (.pop, 1) ∧ pc + 1 = np) (ha : a.category = 1) (k : J X E nL np ls st sh mem) : J X E nL pc ls (a :: st) sh mem := by
  obtain ⟨hd, rfl⟩ := hd; exact fun H locs arr hP hS hl => lv_pop S.1 S.2.1 hd ha (k H locs arr hP hS hl)
theorem j_goto (S : Std X E cc own nL d) {o : Int} (hd : decode cc pc = .ok (.goto o, 3) ∧ (pc : Int) + o = (tg : Int)) (k : J X E nL tg ls st sh mem) : J X E nL pc ls st sh mem :=
  fun H locs arr hP hS hl => lv_goto S.1 S.2.1 hd.1 hd.2 (k H locs arr hP hS hl)
theorem j_if_eq (S : Std X E cc own nL d) {o : Int} (hd : decode cc pc = .ok (.ifCond .eq o, 3) ∧ (pc : Int) + o = (tg : Int) ∧ pc + 3 = np) (k1 : x = 0 → J X E nL tg ls st sh mem) (k2 : ¬ x = 0 → J X E nL np ls st sh mem) : J X E nL pc ls (.int x :: st) sh mem := by
  obtain ⟨hd, ht, rfl⟩ := hd; exact fun H locs arr hP hS hl => lv_if_eq S.1 S.2.1 hd ht (fun c => k1 c H locs arr hP hS hl) (fun c => k2 c H locs arr hP hS hl)
theorem j_if_ne (S : Std X E cc own nL d) {o : Int} (hd : decode cc pc = .ok (.ifCond .ne o, 3) ∧ (pc : Int) + o = (tg : Int) ∧ pc + 3 = np) (k1 : ¬ x = 0 → J X E nL tg ls st sh mem) (k2 : x = 0 → J X E nL np ls st sh mem) : J X E nL pc ls (.int x :: st) sh mem := by
  obtain ⟨hd, ht, rfl⟩ := hd; exact fun H locs arr hP hS hl => lv_if_ne S.1 S.2.1 hd ht (fun c => k1 c H locs arr hP hS hl) (fun c => k2 c H locs arr hP hS hl)
theorem j_if_lt (S : Std X E cc own nL d) {o : Int} (hd : decode cc pc = .ok (.ifCond .lt o, 3) ∧ (pc : Int) + o = (tg : Int) ∧ pc + 3 = np) (k1 : x < 0 → J X E nL tg ls st sh mem) (k2 : ¬ x < 0 → J X E nL np ls st sh mem) : J X E nL pc ls (.int x :: st) sh mem := by
  obtain ⟨hd, ht, rfl⟩ := hd; exact fun H locs arr hP hS hl => lv_if_lt S.1 S.2.1 hd ht (fun c => k1 c H locs arr hP hS hl) (fun c => k2 c H locs arr hP hS hl)
theorem j_if_ge (S : Std X E cc own nL d) {o : Int} (hd : decode cc pc = .ok (.ifCond .ge o, 3) ∧ (pc : Int) + o = (tg : Int) ∧ pc + 3 = np) (k1 : 0 ≤ x → J X E nL tg ls st sh mem) (k2 : ¬ 0 ≤ x → J X E nL np ls st sh mem) : J X E nL pc ls (.int x :: st) sh mem := by
  obtain ⟨hd, ht, rfl⟩ := hd; exact fun H locs arr hP hS hl => lv_if_ge S.1 S.2.1 hd ht (fun c => k1 c H locs arr hP hS hl) (fun c => k2 c H locs arr hP hS hl)
theorem j_if_gt (S : Std X E cc own nL d) {o : Int} (hd : decode cc pc = .ok (.ifCond .gt o, 3) ∧ (pc : Int) + o = (tg : Int) ∧ pc + 3 = np) (k1 : 0 < x → J X E nL tg ls st sh mem) (k2 : ¬ 0 < x → J X E nL np ls st sh mem) : J X E nL pc ls (.int x :: st) sh mem := by
  obtain ⟨hd, ht, rfl⟩ := hd; exact fun H locs arr hP hS hl => lv_if_gt S.1 S.2.1 hd ht (fun c => k1 c H locs arr hP hS hl) (fun c => k2 c H locs arr hP hS hl)
theorem j_if_le (S : Std X E cc own nL d) {o : Int} (hd : decode cc pc = .ok (.ifCond .le o, 3) ∧ (pc : Int) + o = (tg : Int) ∧ pc + 3 = np) (k1 : x ≤ 0 → J X E nL tg ls st sh mem) (k2 : ¬ x ≤ 0 → J X E nL np ls st sh mem) : J X E nL pc ls (.int x :: st) sh mem := by
  obtain ⟨hd, ht, rfl⟩ := hd; exact fun H locs arr hP hS hl => lv_if_le S.1 S.2.1 hd ht (fun c => k1 c H locs arr hP hS hl) (fun c => k2 c H locs arr hP hS hl)
theorem j_icmp_eq (S : Std X E cc own nL d) {o : Int} (hd : decode cc pc = .ok (.if_icmp .eq o, 3) ∧ (pc : Int) + o = (tg : Int) ∧ pc + 3 = np) (k1 : x = y → J X E nL tg ls st sh mem) (k2 : ¬ x = y → J X E nL np ls st sh mem) : J X E nL pc ls (.int y :: .int x :: st) sh mem := by
  obtain ⟨hd, ht, rfl⟩ := hd; exact fun H locs arr hP hS hl => lv_icmp_eq S.1 S.2.1 hd ht (fun c => k1 c H locs arr hP hS hl) (fun c => k2 c H locs arr hP hS hl)
theorem j_icmp_ne (S : Std X E cc own nL d) {o : Int} (hd : decode cc pc = .ok (.if_icmp .ne o, 3) ∧ (pc : Int) + o = (tg : Int) ∧ pc + 3 = np) (k1 : ¬ x = y → J X E nL tg ls st sh mem) (k2 : x = y → J X E nL np ls st sh mem) : J X E nL pc ls (.int y :: .int x :: st) sh mem := by
  obtain ⟨hd, ht, rfl⟩ := hd; exact fun H locs arr hP hS hl => lv_icmp_ne S.1 S.2.1 hd ht (fun c => k1 c H locs arr hP hS hl) (fun c => k2 c H locs arr hP hS hl)
theorem j_icmp_lt (S : Std X E cc own nL d) {o : Int} (hd : decode cc pc = .ok (.if_icmp .lt o, 3) ∧ (pc : Int) + o = (tg : Int) ∧ pc + 3 = np) (k1 : x < y → J X E nL tg ls st sh mem) (k2 : ¬ x < y → J X E nL np ls st sh mem) : J X E nL pc ls (.int y :: .int x :: st) sh mem := by
  obtain ⟨hd, ht, rfl⟩ := hd; exact fun H locs arr hP hS hl => lv_icmp_lt S.1 S.2.1 hd ht (fun c => k1 c H locs arr hP hS hl) (fun c => k2 c H locs arr hP hS hl)
theorem j_icmp_ge (S : Std X E cc own nL d) {o : Int} (hd : decode cc pc = .ok (.if_icmp .ge o, 3) ∧ (pc : Int) + o = (tg : Int) ∧ pc + 3 = np) (k1 : y ≤ x → J X E nL tg ls st sh mem) (k2 : ¬ y ≤ x → J X E nL np ls st sh mem) : J X E nL pc ls (.int y :: .int x :: st) sh mem := by
  obtain ⟨hd, ht, rfl⟩ := hd; exact fun H locs arr hP hS hl => lv_icmp_ge S.1 S.2.1 hd ht (fun c => k1 c H locs arr hP hS hl) (fun c => k2 c H locs arr hP hS hl)
theorem j_icmp_gt (S : Std X E cc own nL d) {o : Int} (hd : decode cc pc = .ok (.if_icmp .gt o, 3) ∧ (pc : Int) + o = (tg : Int) ∧ pc + 3 = np) (k1 : y < x → J X E nL tg ls st sh mem) (k2 : ¬ y < x → J X E nL np ls st sh mem) : J X E nL pc ls (.int y :: .int x :: st) sh mem := by
  obtain ⟨hd, ht, rfl⟩ := hd; exact fun H locs arr hP hS hl => lv_icmp_gt S.1 S.2.1 hd ht (fun c => k1 c H locs arr hP hS hl) (fun c => k2 c H locs arr hP hS hl)
theorem j_icmp_le (S : Std X E cc own nL d) {o : Int} (hd : decode cc pc = .ok (.if_icmp .le o, 3) ∧ (pc : Int) + o = (tg : Int) ∧ pc + 3 = np) (k1 : x ≤ y → J X E nL tg ls st sh mem) (k2 : ¬ x ≤ y → J X E nL np ls st sh mem) : J X E nL pc ls (.int y :: .int x :: st) sh mem := by
  obtain ⟨hd, ht, rfl⟩ := hd; exact fun H locs arr hP hS hl => lv_icmp_le S.1 S.2.1 hd ht (fun c => k1 c H locs arr hP hS hl) (fun c => k2 c H locs arr hP hS hl)
end JR
