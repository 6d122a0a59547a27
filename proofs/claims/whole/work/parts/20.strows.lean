/-! rows of the six String constants, and of methods that answer a small int or a String -/
def RJS : String := "java/lang/String"
def RJL : String := "java/lang/StringLatin1"
def RJP : String := "jdk/internal/util/Preconditions"
abbrev ev (E : En) (i : Nat) : Nat := E.2.2.2.2 i
def sN (i : Nat) : Nat := kS.getD i 0
def sB (i j : Nat) : Int32 := (kB.getD i []).getD j 0
def isc (v : Int32) : Bool := decide ((v.toUInt32 % 65536).toInt32 = v)
theorem isc_n {v : Int32} (h : isc v = true) : narrow .char (.int v) = .int v := by
  unfold isc at h
  have e := of_decide_eq_true h
  have k := pk_nc v
  rw [e] at k
  exact k
section JS
variable {X : Cx} {E : En} {cc : ByteArray} {own : String} {nL d pc np : Nat} {ls : List (Nat × Value)} {st st0 : List Value} {sh : List Sh} {mem m2 : Mm} {x r t : Int32}
theorem j_gets1 (S : Std X E cc own nL d) {idx : Nat} (hd : decode cc pc = .ok (.getstatic idx, 3) ∧ pc + 3 = np) (hw : Cond.fieldLink own idx "java/lang/String" "COMPACT_STRINGS" "Z" ∈ TB) (kk : J X E nL np ls (.int 1 :: st) sh mem) : J X E nL pc ls st sh mem := by
  obtain ⟨hd, rfl⟩ := hd
  exact fun H locs arr hP hS hl => va_gets S.1 S.2.1 S.2.2.2.2.2.2.1.2.2.1 hS S.2.2.2.1 (S.2.2.2.2.1 _ hw) (fun _ h => h) hd (kk H locs arr hP hS hl)
theorem j_getsQ (S : Std X E cc own nL d) {idx : Nat} (hd : decode cc pc = .ok (.getstatic idx, 3) ∧ pc + 3 = np) (hw : Cond.fieldLink own idx "jdk/internal/util/Preconditions" "SIOOBE_FORMATTER" "Ljava/util/function/BiFunction;" ∈ TB) (kk : ∀ w : Value, w.category = 1 → J X E nL np ls (w :: st) sh mem) : J X E nL pc ls st sh mem := by
  obtain ⟨hd, rfl⟩ := hd
  refine fun H locs arr hP hS hl => ?_
  rcases S.2.2.2.2.2.2.1.2.2.2 with hZ | ⟨a, hZ⟩
  · exact va_gets S.1 S.2.1 hZ hS S.2.2.2.1 (S.2.2.2.2.1 _ hw) (fun _ h => h) hd (kk _ rfl H locs arr hP hS hl)
  · exact va_gets S.1 S.2.1 hZ hS S.2.2.2.1 (S.2.2.2.2.1 _ hw) (fun _ h => h) hd (kk _ rfl H locs arr hP hS hl)
theorem j_strV (S : Std X E cc own nL d) {idx i : Nat} (hd : decode cc pc = .ok (.getfield idx, 3) ∧ pc + 3 = np) (hw : Cond.fieldLink own idx "java/lang/String" "value" "[B" ∈ TB) (hi : i < 6) (kk : J X E nL np ls (.ref (ev E i) :: st) sh mem) : J X E nL pc ls (.ref (ek E i) :: st) sh mem := by
  obtain ⟨hd, rfl⟩ := hd
  exact fun H locs arr hP hS hl => vk_getf S.1 S.2.1 (S.2.2.2.2.2.2.1.1.1 i hi).2.2.1 hS S.2.2.2.1 (S.2.2.2.2.1 _ hw) (fun _ h => h) hd (kk H locs arr hP hS hl)
theorem j_strC (S : Std X E cc own nL d) {idx i : Nat} (hd : decode cc pc = .ok (.getfield idx, 3) ∧ pc + 3 = np) (hw : Cond.fieldLink own idx "java/lang/String" "coder" "B" ∈ TB) (hi : i < 6) (kk : J X E nL np ls (.int 0 :: st) sh mem) : J X E nL pc ls (.ref (ek E i) :: st) sh mem := by
  obtain ⟨hd, rfl⟩ := hd
  exact fun H locs arr hP hS hl => vk_getf S.1 S.2.1 (S.2.2.2.2.2.2.1.1.1 i hi).2.1 hS S.2.2.2.1 (S.2.2.2.2.1 _ hw) (fun _ h => h) hd (kk H locs arr hP hS hl)
theorem j_slen (S : Std X E cc own nL d) {i : Nat} (hd : decode cc pc = .ok (.arraylength, 1) ∧ pc + 1 = np) (hi : i < 6) (kk : J X E nL np ls (.int (Int32.ofNat (sN i)) :: st) sh mem) : J X E nL pc ls (.ref (ev E i) :: st) sh mem := by
  obtain ⟨hd, rfl⟩ := hd
  exact fun H locs arr hP hS hl => va_tlen S.1 S.2.1 (S.2.2.2.2.2.2.1.1.1 i hi).2.2.2 hS rfl hd (kk H locs arr hP hS hl)
theorem j_sbald (S : Std X E cc own nL d) {i : Nat} (hd : decode cc pc = .ok (.baload, 1) ∧ pc + 1 = np) (hi : i < 6) (hx : inb x (sN i) = true) (kk : J X E nL np ls (.int (sB i (ix x)) :: st) sh mem) : J X E nL pc ls (.int x :: .ref (ev E i) :: st) sh mem := by
  obtain ⟨hd, rfl⟩ := hd
  exact fun H locs arr hP hS hl => va_tb S.1 S.2.1 (S.2.2.2.2.2.2.1.1.1 i hi).2.2.2 hS (inb_vp hx) rfl hd (kk H locs arr hP hS hl)
theorem j_i2b (S : Std X E cc own nL d) (hd : decode cc pc = .ok (.i2b, 1) ∧ pc + 1 = np) (k : J X E nL np ls (.int x.toInt8.toInt32 :: st) sh mem) : J X E nL pc ls (.int x :: st) sh mem := by
  obtain ⟨hd, rfl⟩ := hd; exact fun H locs arr hP hS hl => lv_i2b S.1 S.2.1 hd rfl (k H locs arr hP hS hl)
theorem j_ldcS (S : Std X E cc R3 nL d) {idx i : Nat} {tx : String} (hd : decode cc pc = .ok (.ldc idx, 2) ∧ pc + 2 = np) (hz : vk_R R3 idx tx (ek E i) (cxS X)) (k : J X E nL np ls (.ref (ek E i) :: st) sh mem) : J X E nL pc ls st sh mem := by
  obtain ⟨hd, rfl⟩ := hd; exact fun H locs arr hP hS hl => va_ldcS S.1 S.2.1 S.2.2.2.1 hz hd (k H locs arr hP hS hl)
variable {idx k n d2 nL2 i : Nat} {y : MethodName} {c2 : ByteArray} {ret : Option FieldType} {As : List Value}
theorem j_callTI (S : Std X E cc own nL d) (hd : decode cc pc = .ok (.invokevirtual idx, 3) ∧ pc + 3 = np) (hm : MV own idx y c2 nL2 ret n) (hM : CtI (cxL X) E d2 y c2 nL2 ret (.ref (ek E i) :: As) sh mem r m2) (hdd : d2 < d) (hi : i < 6) (hq : y.cls = "java/lang/String") (hst : st0 = As.reverse ++ .ref (ek E i) :: st) (hn : As.length = n) (hcat : (st.map fun v => v.category).sum ≤ 8) (kk : J X E nL np ls (.int r :: st) sh m2) : J X E nL pc ls st0 sh mem := by
  obtain ⟨hd, rfl⟩ := hd
  have hR := S.2.2.2.2.2.2.2
  exact fun H locs arr hP hS hl => va_calli (va_runV (As := As) (rest := st) ⟨S.1, S.2.1, S.2.2.1, S.2.2.2.1, S.2.2.2.2.1⟩ hM (cbV S hm hdd) ⟨blindC, by rw [hq]; exact vk_recv S.2.2.2.2.2.2.1.1 hi hS, fun U hU hW => ⟨rfl, by rw [hU]; exact hP, va_K.moved hW.alike S.2.2.2.2.2.1, Ks.warm S.2.2.2.2.2.2.1 hW (by rw [hU]; exact hS.2.1)⟩⟩ rfl hn hl.1 hst (lv_room hcat) hd ⟨hR.2.2.1, hR.2.2.2⟩) hS (fun _ _ h => h) (fun _ h => h) (fun r1 u t H1 locs1 ht hvm hw hB hz hk1 hS1 => by
    cases hw
    exact kk H1 locs1 arr (ht ▸ hB) hS1 hl)
/-- a method that answers the String constant i -/
def CtR (l : Launch) (E : En) (d : Nat) (y : MethodName) (cc : ByteArray) (nL : Nat) (ret : Option FieldType) (av : List Value) (sh : List Sh) (mem : Mm) (i : Nat) : Prop :=
  Met l y (Cond.code y cc nL ret :: TB) (rmd d) (va_Pc av (PreC E sh mem)) (va_Qr (fun (_ : Unit) => True) (fun _ a t => a = ek E i ∧ PosC E sh mem t) (Ab E)) 0 0 (Ab E)
theorem j_callSR (S : Std X E cc own nL d) (hd : decode cc pc = .ok (.invokestatic idx, 3) ∧ pc + 3 = np) (hm : MS own idx y c2 nL2 ret n) (hM : CtR (cxL X) E d2 y c2 nL2 ret As sh mem i) (hdd : d2 < d) (hst : st0 = As.reverse ++ st) (hn : As.length = n) (hcat : (st.map fun v => v.category).sum ≤ 8) (kk : J X E nL np ls (.ref (ek E i) :: st) sh mem) : J X E nL pc ls st0 sh mem := by
  obtain ⟨hd, rfl⟩ := hd
  have hR := S.2.2.2.2.2.2.2
  exact fun H locs arr hP hS hl => va_callr (va_runS (As := As) (rest := st) ⟨S.1, S.2.1, S.2.2.1, S.2.2.2.1, S.2.2.2.2.1⟩ hM (cbS S hm hdd) (preS S hP hS) rfl hn hl.1 hst (lv_room hcat) hd ⟨hR.2.2.1, hR.2.2.2⟩) hS (fun _ _ h => h) (fun _ h => h) (fun u ra t H1 locs1 ht hvm hw hB hz hk1 hS1 => by
    obtain ⟨rfl, hB⟩ := hB
    exact kk H1 locs1 arr (ht ▸ hB) hS1 hl)
def RetR (X : Cx) (E : En) (cc : ByteArray) (nL : Nat) (sh : List Sh) (i : Nat) (mem : Mm) : Prop := ∀ (pc : Nat) (ls : List (Nat × Value)), decode cc pc = .ok (.areturn, 1) → J X E nL pc ls [.ref (ek E i)] sh mem
variable {l : Launch} {av : List Value} {ty : FieldType}
theorem mk_CtR (hy : plainName y.cls = true ∧ (lg_sl av).length ≤ nL) (h : ∀ X : Cx, Std X E cc y.cls nL d → cxL X = l → RetR X E cc nL sh i mem → J X E nL 0 (lv_args 0 av) [] sh mem) : CtR l E d y cc nL (some (.object "java/lang/String")) av sh mem i := by
  refine Met.ofW (cc := cc) (maxL := nL) (ret := some (.object "java/lang/String")) hy.1 rfl ?_
  intro p e s m args below meth c s₁ B hml hv
  obtain ⟨rfl, hP, hK, hKs⟩ := hv
  have hx := B.exec
  have hb := B.bytes
  have hr := B.returns
  have hts := atoms_spec (ws := Cond.code y cc nL (some (.object "java/lang/String")) :: TB) B.pre
  have hown : s.vm.findClass y.cls = some m.cls := findClass_of_methodNamed B.named
  have hlocks := B.notSynchronized
  rw [lg_entry_eq]
  refine h (p, l, e, rmd d, s, m, av.toArray, below, meth, c, (0, 0), MQ below (va_Qr (fun (_ : Unit) => True) (fun _ a t => a = ek E i ∧ PosC E sh mem t) (Ab E)) av.toArray s 0 0 (Ab E)) ⟨hx, hb, hml, hown, fun w hw => hts w (List.mem_cons_of_mem _ hw), hK, hKs, Nat.le_refl _, Nat.le_refl _, Nat.le_refl _, Nat.le_refl _⟩ rfl ?_ s.heap [] _ hP va_S.rf (lv_entry av hy.2)
  intro pc ls hd H locs arr hP hS hl
  exact W.aret (v := .ref (ek E i)) hx hb hr (Or.inl ⟨_, rfl⟩) (Or.inr ⟨_, rfl⟩) (fun t ht hW => ⟨⟨(), _, rfl, trivial, rfl, by show va_P _ _ _ t.heap; rw [ht]; exact hP⟩, hS.F ht⟩) hS.2.2 hd
theorem mk_CtY (hy : plainName y.cls = true ∧ (lg_sl av).length ≤ nL) (h : ∀ X : Cx, Std X E cc y.cls nL d → cxL X = l → (narrow ty (.int r) = .int r → RetI X E cc nL sh r m2) → J X E nL 0 (lv_args 0 av) [] sh mem) : CtI l E d y cc nL (some ty) av sh mem r m2 := by
  refine Met.ofW (cc := cc) (maxL := nL) (ret := some ty) hy.1 rfl ?_
  intro p e s m args below meth c s₁ B hml hv
  obtain ⟨rfl, hP, hK, hKs⟩ := hv
  have hx := B.exec
  have hb := B.bytes
  have hr := B.returns
  have hts := atoms_spec (ws := Cond.code y cc nL (some ty) :: TB) B.pre
  have hown : s.vm.findClass y.cls = some m.cls := findClass_of_methodNamed B.named
  have hlocks := B.notSynchronized
  rw [lg_entry_eq]
  refine h (p, l, e, rmd d, s, m, av.toArray, below, meth, c, (0, 0), MQ below (va_Qi (fun (v : Int32) (_ : Unit) => v = r) (fun _ t => PosC E sh m2 t) (Ab E)) av.toArray s 0 0 (Ab E)) ⟨hx, hb, hml, hown, fun w hw => hts w (List.mem_cons_of_mem _ hw), hK, hKs, Nat.le_refl _, Nat.le_refl _, Nat.le_refl _, Nat.le_refl _⟩ rfl ?_ s.heap [] _ hP va_S.rf (lv_entry av hy.2)
  intro hz pc ls hd H locs arr hP hS hl
  exact W.zret (v := r) (ty := ty) hx hb hr hz (fun t ht hW => ⟨⟨r, (), rfl, rfl, by show va_P _ _ _ t.heap; rw [ht]; exact hP⟩, hS.F ht⟩) hS.2.2 hd
theorem rtIY (hR : narrow ty (.int r) = .int r → RetI X E cc nL sh r mem) (h : some t = some r) (hb : narrow ty (.int t) = .int t) : RetI X E cc nL sh t mem := by cases h; exact hR hb
theorem rtR {i j : Nat} (hR : RetR X E cc nL sh i mem) (h : some j = some i) : RetR X E cc nL sh j mem := by cases h; exact hR
theorem lenW {a b : Int32} {w : Value} (hw : w.category = 1) : (lg_sl [.int a, .int b, w]).length ≤ 3 := by simp [lg_sl, hw, show (Value.int a).category = 1 from rfl, show (Value.int b).category = 1 from rfl]
end JS
