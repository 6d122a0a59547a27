/-! CONTRACTS: a method with depth d of calls under it, from the world (sh, mem), answers r and leaves (sh, mem2). Calls and returns. -/
def rmd (d : Nat) : Room := { frames := d, cells := 0, slots := 0, locals := 40 * d }
def PreC (E : En) (sh : List Sh) (mem : Mm) (U : State) : Prop := va_P E.1 CL (wd E sh mem) U.heap ∧ Kn E U ∧ Ks E U U.heap
def PosC (E : En) (sh : List Sh) (mem : Mm) (t : State) : Prop := va_P E.1 CL (wd E sh mem) t.heap
def CtI (l : Launch) (E : En) (d : Nat) (y : MethodName) (cc : ByteArray) (nL : Nat) (ret : Option FieldType) (av : List Value) (sh : List Sh) (mem : Mm) (r : Int32) (m2 : Mm) : Prop :=
  Met l y (Cond.code y cc nL ret :: TB) (rmd d) (va_Pc av (PreC E sh mem)) (va_Qi (fun (v : Int32) (_ : Unit) => v = r) (fun _ t => PosC E sh m2 t) (Ab E)) 0 0 (Ab E)
def CtL (l : Launch) (E : En) (d : Nat) (y : MethodName) (cc : ByteArray) (nL : Nat) (av : List Value) (sh : List Sh) (mem : Mm) (r : Int64) (m2 : Mm) : Prop :=
  Met l y (Cond.code y cc nL (some .long) :: TB) (rmd d) (va_Pc av (PreC E sh mem)) (va_Ql (fun (v : Int64) (_ : Unit) => v = r) (fun _ t => PosC E sh m2 t) (Ab E)) 0 0 (Ab E)
def CtV (l : Launch) (E : En) (d : Nat) (y : MethodName) (cc : ByteArray) (nL : Nat) (av : List Value) (sh : List Sh) (mem m2 : Mm) : Prop :=
  Met l y (Cond.code y cc nL none :: TB) (rmd d) (va_Pc av (PreC E sh mem)) (va_Qv (fun (_ : Unit) => True) (fun _ t => PosC E sh m2 t) (Ab E)) 0 0 (Ab E)
theorem Ks.same {E : En} {s U : State} {H : Heap} (h : Ks E s H) (hv : U.vm = s.vm) : Ks E U H := by
  obtain ⟨h1, ⟨r0, r1, r2, r3, r4, r5⟩, h3, h4⟩ := h
  have ha : s.vm.Alike U.vm := by rw [hv]; exact Vm.Alike.refl _
  exact ⟨h1.moved ha, ⟨r0.same hv, r1.same hv, r2.same hv, r3.same hv, r4.same hv, r5.same hv⟩, h3.moved ha, h4.moved ha⟩
theorem blindC {E : En} {sh : List Sh} {mem : Mm} {av : List Value} : FrameBlind (va_Pc av (PreC E sh mem)) :=
  fun a U g mk q => ⟨q.1, q.2.1, va_K.moved (u := U) (U := U.calling g mk a) (Vm.Alike.refl U.vm) q.2.2.1, Ks.same (s := U) (U := U.calling g mk a) q.2.2.2 rfl⟩
def isb (v : Int32) : Bool := decide (v = 0) || decide (v = 1)
theorem isb_or {v : Int32} (h : isb v = true) : v = 0 ∨ v = 1 := by
  unfold isb at h
  simpa only [Bool.or_eq_true, decide_eq_true_eq] using h
theorem isb_nf {v : Int32} (h : isb v = true) : narrow .boolean (.int v) = .int v ∧ fits .boolean (.int v) = true := by
  rcases isb_or h with rfl | rfl <;> exact ⟨by decide +kernel, by decide +kernel⟩
theorem isb_vn {v : Int32} (h : isb v = true) : vp_nar .boolean v = v := by
  rcases isb_or h with rfl | rfl <;> decide +kernel
def RetI (X : Cx) (E : En) (cc : ByteArray) (nL : Nat) (sh : List Sh) (r : Int32) (m2 : Mm) : Prop := ∀ (pc : Nat) (ls : List (Nat × Value)), decode cc pc = .ok (.ireturn, 1) → J X E nL pc ls [.int r] sh m2
def RetL (X : Cx) (E : En) (cc : ByteArray) (nL : Nat) (sh : List Sh) (r : Int64) (m2 : Mm) : Prop := ∀ (pc : Nat) (ls : List (Nat × Value)), decode cc pc = .ok (.lreturn, 1) → J X E nL pc ls [.long r] sh m2
def RetV (X : Cx) (E : En) (cc : ByteArray) (nL : Nat) (sh : List Sh) (m2 : Mm) : Prop := ∀ (pc : Nat) (ls : List (Nat × Value)), decode cc pc = .ok (.return_, 1) → J X E nL pc ls [] sh m2
section MK
variable {l : Launch} {E : En} {d : Nat} {y : MethodName} {cc : ByteArray} {nL : Nat} {av : List Value} {sh : List Sh} {mem m2 : Mm} {r : Int32}
theorem mk_CtI (hy : plainName y.cls = true ∧ (lg_sl av).length ≤ nL) (h : ∀ X : Cx, Std X E cc y.cls nL d → cxL X = l → RetI X E cc nL sh r m2 → J X E nL 0 (lv_args 0 av) [] sh mem) : CtI l E d y cc nL (some .int) av sh mem r m2 := by
  refine Met.ofW (cc := cc) (maxL := nL) (ret := some .int) hy.1 rfl ?_
  intro p e s m args below meth c s₁ B hml hv
  obtain ⟨rfl, hP, hK, hKs⟩ := hv
  have hx := B.exec
  have hb := B.bytes
  have hr := B.returns
  have hts := atoms_spec (ws := Cond.code y cc nL (some .int) :: TB) B.pre
  have hown : s.vm.findClass y.cls = some m.cls := findClass_of_methodNamed B.named
  have hlocks := B.notSynchronized
  rw [lg_entry_eq]
  refine h (p, l, e, rmd d, s, m, av.toArray, below, meth, c, (0, 0), MQ below (va_Qi (fun (v : Int32) (_ : Unit) => v = r) (fun _ t => PosC E sh m2 t) (Ab E)) av.toArray s 0 0 (Ab E)) ⟨hx, hb, hml, hown, fun w hw => hts w (List.mem_cons_of_mem _ hw), hK, hKs, Nat.le_refl _, Nat.le_refl _, Nat.le_refl _, Nat.le_refl _⟩ rfl ?_ s.heap [] _ hP va_S.rf (lv_entry av hy.2)
  intro pc ls hd H locs arr hP hS hl
  exact W.iret (v := r) hx hb hr (fun t ht hW => ⟨⟨r, (), rfl, rfl, by show va_P _ _ _ t.heap; rw [ht]; exact hP⟩, hS.F ht⟩) hS.2.2 hd
theorem mk_CtZ (hy : plainName y.cls = true ∧ (lg_sl av).length ≤ nL) (h : ∀ X : Cx, Std X E cc y.cls nL d → cxL X = l → (isb r = true → RetI X E cc nL sh r m2) → J X E nL 0 (lv_args 0 av) [] sh mem) : CtI l E d y cc nL (some .boolean) av sh mem r m2 := by
  refine Met.ofW (cc := cc) (maxL := nL) (ret := some .boolean) hy.1 rfl ?_
  intro p e s m args below meth c s₁ B hml hv
  obtain ⟨rfl, hP, hK, hKs⟩ := hv
  have hx := B.exec
  have hb := B.bytes
  have hr := B.returns
  have hts := atoms_spec (ws := Cond.code y cc nL (some .boolean) :: TB) B.pre
  have hown : s.vm.findClass y.cls = some m.cls := findClass_of_methodNamed B.named
  have hlocks := B.notSynchronized
  rw [lg_entry_eq]
  refine h (p, l, e, rmd d, s, m, av.toArray, below, meth, c, (0, 0), MQ below (va_Qi (fun (v : Int32) (_ : Unit) => v = r) (fun _ t => PosC E sh m2 t) (Ab E)) av.toArray s 0 0 (Ab E)) ⟨hx, hb, hml, hown, fun w hw => hts w (List.mem_cons_of_mem _ hw), hK, hKs, Nat.le_refl _, Nat.le_refl _, Nat.le_refl _, Nat.le_refl _⟩ rfl ?_ s.heap [] _ hP va_S.rf (lv_entry av hy.2)
  intro hz pc ls hd H locs arr hP hS hl
  exact W.zret (v := r) (ty := .boolean) hx hb hr (isb_nf hz).1 (fun t ht hW => ⟨⟨r, (), rfl, rfl, by show va_P _ _ _ t.heap; rw [ht]; exact hP⟩, hS.F ht⟩) hS.2.2 hd
theorem mk_CtL {r : Int64} (hy : plainName y.cls = true ∧ (lg_sl av).length ≤ nL) (h : ∀ X : Cx, Std X E cc y.cls nL d → cxL X = l → RetL X E cc nL sh r m2 → J X E nL 0 (lv_args 0 av) [] sh mem) : CtL l E d y cc nL av sh mem r m2 := by
  refine Met.ofW (cc := cc) (maxL := nL) (ret := some .long) hy.1 rfl ?_
  intro p e s m args below meth c s₁ B hml hv
  obtain ⟨rfl, hP, hK, hKs⟩ := hv
  have hx := B.exec
  have hb := B.bytes
  have hr := B.returns
  have hts := atoms_spec (ws := Cond.code y cc nL (some .long) :: TB) B.pre
  have hown : s.vm.findClass y.cls = some m.cls := findClass_of_methodNamed B.named
  have hlocks := B.notSynchronized
  rw [lg_entry_eq]
  refine h (p, l, e, rmd d, s, m, av.toArray, below, meth, c, (0, 0), MQ below (va_Ql (fun (v : Int64) (_ : Unit) => v = r) (fun _ t => PosC E sh m2 t) (Ab E)) av.toArray s 0 0 (Ab E)) ⟨hx, hb, hml, hown, fun w hw => hts w (List.mem_cons_of_mem _ hw), hK, hKs, Nat.le_refl _, Nat.le_refl _, Nat.le_refl _, Nat.le_refl _⟩ rfl ?_ s.heap [] _ hP va_S.rf (lv_entry av hy.2)
  intro pc ls hd H locs arr hP hS hl
  exact W.lret (v := r) hx hb hr (fun t ht hW => ⟨⟨r, (), rfl, rfl, by show va_P _ _ _ t.heap; rw [ht]; exact hP⟩, hS.F ht⟩) hS.2.2 hd
theorem mk_CtV (hy : plainName y.cls = true ∧ (lg_sl av).length ≤ nL) (h : ∀ X : Cx, Std X E cc y.cls nL d → cxL X = l → RetV X E cc nL sh m2 → J X E nL 0 (lv_args 0 av) [] sh mem) : CtV l E d y cc nL av sh mem m2 := by
  refine Met.ofW (cc := cc) (maxL := nL) (ret := none) hy.1 rfl ?_
  intro p e s m args below meth c s₁ B hml hv
  obtain ⟨rfl, hP, hK, hKs⟩ := hv
  have hx := B.exec
  have hb := B.bytes
  have hr := B.returns
  have hts := atoms_spec (ws := Cond.code y cc nL none :: TB) B.pre
  have hown : s.vm.findClass y.cls = some m.cls := findClass_of_methodNamed B.named
  have hlocks := B.notSynchronized
  rw [lg_entry_eq]
  refine h (p, l, e, rmd d, s, m, av.toArray, below, meth, c, (0, 0), MQ below (va_Qv (fun (_ : Unit) => True) (fun _ t => PosC E sh m2 t) (Ab E)) av.toArray s 0 0 (Ab E)) ⟨hx, hb, hml, hown, fun w hw => hts w (List.mem_cons_of_mem _ hw), hK, hKs, Nat.le_refl _, Nat.le_refl _, Nat.le_refl _, Nat.le_refl _⟩ rfl ?_ s.heap [] _ hP va_S.rf (lv_entry av hy.2)
  intro pc ls hd H locs arr hP hS hl
  exact W.vret hx hb hr (fun t ht hW => ⟨⟨(), rfl, trivial, by show va_P _ _ _ t.heap; rw [ht]; exact hP⟩, hS.F ht⟩) hS.2.2 hd
end MK
/-- a call's links -/
def MV (own : String) (idx : Nat) (y : MethodName) (cc : ByteArray) (nL : Nat) (ret : Option FieldType) (n : Nat) : Prop :=
  (Cond.methodLink own idx y ∈ TB ∧ Cond.instanceMethod y ∈ TB ∧ Cond.selects y.cls y y ∈ TB ∧ Cond.initialized y.cls ∈ TB ∧ Cond.code y cc nL ret ∈ TB) ∧ (y.cls ≠ "java/lang/invoke/MethodHandle" ∧ y.cls ≠ "java/lang/invoke/VarHandle" ∧ (parseMethodDescriptor y.desc).map (fun d => d.parameters.length) = some n) ∧ nL ≤ 21
def MS (own : String) (idx : Nat) (y : MethodName) (cc : ByteArray) (nL : Nat) (ret : Option FieldType) (n : Nat) : Prop :=
  (Cond.methodLink own idx y ∈ TB ∧ Cond.static y ∈ TB ∧ Cond.initialized y.cls ∈ TB ∧ Cond.code y cc nL ret ∈ TB) ∧ (y.cls ≠ "java/lang/invoke/MethodHandle" ∧ y.cls ≠ "java/lang/invoke/VarHandle" ∧ (parseMethodDescriptor y.desc).map (fun d => d.parameters.length) = some n) ∧ nL ≤ 21
section JC
variable {X : Cx} {E : En} {cc : ByteArray} {own : String} {nL d pc np : Nat} {ls : List (Nat × Value)} {st st0 : List Value} {sh : List Sh} {mem m2 : Mm} {r : Int32}
variable {idx k ci n d2 nL2 : Nat} {sl : List Sl} {y : MethodName} {c2 : ByteArray} {ret : Option FieldType} {As : List Value}
theorem cbV (S : Std X E cc own nL d) (hm : MV own idx y c2 nL2 ret n) (hdd : d2 < d) : CallW (cxR X) (cxS X) (cxA X) own y.cls idx y c2 nL2 ret (Cond.code y c2 nL2 ret :: TB) (rmd d2) 0 0 n := by
  obtain ⟨⟨w1, w2, w3, w4, w5⟩, ⟨h1, h2, h3⟩, h4⟩ := hm
  have hR := S.2.2.2.2.2.2.2
  have hT := S.2.2.2.2.1
  refine ⟨⟨rfl, rfl, by show d2 + 1 ≤ _; omega, by show 8 + (nL2 + 11) + 40 * d2 ≤ _; omega, fun w hw a' U hW => ?_, List.mem_cons_self, hT _ w5, hT _ w4, ⟨h1, h2⟩, fun sig h => ?_, hT _ w1⟩, hT _ w2, hT _ w3⟩
  · have hw : w ∈ TB := (List.mem_cons.mp hw).elim (fun e => e ▸ w5) id
    exact word_at hW (tb_good hw) (hT _ hw)
  · rw [h] at h3
    exact (Option.some.inj h3).symm
theorem cbS (S : Std X E cc own nL d) (hm : MS own idx y c2 nL2 ret n) (hdd : d2 < d) : CallB (cxR X) (cxS X) (cxA X) own idx y c2 nL2 ret (Cond.code y c2 nL2 ret :: TB) (rmd d2) 0 0 n ∧ (Cond.static y).before (cxA X) (cxS X) = true := by
  obtain ⟨⟨w1, w2, w4, w5⟩, ⟨h1, h2, h3⟩, h4⟩ := hm
  have hR := S.2.2.2.2.2.2.2
  have hT := S.2.2.2.2.1
  refine ⟨⟨rfl, rfl, by show d2 + 1 ≤ _; omega, by show 8 + (nL2 + 11) + 40 * d2 ≤ _; omega, fun w hw a' U hW => ?_, List.mem_cons_self, hT _ w5, hT _ w4, ⟨h1, h2⟩, fun sig h => ?_, hT _ w1⟩, hT _ w2⟩
  · have hw : w ∈ TB := (List.mem_cons.mp hw).elim (fun e => e ▸ w5) id
    exact word_at hW (tb_good hw) (hT _ hw)
  · rw [h] at h3
    exact (Option.some.inj h3).symm
theorem preV (S : Std X E cc own nL d) {H : Heap} {locs : List Loc} (hP : va_P E.1 CL (wd E sh mem) H) (hS : va_S (Ab E) (cxS X).heap H locs) (hk : sh[k]? = some (.inl (ci, sl))) {q : vw_C} (hc : CL[ci]? = some q) (hq : q.1 = y.cls) : PreV (cxS X) H y.cls (eb E + k) (va_Pc (.ref (eb E + k) :: As) (PreC E sh mem)) As :=
  ⟨blindC, hq ▸ va_recv S.2.2.2.2.2.1 hP hc (wd_at hk), fun U hU hW => ⟨rfl, by rw [hU]; exact hP, va_K.moved hW.alike S.2.2.2.2.2.1, Ks.warm S.2.2.2.2.2.2.1 hW (by rw [hU]; exact hS.2.1)⟩⟩
theorem preS (S : Std X E cc own nL d) {H : Heap} {locs : List Loc} (hP : va_P E.1 CL (wd E sh mem) H) (hS : va_S (Ab E) (cxS X).heap H locs) : PreS (cxS X) H (va_Pc As (PreC E sh mem)) As :=
  ⟨blindC, fun U hU hW => ⟨rfl, by rw [hU]; exact hP, va_K.moved hW.alike S.2.2.2.2.2.1, Ks.warm S.2.2.2.2.2.2.1 hW (by rw [hU]; exact hS.2.1)⟩⟩
theorem j_callVI (S : Std X E cc own nL d) (hd : decode cc pc = .ok (.invokevirtual idx, 3) ∧ pc + 3 = np) (hm : MV own idx y c2 nL2 ret n) (hM : CtI (cxL X) E d2 y c2 nL2 ret (.ref (eb E + k) :: As) sh mem r m2) (hdd : d2 < d) (hk : sh[k]? = some (.inl (ci, sl))) {q : vw_C} (hc : CL[ci]? = some q) (hq : q.1 = y.cls) (hst : st0 = As.reverse ++ .ref (eb E + k) :: st) (hn : As.length = n) (hcat : (st.map fun v => v.category).sum ≤ 8) (kk : J X E nL np ls (.int r :: st) sh m2) : J X E nL pc ls st0 sh mem := by
  obtain ⟨hd, rfl⟩ := hd
  have hR := S.2.2.2.2.2.2.2
  exact fun H locs arr hP hS hl => va_calli (va_runV (As := As) (rest := st) ⟨S.1, S.2.1, S.2.2.1, S.2.2.2.1, S.2.2.2.2.1⟩ hM (cbV S hm hdd) (preV S hP hS hk hc hq) rfl hn hl.1 hst (lv_room hcat) hd ⟨hR.2.2.1, hR.2.2.2⟩) hS (fun _ _ h => h) (fun _ h => h) (fun r1 u t H1 locs1 ht hvm hw hB hz hk1 hS1 => by
    cases hw
    exact kk H1 locs1 arr (ht ▸ hB) hS1 hl)
theorem j_callSI (S : Std X E cc own nL d) (hd : decode cc pc = .ok (.invokestatic idx, 3) ∧ pc + 3 = np) (hm : MS own idx y c2 nL2 ret n) (hM : CtI (cxL X) E d2 y c2 nL2 ret As sh mem r m2) (hdd : d2 < d) (hst : st0 = As.reverse ++ st) (hn : As.length = n) (hcat : (st.map fun v => v.category).sum ≤ 8) (kk : J X E nL np ls (.int r :: st) sh m2) : J X E nL pc ls st0 sh mem := by
  obtain ⟨hd, rfl⟩ := hd
  have hR := S.2.2.2.2.2.2.2
  exact fun H locs arr hP hS hl => va_calli (va_runS (As := As) (rest := st) ⟨S.1, S.2.1, S.2.2.1, S.2.2.2.1, S.2.2.2.2.1⟩ hM (cbS S hm hdd) (preS S hP hS) rfl hn hl.1 hst (lv_room hcat) hd ⟨hR.2.2.1, hR.2.2.2⟩) hS (fun _ _ h => h) (fun _ h => h) (fun r1 u t H1 locs1 ht hvm hw hB hz hk1 hS1 => by
    cases hw
    exact kk H1 locs1 arr (ht ▸ hB) hS1 hl)
theorem j_callVL {r : Int64} (S : Std X E cc own nL d) (hd : decode cc pc = .ok (.invokevirtual idx, 3) ∧ pc + 3 = np) (hm : MV own idx y c2 nL2 (some .long) n) (hM : CtL (cxL X) E d2 y c2 nL2 (.ref (eb E + k) :: As) sh mem r m2) (hdd : d2 < d) (hk : sh[k]? = some (.inl (ci, sl))) {q : vw_C} (hc : CL[ci]? = some q) (hq : q.1 = y.cls) (hst : st0 = As.reverse ++ .ref (eb E + k) :: st) (hn : As.length = n) (hcat : (st.map fun v => v.category).sum ≤ 8) (kk : J X E nL np ls (.long r :: st) sh m2) : J X E nL pc ls st0 sh mem := by
  obtain ⟨hd, rfl⟩ := hd
  have hR := S.2.2.2.2.2.2.2
  exact fun H locs arr hP hS hl => va_calll (va_runV (As := As) (rest := st) ⟨S.1, S.2.1, S.2.2.1, S.2.2.2.1, S.2.2.2.2.1⟩ hM (cbV S hm hdd) (preV S hP hS hk hc hq) rfl hn hl.1 hst (lv_room hcat) hd ⟨hR.2.2.1, hR.2.2.2⟩) hS (fun _ _ h => h) (fun _ h => h) (fun r1 u t H1 locs1 ht hvm hw hB hz hk1 hS1 => by
    cases hw
    exact kk H1 locs1 arr (ht ▸ hB) hS1 hl)
theorem j_callVV (S : Std X E cc own nL d) (hd : decode cc pc = .ok (.invokevirtual idx, 3) ∧ pc + 3 = np) (hm : MV own idx y c2 nL2 none n) (hM : CtV (cxL X) E d2 y c2 nL2 (.ref (eb E + k) :: As) sh mem m2) (hdd : d2 < d) (hk : sh[k]? = some (.inl (ci, sl))) {q : vw_C} (hc : CL[ci]? = some q) (hq : q.1 = y.cls) (hst : st0 = As.reverse ++ .ref (eb E + k) :: st) (hn : As.length = n) (hcat : (st.map fun v => v.category).sum ≤ 8) (kk : J X E nL np ls st sh m2) : J X E nL pc ls st0 sh mem := by
  obtain ⟨hd, rfl⟩ := hd
  have hR := S.2.2.2.2.2.2.2
  exact fun H locs arr hP hS hl => va_callv (va_runV (As := As) (rest := st) ⟨S.1, S.2.1, S.2.2.1, S.2.2.2.1, S.2.2.2.2.1⟩ hM (cbV S hm hdd) (preV S hP hS hk hc hq) rfl hn hl.1 hst (lv_room hcat) hd ⟨hR.2.2.1, hR.2.2.2⟩) hS (fun _ _ h => h) (fun _ h => h) (fun u t H1 locs1 ht hvm hw hB hz hk1 hS1 => kk H1 locs1 arr (ht ▸ hB) hS1 hl)
theorem j_callSV (S : Std X E cc own nL d) (hd : decode cc pc = .ok (.invokestatic idx, 3) ∧ pc + 3 = np) (hm : MS own idx y c2 nL2 none n) (hM : CtV (cxL X) E d2 y c2 nL2 As sh mem m2) (hdd : d2 < d) (hst : st0 = As.reverse ++ st) (hn : As.length = n) (hcat : (st.map fun v => v.category).sum ≤ 8) (kk : J X E nL np ls st sh m2) : J X E nL pc ls st0 sh mem := by
  obtain ⟨hd, rfl⟩ := hd
  have hR := S.2.2.2.2.2.2.2
  exact fun H locs arr hP hS hl => va_callv (va_runS (As := As) (rest := st) ⟨S.1, S.2.1, S.2.2.1, S.2.2.2.1, S.2.2.2.2.1⟩ hM (cbS S hm hdd) (preS S hP hS) rfl hn hl.1 hst (lv_room hcat) hd ⟨hR.2.2.1, hR.2.2.2⟩) hS (fun _ _ h => h) (fun _ h => h) (fun u t H1 locs1 ht hvm hw hB hz hk1 hS1 => kk H1 locs1 arr (ht ▸ hB) hS1 hl)
end JC
-- how the printed functions are taken apart
def lt {α β : Type} (e : α) (f : α → Option β) : Option β := f e
theorem ltE {α β : Type} {e : α} {f : α → Option β} {z : β} (h : lt e f = some z) : ∃ x, x = e ∧ f x = some z := ⟨e, rfl, h⟩
theorem gdE {α : Type} {c : Prop} [Decidable c] {a : Option α} {z : α} (h : (if c then a else none) = some z) : c ∧ a = some z := by
  by_cases hc : c
  · exact ⟨hc, by rw [if_pos hc] at h; exact h⟩
  · rw [if_neg hc] at h; cases h
def bp {α β : Type} (o : Option α) (f : α → Option β) : Option β := match o with
  | none => none
  | some x => f x
theorem bpE {α β : Type} {o : Option α} {f : α → Option β} {z : β} (h : bp o f = some z) : ∃ x, o = some x ∧ f x = some z := by
  cases o with
  | none => cases h
  | some x => exact ⟨x, rfl, h⟩
def bd {α β : Type} (o : Option (α × Mm)) (f : α → Mm → Option β) : Option β := match o with
  | none => none
  | some x => f x.1 x.2
theorem bdE {α β : Type} {o : Option (α × Mm)} {f : α → Mm → Option β} {z : β} (h : bd o f = some z) : ∃ x m, o = some (x, m) ∧ f x m = some z := by
  cases o with
  | none => cases h
  | some x => exact ⟨x.1, x.2, rfl, h⟩
theorem ifT {α : Type} {c : Prop} [Decidable c] {a b z : α} (hc : c) (h : (if c then a else b) = z) : a = z := by rw [if_pos hc] at h; exact h
theorem ifF {α : Type} {c : Prop} [Decidable c] {a b z : α} (hc : ¬ c) (h : (if c then a else b) = z) : b = z := by rw [if_neg hc] at h; exact h
