section KR2
variable {X : Cx} {E : En} {cc : ByteArray} {own : String} {nL d pc np N O N1 O1 n0 j : Nat} {ls : List (Nat × Value)} {st st0 : List Value} {sh sh0 L L2 : List Sh} {mem m2 : Mm} {x y v : Int32}
/-- anewarray: a row of nulls -/
theorem k_newQ {idx ti M : Nat} {C : String} {n : Int32} (S : Std (cxK X N O) E cc own nL d) (hAO : va_AO C (cxS X)) (hsz : (cxS X).heap.size + N = eb E + (n0 + j) ∧ eb E ≤ (cxS X).heap.size) (hn : sh0.length = n0) (hj : L.length = j) (hd : decode cc pc = .ok (.anewarray idx, 3) ∧ pc + 3 = np) (hw : Cond.classLink own idx C ∈ TB) (ht : (tysOf E.2.1)[ti]? = some (E.2.1 ti, .object C)) (hm : (¬ n < 0) ∧ n.toNatClampNeg = M ∧ M * 4 ≤ 536870912)
    (hN : N + 1 = N1 ∧ O + M = O1 ∧ N1 ≤ (cxR X).cells ∧ O1 ≤ (cxR X).slots) (hL : L ++ [.inr (.inr (ti, List.replicate M none))] = L2) (kk : J (cxK X N1 O1) E nL np ls (.ref (eb E + (n0 + j)) :: st) (sh0 ++ L2) (va_up mem (n0 + j) (fun _ => 0))) : J (cxK X N O) E nL pc ls (.int n :: st) (sh0 ++ L) mem := by
  obtain ⟨hd, rfl⟩ := hd
  obtain ⟨rfl, rfl, h1, h2⟩ := hN
  have hlen := plen hn hj
  refine fun H locs arr hP hS hl => va_newq (C := C) S.1 S.2.1 S.2.2.2.1 (S.2.2.2.2.1 _ hw) hAO S.2.2.2.2.2.1 hP (wd_D E _ mem) hS (fun q h => Nat.le_trans hsz.2 h) hm.1 hm.2.1 hm.2.2 h1 h2 hd (fun q cA H1 hK1 hP1 hD1 hS1 => ?_)
  intro T' hT' Xs
  have hs : H1.size ≤ eb E + (sh0 ++ L).length + 1 := by
    have h3 := Xs.heapSize
    rw [hT'] at h3
    rw [hlen]
    have h4 : H1.size ≤ (cxS X).heap.size + (N + 1) := h3
    omega
  have hq := addr_eq hP1 hD1 hs
  rw [hlen] at hq
  subst hq
  have hA : cA = E.2.1 ti := kn_int (tys := []) S.2.2.2.2.2.1 ht (hK1.2 (tysOf E.2.1).length _ (by rw [List.getElem?_append_right (Nat.le_refl _), Nat.sub_self]; rfl)).2
  subst hA
  have e := wd_push E (sh0 ++ L) mem (.inr (.inr (ti, List.replicate M none))) (fun _ => 0)
  rw [hlen, List.append_assoc, hL] at e
  have ec : cel E.2.1 E.2.2.1 (fun _ => 0) (.inr (.inr (ti, List.replicate M none))) = .inl (E.2.1 ti, M, .inr (.inr (.inr (.inr (fun _ => none))))) := by
    show (.inl (E.2.1 ti, (List.replicate M none).length, .inr (.inr (.inr (.inr (fun k => ((List.replicate M none).getD k none).map (fun t => E.2.2.1 + t)))))) : va_E) = _
    rw [List.length_replicate]
    congr 7
    funext k
    rw [List.getD_eq_getElem?_getD, List.getElem?_replicate]
    by_cases hk : k < M <;> simp [hk]
  rw [ec] at e
  exact kk H1 locs arr (e ▸ hP1) hS1 hl T' hT' Xs
/-- putfield of a final reference, in a constructor -/
theorem k_putR {idx ci i k t : Nat} {sl : List Sl} {s0 : Sl} {ty : FieldType} (S : Std X E cc own nL d) (hin : (cxT X).name = "<init>") (hd : decode cc pc = .ok (.putfield idx, 3) ∧ pc + 3 = np) (hf : ∃ q : vw_C, CL[ci]? = some q ∧ i < q.2.2 ∧ Cond.fieldLink own idx (q.2.1 i).1 (q.2.1 i).2.1 (q.2.1 i).2.2.1 ∈ TB ∧ parseFieldDescriptor (q.2.1 i).2.2.1 = some ty ∧ (q.2.1 i).2.2.2 = true ∧ (q.2.1 i).1 = own) (hty : ∀ r : Nat, narrow ty (.ref r) = .ref r ∧ fits ty (.ref r) = true) (hk : sh[k]? = some (.inl (ci, sl))) (hs : sl[i]? = some s0) (kk : J X E nL np ls st (sh.set k (.inl (ci, sl.set i (some (some t))))) mem) : J X E nL pc ls (.ref (eb E + t) :: .ref (eb E + k) :: st) sh mem := by
  obtain ⟨hd, rfl⟩ := hd
  obtain ⟨⟨C, T, N⟩, hq, hi, hw, hpd, hfin, hdecl⟩ := hf
  obtain ⟨ty0, hty0⟩ := clt hq
  refine fun H locs arr hP hS hl => va_putF S.1 S.2.1 (C := C) (T := T) (N := N) S.2.2.2.2.1 (clw hq) ty0 hty0 (cln hq) S.2.2.2.1 S.2.2.2.2.2.1 hP (wd_D E sh mem) hS k (wd_at hk) hq i hi (S.2.2.2.2.1 _ hw) (fun _ h => h) hfin hin hdecl hpd (hty _).1 (hty _).2 (by rw [fls_len]; exact (List.getElem?_eq_some_iff.mp hs).1) hd (fun H1 locs1 hP1 _ hS1 => kk H1 locs1 arr ?_ hS1 hl)
  rw [fls_ref hs t] at hP1
  have e := wd_seth (E := E) (mem := mem) hk (.inl (ci, sl.set i (some (some t))))
  exact e ▸ hP1
/-- aastore of an object into a row -/
theorem k_aast {k ti t ci : Nat} {l : List (Option Nat)} {sl : List Sl} {q : vw_C} (S : Std X E cc own nL d) (hd : decode cc pc = .ok (.aastore, 1) ∧ pc + 1 = np) (hk : sh[k]? = some (.inr (.inr (ti, l)))) (ht : (tysOf E.2.1)[ti]? = some (E.2.1 ti, .object q.1)) (hv : sh[t]? = some (.inl (ci, sl))) (hc : CL[ci]? = some q) (hi : inb x l.length = true) (kk : J X E nL np ls st (sh.set k (.inr (.inr (ti, l.set (ix x) (some t))))) mem) : J X E nL pc ls (.ref (eb E + t) :: .int x :: .ref (eb E + k) :: st) sh mem := by
  obtain ⟨hd, rfl⟩ := hd
  refine fun H locs arr hP hS hl => va_astq S.1 S.2.1 S.2.2.2.2.2.1 hP (wd_D E sh mem) hS k ti t ci (wd_at hk) ht (wd_at hv) hc (inb_vp hi) hd (fun H1 locs1 hP1 _ hS1 => kk H1 locs1 arr ?_ hS1 hl)
  have e := wd_seth (E := E) (mem := mem) hk (.inr (.inr (ti, l.set (ix x) (some t))))
  have hx := inb_lt hi
  have ec : cel E.2.1 E.2.2.1 (mem k) (.inr (.inr (ti, l.set (ix x) (some t)))) = .inl (E.2.1 ti, l.length, .inr (.inr (.inr (.inr (va_up (fun j => (l.getD j none).map (fun t => E.2.2.1 + t)) (ix x) (some (eb E + t))))))) := by
    show (.inl (E.2.1 ti, (l.set (ix x) (some t)).length, .inr (.inr (.inr (.inr (fun k => ((l.set (ix x) (some t)).getD k none).map (fun t => E.2.2.1 + t)))))) : va_E) = _
    rw [List.length_set]
    congr 7
    funext k
    rw [List.getD_eq_getElem?_getD]
    by_cases hkx : k = ix x
    · subst hkx
      rw [List.getElem?_set_self hx, va_up_self]
      rfl
    · rw [List.getElem?_set_ne (Ne.symm hkx), va_up_ne _ _ hkx, List.getD_eq_getElem?_getD]
  rw [ec] at e
  exact e ▸ hP1
theorem k_cast {k n : Nat} (S : Std X E cc own nL d) (hd : decode cc pc = .ok (.castore, 1) ∧ pc + 1 = np) (hk : sh[k]? = some (.inr (.inl (2, n)))) (hi : inb x n = true) (hv : vp_nar .char v = v) (kk : J X E nL np ls st sh (mst mem k (ix x) v)) : J X E nL pc ls (.int v :: .int x :: .ref (eb E + k) :: st) sh mem := by
  obtain ⟨hd, rfl⟩ := hd
  refine fun H locs arr hP hS hl => va_cast S.1 S.2.1 S.2.2.2.2.2.1 hP (wd_D E sh mem) hS k 2 (wd_at hk) rfl (inb_vp hi) hd (fun H1 locs1 hP1 _ hS1 => kk H1 locs1 arr ?_ hS1 hl)
  have e := wd_set (E := E) (mem := mem) hk (upd (mem k) (ix x) v)
  rw [hv] at hP1
  exact e ▸ hP1
theorem k_obj {idx r : Nat} (S : Std X E cc own nL d) (h1 : 1 ≤ d) (hd : decode cc pc = .ok (.invokespecial idx, 3) ∧ pc + 3 = np) (hw : Cond.methodLink own idx Lib.objectInit ∈ TB ∧ Cond.instanceMethod Lib.objectInit ∈ TB ∧ Cond.code Lib.objectInit ⟨#[0xb1]⟩ 1 none ∈ TB) (hc : (st.map fun v => v.category).sum ≤ 8) (kk : J X E nL np ls st sh mem) : J X E nL pc ls (.ref r :: st) sh mem := by
  obtain ⟨hd, rfl⟩ := hd
  have hR := S.2.2.2.2.2.2.2
  exact fun H locs arr hP hS hl => W.objInit S.1 S.2.1 S.2.2.2.1 (S.2.2.2.2.1 _ hw.1) (S.2.2.2.2.1 _ hw.2.1) (S.2.2.2.2.1 _ hw.2.2) rfl (by show arr.size = _; rw [hl.1]; exact S.2.2.1.symm) rfl hd (by omega) (by show 2 * 0 + _ + 12 ≤ _; omega) (kk H locs arr hP hS hl)
def RetN (X : Cx) (E : En) (cc : ByteArray) (nL mc ms : Nat) (sh : List Sh) (m2 : Mm) : Prop := ∀ (pc : Nat) (ls : List (Nat × Value)), decode cc pc = .ok (.return_, 1) → J (cxK X mc ms) E nL pc ls [] sh m2
variable {y : MethodName} {l : Launch} {av : List Value} {mc ms : Nat} {sh2 : List Sh}
theorem mk_CtN (hy : plainName y.cls = true ∧ (lg_sl av).length ≤ nL ∧ y.name = "<init>") (h : ∀ X : Cx, Std (cxK X 0 0) E cc y.cls nL d → cxR X = rmN d mc ms → (cxT X).name = "<init>" → (cxS X).heap.size = eb E + sh.length → Kx (cxS X) → RetN X E cc nL mc ms sh2 m2 → J (cxK X 0 0) E nL 0 (lv_args 0 av) [] sh mem) : CtN l E d mc ms y cc nL av sh mem sh2 m2 := by
  refine Met.ofW (cc := cc) (maxL := nL) (ret := none) hy.1 rfl ?_
  intro p e s m args below meth c s₁ B hml hv
  obtain ⟨rfl, ⟨hP, hK, hKs⟩, hz, hKx⟩ := hv
  have hx := B.exec
  have hb := B.bytes
  have hr := B.returns
  have hts := atoms_spec (ws := Cond.code y cc nL none :: TB) B.pre
  have hown : s.vm.findClass y.cls = some m.cls := findClass_of_methodNamed B.named
  have hlocks := B.notSynchronized
  have hin : meth.name = "<init>" := (name_of_methodNamed B.named B.method).1.trans hy.2.2
  rw [lg_entry_eq]
  refine h (p, l, e, rmN d mc ms, s, m, av.toArray, below, meth, c, (0, 0), MQ below (va_Qv (fun (_ : Unit) => True) (fun _ t => PosC E sh2 m2 t) (Ab E)) av.toArray s mc ms (Ab E)) ⟨hx, hb, hml, hown, fun w hw => hts w (List.mem_cons_of_mem _ hw), hK, hKs, Nat.le_refl _, Nat.le_refl _, Nat.zero_le _, Nat.zero_le _⟩ rfl hin hz hKx ?_ s.heap [] _ hP va_S.rf (lv_entry av hy.2.1)
  intro pc ls hd H locs arr hP hS hl
  exact W.vret hx hb hr (fun t ht hW => ⟨⟨(), rfl, trivial, by show va_P _ _ _ t.heap; rw [ht]; exact hP⟩, hS.F ht⟩) hS.2.2 hd
variable {idx n d2 nL2 k : Nat} {c2 : ByteArray} {As : List Value}
theorem cbN (S : Std X E cc own nL d) (hc : Cond.code y c2 nL2 none ∈ TB ∧ Cond.initialized y.cls ∈ TB) (h4 : nL2 ≤ 21) (hdd : d2 < d) : (rmN d2 mc ms).cells = mc ∧ (rmN d2 mc ms).slots = ms ∧ (rmN d2 mc ms).frames + 1 ≤ (cxR X).frames ∧ 8 + (nL2 + 11) + (rmN d2 mc ms).locals ≤ (cxR X).locals ∧ (∀ w ∈ (Cond.code y c2 nL2 none :: TB), ∀ (a' : Array Value) (U : State), (cxS X).WarmedH U.vm → w.before a' U = true) ∧ Cond.code y c2 nL2 none ∈ (Cond.code y c2 nL2 none :: TB) := by
  have hR := S.2.2.2.2.2.2.2
  have hT := S.2.2.2.2.1
  refine ⟨rfl, rfl, by show d2 + 1 ≤ _; omega, by show 8 + (nL2 + 11) + 40 * d2 ≤ _; omega, fun w hw a' U hW => ?_, List.mem_cons_self⟩
  have hw : w ∈ TB := (List.mem_cons.mp hw).elim (fun e => e ▸ hc.1) id
  exact word_at hW (tb_good hw) (hT _ hw)
/-- a call of a constructor; hsz: how much room is taken up to here -/
theorem k_callN (S : Std (cxK X N O) E cc own nL d) (hKx : Kx (cxS X)) (hsz : (cxS X).heap.size + N = eb E + sh.length ∧ 0 < sh.length) (hd : decode cc pc = .ok (.invokespecial idx, 3) ∧ pc + 3 = np) (hm : (Cond.methodLink own idx y ∈ TB ∨ ∃ host, va_Nw (.methodLinkNest own idx y host) (cxS X)) ∧ Cond.instanceMethod y ∈ TB) (hcd : Cond.code y c2 nL2 none ∈ TB ∧ Cond.initialized y.cls ∈ TB) (hp : (y.cls ≠ "java/lang/invoke/MethodHandle" ∧ y.cls ≠ "java/lang/invoke/VarHandle" ∧ (parseMethodDescriptor y.desc).map (fun d => d.parameters.length) = some n) ∧ y.name = "<init>") (hM : CtN (cxL X) E d2 mc ms y c2 nL2 (.ref k :: As) sh mem sh2 m2) (hdd : d2 < d ∧ nL2 ≤ 21) (hst : st0 = As.reverse ++ .ref k :: st) (hn : As.length = n) (hcat : (st.map fun v => v.category).sum ≤ 8)
    (hN : N + mc = N1 ∧ O + ms = O1 ∧ N1 ≤ (cxR X).cells ∧ O1 ≤ (cxR X).slots) (kk : J (cxK X N1 O1) E nL np ls st sh2 m2) : J (cxK X N O) E nL pc ls st0 sh mem := by
  obtain ⟨hd, rfl⟩ := hd
  obtain ⟨rfl, rfl, h1, h2⟩ := hN
  have cb := cbN (mc := mc) (ms := ms) S hcd hdd.2 hdd.1
  have hT := S.2.2.2.2.1
  intro H locs arr hP hS hl T hT0 Xs
  have hz : H.size = eb E + sh.length := by
    have h3 := Xs.heapSize
    rw [hT0] at h3
    have h4 : H.size ≤ (cxS X).heap.size + N := h3
    have h5 := size_ge hP hsz.2
    omega
  have pre : PreS (cxS X) H (va_Pc (.ref k :: As) (PreN E sh mem)) (.ref k :: As) := ⟨blindN, fun U hU hW => ⟨rfl, ⟨by rw [hU]; exact hP, va_K.moved hW.alike S.2.2.2.2.2.1, Ks.warm S.2.2.2.2.2.2.1 hW (by rw [hU]; exact hS.2.1)⟩, by rw [hU]; exact hz, Kx.warm hW hKx⟩⟩
  have hlen : ∀ sig, parseMethodDescriptor y.desc = some sig → n = sig.parameters.length := fun sig h => by
    have h3 := hp.1.2.2
    rw [h] at h3
    exact (Option.some.inj h3).symm
  have run : va_Run (cxP X) (cxL X) (cxE X) (cxR X) (cxS X) (cxM X) (cxA X) (cxB X) (cxT X) (cxC X) H locs N O mc ms (F0 (cxM X) pc arr st0) st (va_Qv (fun (_ : Unit) => True) (fun _ t => PosC E sh2 m2 t) (Ab E) (Value.ref k :: As).toArray) (Ab E) := by
    rcases hm.1 with hl1 | ⟨host, hl1⟩
    · exact va_runI (As := As) (rest := st) (Ts := TB) (own := own) ⟨S.1, S.2.1, S.2.2.1, S.2.2.2.1, S.2.2.2.2.1⟩ hM ⟨⟨cb.1, cb.2.1, cb.2.2.1, cb.2.2.2.1, cb.2.2.2.2.1, cb.2.2.2.2.2, hT _ hcd.1, hT _ hcd.2, ⟨hp.1.1, hp.1.2.1⟩, hlen, hT _ hl1⟩, hp.2, hT _ hm.2⟩ pre rfl hn hl.1 hst (lv_room hcat) hd ⟨h1, h2⟩
    · exact va_runIN (As := As) (rest := st) (Ts := TB) (own := own) ⟨S.1, S.2.1, S.2.2.1, S.2.2.2.1, S.2.2.2.2.1⟩ hM ⟨⟨⟨cb.1, cb.2.1, cb.2.2.1, cb.2.2.2.1, cb.2.2.2.2.1, cb.2.2.2.2.2⟩, hT _ hcd.1, hT _ hcd.2, ⟨hp.1.1, hp.1.2.1⟩, hlen, va_Nw.use rfl hl1⟩, hp.2, hT _ hm.2⟩ pre rfl hn hl.1 hst (lv_room hcat) hd ⟨h1, h2⟩
  exact va_callv run hS (fun _ _ h => h) (fun _ h => h) (fun u t H1 locs1 ht hvm hw hB hz hk1 hS1 => kk H1 locs1 arr (ht ▸ hB) hS1 hl) T hT0 Xs
end KR2
