/-! CONSTRUCTORS: the world grows. A world is a prefix sh0 of n0 cells, and behind it the cells L of the object that is made. -/
def rmN (d mc ms : Nat) : Room := { frames := d, cells := mc, slots := ms, locals := 40 * d }
def Kx (U : State) : Prop := (va_AO R4 U ∧ va_AO R1 U ∧ va_AO R2 U) ∧ va_Nw (.methodLinkNest R5 17 ⟨R3, "<init>", "()V"⟩ R5) U ∧ va_Nw (.methodLinkNest R5 46 ⟨R4, "<init>", "()V"⟩ R5) U ∧ va_Nw (.methodLinkNest R5 62 ⟨R1, "<init>", "()V"⟩ R5) U ∧ va_Nw (.methodLinkNest R5 63 ⟨R2, "<init>", "()V"⟩ R5) U ∧ va_Nw (.methodLinkNest R2 26 ⟨R1, "<init>", "()V"⟩ R5) U
theorem Kx.warm {s U : State} (hW : s.WarmedH U.vm) (h : Kx s) : Kx U := ⟨⟨h.1.1.moved hW.alike, h.1.2.1.moved hW.alike, h.1.2.2.moved hW.alike⟩, h.2.1.warmM hW, h.2.2.1.warmM hW, h.2.2.2.1.warmM hW, h.2.2.2.2.1.warmM hW, h.2.2.2.2.2.warmM hW⟩
theorem Kx.same {s U : State} (hv : U.vm = s.vm) (h : Kx s) : Kx U := by
  have ha : s.vm.Alike U.vm := by rw [hv]; exact Vm.Alike.refl _
  exact ⟨⟨h.1.1.moved ha, h.1.2.1.moved ha, h.1.2.2.moved ha⟩, h.2.1.same rfl hv.symm, h.2.2.1.same rfl hv.symm, h.2.2.2.1.same rfl hv.symm, h.2.2.2.2.1.same rfl hv.symm, h.2.2.2.2.2.same rfl hv.symm⟩
def PreN (E : En) (sh : List Sh) (mem : Mm) (U : State) : Prop := PreC E sh mem U ∧ U.heap.size = eb E + sh.length ∧ Kx U
def CtN (l : Launch) (E : En) (d mc ms : Nat) (y : MethodName) (cc : ByteArray) (nL : Nat) (av : List Value) (sh : List Sh) (mem : Mm) (sh2 : List Sh) (m2 : Mm) : Prop :=
  Met l y (Cond.code y cc nL none :: TB) (rmN d mc ms) (va_Pc av (PreN E sh mem)) (va_Qv (fun (_ : Unit) => True) (fun _ t => PosC E sh2 m2 t) (Ab E)) mc ms (Ab E)
theorem blindN {E : En} {sh : List Sh} {mem : Mm} {av : List Value} : FrameBlind (va_Pc av (PreN E sh mem)) :=
  fun a U g mk q => ⟨q.1, (blindC (E := E) (sh := sh) (mem := mem) (av := av) a U g mk ⟨q.1, q.2.1⟩).2, q.2.2.1, Kx.same (s := U) (U := U.calling g mk a) rfl q.2.2.2⟩
section KR
variable {X : Cx} {E : En} {cc : ByteArray} {own : String} {nL d pc np N O N1 O1 n0 j : Nat} {ls : List (Nat × Value)} {st st0 : List Value} {sh sh0 L L2 : List Sh} {mem m2 : Mm} {x y v : Int32}
theorem wd_len (E : En) (sh : List Sh) (mem : Mm) : (wd E sh mem).length = sh.length := by unfold wd; rw [List.length_mapIdx]
theorem size_ge {H : Heap} (hP : va_P E.1 CL (wd E sh mem) H) (hne : 0 < sh.length) : eb E + sh.length ≤ H.size := by
  obtain ⟨h, hh⟩ : ∃ h, sh[sh.length - 1]? = some h := ⟨_, List.getElem?_eq_getElem (by omega)⟩
  have h1 := (hP _ _ (wd_at hh)).lt
  have h2 : E.2.2.1 + (sh.length - 1) < H.size := h1
  show E.2.2.1 + sh.length ≤ H.size
  omega
theorem addr_eq {q : Nat} {e : va_E} {H1 : Heap} (hP : va_P E.1 CL (wd E sh mem ++ [(q, e)]) H1) (hD : va_D (Ab E) (wd E sh mem ++ [(q, e)])) (hs : H1.size ≤ eb E + sh.length + 1) : q = eb E + sh.length := by
  have hl := wd_len E sh mem
  have hn : (wd E sh mem ++ [(q, e)])[sh.length]? = some (q, e) := by
    rw [List.getElem?_append_right (by rw [hl]; exact Nat.le_refl _), hl, Nat.sub_self]; rfl
  have h1 : q < H1.size := (hP _ _ hn).lt
  have h2 : E.2.2.1 ≤ q := hD.2 _ _ hn
  have hs : H1.size ≤ E.2.2.1 + sh.length + 1 := hs
  rcases Nat.lt_or_ge q (E.2.2.1 + sh.length) with h | h
  · exfalso
    obtain ⟨z, hz⟩ : ∃ z, sh[q - E.2.2.1]? = some z := ⟨_, List.getElem?_eq_getElem (by omega)⟩
    have h3 : (wd E sh mem ++ [(q, e)])[q - E.2.2.1]? = some (E.2.2.1 + (q - E.2.2.1), cel E.2.1 E.2.2.1 (mem (q - E.2.2.1)) z) := by
      rw [List.getElem?_append_left (by rw [hl]; omega)]
      exact wd_at hz
    have h4 := hD.1 _ _ _ _ h3 hn (by show E.2.2.1 + (q - E.2.2.1) = q; omega)
    omega
  · show q = E.2.2.1 + sh.length
    omega
theorem stdK (S : Std X E cc own nL d) (h1 : N ≤ (cxR X).cells) (h2 : O ≤ (cxR X).slots) : Std (cxK X N O) E cc own nL d :=
  ⟨S.1, S.2.1, S.2.2.1, S.2.2.2.1, S.2.2.2.2.1, S.2.2.2.2.2.1, S.2.2.2.2.2.2.1, S.2.2.2.2.2.2.2.1, S.2.2.2.2.2.2.2.2.1, h1, h2⟩
theorem pfx {k : Sh} (hn : sh0.length = n0) (h : L[j]? = some k) : (sh0 ++ L)[n0 + j]? = some k := by
  rw [List.getElem?_append_right (by omega), show n0 + j - sh0.length = j by omega]; exact h
theorem pset {k : Sh} (hn : sh0.length = n0) (h : L.set j k = L2) : (sh0 ++ L).set (n0 + j) k = sh0 ++ L2 := by
  rw [List.set_append_right _ _ (by omega), show n0 + j - sh0.length = j by omega, h]
theorem plen (hn : sh0.length = n0) (hj : L.length = j) : (sh0 ++ L).length = n0 + j := by rw [List.length_append, hn, hj]
theorem j_shp {sh2 : List Sh} (h : sh = sh2) (k : J X E nL pc ls st sh2 mem) : J X E nL pc ls st sh mem := h ▸ k
/-- new: an object of class ci, its places 0 and null -/
theorem k_newO {idx ci M : Nat} {C : String} {T : u_T} {sl : List Sl} (S : Std (cxK X N O) E cc own nL d) (hsz : (cxS X).heap.size + N = eb E + (n0 + j) ∧ eb E ≤ (cxS X).heap.size) (hn : sh0.length = n0) (hj : L.length = j) (hd : decode cc pc = .ok (.new idx, 3) ∧ pc + 3 = np) (hw : Cond.classLink own idx C ∈ TB ∧ Cond.instantiable C M ∈ TB ∧ Cond.initialized C ∈ TB) (hc : CL[ci]? = some (C, T, M)) (ty : Nat → FieldType) (hty : ∀ k, k < M → parseFieldDescriptor (T k).2.2.1 = some (ty k)) (hdf : ∀ b k, k < M → defaultValue (ty k) = vp_V (fls b (fun _ => 0) sl) k)
    (hN : N + 1 = N1 ∧ O + M = O1 ∧ N1 ≤ (cxR X).cells ∧ O1 ≤ (cxR X).slots) (hL : L ++ [.inl (ci, sl)] = L2) (kk : J (cxK X N1 O1) E nL np ls (.ref (eb E + (n0 + j)) :: st) (sh0 ++ L2) (va_up mem (n0 + j) (fun _ => 0))) : J (cxK X N O) E nL pc ls st (sh0 ++ L) mem := by
  obtain ⟨hd, rfl⟩ := hd
  obtain ⟨rfl, rfl, h1, h2⟩ := hN
  have hlen := plen hn hj
  refine fun H locs arr hP hS hl => va_new (C := C) (T := T) (N := M) (ci := ci) (fs := fls (eb E) (fun _ => 0) sl) S.1 S.2.1 S.2.2.2.2.1 (clw hc) ty hty S.2.2.2.1 (S.2.2.2.2.1 _ hw.1) (S.2.2.2.2.1 _ hw.2.1) (S.2.2.2.2.1 _ hw.2.2) S.2.2.2.2.2.1 hP (wd_D E _ mem) hS (fun q h => Nat.le_trans hsz.2 h) hc (hdf (eb E)) h1 h2 hd (fun q H1 hP1 hD1 hS1 => ?_)
  intro T' hT' Xs
  have hs : H1.size ≤ eb E + (sh0 ++ L).length + 1 := by
    have h3 := Xs.heapSize
    rw [hT'] at h3
    rw [hlen]
    have h4 : H1.size ≤ (cxS X).heap.size + (N + 1) := h3
    omega
  have hq := addr_eq hP1 hD1 hs
  rw [hlen] at hq
  subst hq
  have e := wd_push E (sh0 ++ L) mem (.inl (ci, sl)) (fun _ => 0)
  rw [hlen, List.append_assoc, hL] at e
  exact kk H1 locs arr (e ▸ hP1) hS1 hl T' hT' Xs
theorem kn_int {cA : ClassId} {U : State} {ti : Nat} {ty : FieldType} {tys : List (ClassId × FieldType)} (h : Kn E U) (ht : (tysOf E.2.1)[ti]? = some (E.2.1 ti, ty)) (hR : va_RA U cA ty) : cA = E.2.1 ti := by
  have h1 := (h.2 ti _ ht).2
  cases ty with
  | object C =>
    obtain ⟨_, _, _, _, _, a⟩ := hR
    obtain ⟨_, _, _, _, _, b⟩ := h1
    exact Option.some.inj (a.symm.trans b)
  | _ => exact Option.some.inj (Eq.symm (by first | exact hR | skip) |>.trans h1 |> fun e => by first | exact e | exact absurd rfl (by simp))
/-- newarray of a small type -/
theorem k_newA {ti M : Nat} {at0 : ArrayType} {ty : FieldType} {n : Int32} (S : Std (cxK X N O) E cc own nL d) (hsz : (cxS X).heap.size + N = eb E + (n0 + j) ∧ eb E ≤ (cxS X).heap.size) (hn : sh0.length = n0) (hj : L.length = j) (hd : decode cc pc = .ok (.newarray at0, 2) ∧ pc + 2 = np) (hw : Cond.arrayClass (newarray.typeOf at0) ∈ TB) (hty : newarray.typeOf at0 = ty) (ht : (tysOf E.2.1)[ti]? = some (E.2.1 ti, ty)) (hdf : defaultValue ty = .int 0) (hm : (¬ n < 0) ∧ n.toNatClampNeg = M ∧ M * componentBytes ty ≤ 536870912)
    (hN : N + 1 = N1 ∧ O + M = O1 ∧ N1 ≤ (cxR X).cells ∧ O1 ≤ (cxR X).slots) (hL : L ++ [.inr (.inl (ti, M))] = L2) (kk : J (cxK X N1 O1) E nL np ls (.ref (eb E + (n0 + j)) :: st) (sh0 ++ L2) (va_up mem (n0 + j) (fun _ => 0))) : J (cxK X N O) E nL pc ls (.int n :: st) (sh0 ++ L) mem := by
  obtain ⟨hd, rfl⟩ := hd
  obtain ⟨rfl, rfl, h1, h2⟩ := hN
  have hlen := plen hn hj
  refine fun H locs arr hP hS hl => va_newa (atype := at0) (ty := ty) (a0 := (M, .inl (fun _ => 0))) S.1 S.2.1 (S.2.2.2.2.1 _ hw) hty S.2.2.2.2.2.1 hP (wd_D E _ mem) hS (fun q h => Nat.le_trans hsz.2 h) (fun cA => by rw [vp_cell_i, hdf]) hm.1 hm.2.1 hm.2.2 h1 h2 hd (fun q cA H1 hK1 hP1 hD1 hS1 => ?_)
  intro T' hT' Xs
  have hs : H1.size ≤ eb E + (sh0 ++ L).length + 1 := by
    have h3 := Xs.heapSize
    rw [hT'] at h3
    rw [hlen]
    have h4 : H1.size ≤ (cxS X).heap.size + (N + 1) := h3
    omega
  have hq := addr_eq hP1 hD1 hs
  rw [hlen] at hq
  subst hq
  have hA : cA = E.2.1 ti := kn_int (tys := []) S.2.2.2.2.2.1 ht (hK1.2 (tysOf E.2.1).length _ (by rw [List.getElem?_append_right (Nat.le_refl _), Nat.sub_self]; rfl)).2
  subst hA
  have e := wd_push E (sh0 ++ L) mem (.inr (.inl (ti, M))) (fun _ => 0)
  rw [hlen, List.append_assoc, hL] at e
  exact kk H1 locs arr (e ▸ hP1) hS1 hl T' hT' Xs
end KR
