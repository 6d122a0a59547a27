section JH
variable {X : Cx} {E : En} {cc : ByteArray} {own : String} {nL d pc np tg : Nat} {ls : List (Nat × Value)} {st : List Value} {sh : List Sh} {mem : Mm} {x y v : Int32}
theorem j_getI (S : Std X E cc own nL d) {idx ci i k : Nat} {sl : List Sl} (hd : decode cc pc = .ok (.getfield idx, 3) ∧ pc + 3 = np) (hf : FLk own idx ci i) (hk : sh[k]? = some (.inl (ci, sl))) (hs : sl[i]? = some none) (kk : J X E nL np ls (.int (mem k i) :: st) sh mem) : J X E nL pc ls (.ref (eb E + k) :: st) sh mem := by
  obtain ⟨hd, rfl⟩ := hd
  obtain ⟨⟨C, T, N⟩, hq, hi, hw⟩ := hf
  exact fun H locs arr hP hS hl => va_get S.1 S.2.1 (C := C) (T := T) (N := N) S.2.2.2.2.1 (clw hq) S.2.2.2.1 S.2.2.2.2.2.1 hP k (wd_at hk) hq i hi (S.2.2.2.2.1 _ hw) (fun _ h => h) (fls_at hs) hd (kk H locs arr hP hS hl)
theorem j_getR (S : Std X E cc own nL d) {idx ci i k t : Nat} {sl : List Sl} (hd : decode cc pc = .ok (.getfield idx, 3) ∧ pc + 3 = np) (hf : FLk own idx ci i) (hk : sh[k]? = some (.inl (ci, sl))) (hs : sl[i]? = some (some (some t))) (kk : J X E nL np ls (.ref (eb E + t) :: st) sh mem) : J X E nL pc ls (.ref (eb E + k) :: st) sh mem := by
  obtain ⟨hd, rfl⟩ := hd
  obtain ⟨⟨C, T, N⟩, hq, hi, hw⟩ := hf
  exact fun H locs arr hP hS hl => va_get S.1 S.2.1 (C := C) (T := T) (N := N) S.2.2.2.2.1 (clw hq) S.2.2.2.1 S.2.2.2.2.2.1 hP k (wd_at hk) hq i hi (S.2.2.2.2.1 _ hw) (fun _ h => h) (fls_at hs) hd (kk H locs arr hP hS hl)
theorem j_put (S : Std X E cc own nL d) {idx ci i k : Nat} {sl : List Sl} {ty : FieldType} (hd : decode cc pc = .ok (.putfield idx, 3) ∧ pc + 3 = np) (hf : FPk own idx ci i ty) (hk : sh[k]? = some (.inl (ci, sl))) (hs : sl[i]? = some none) (hv : narrow ty (.int v) = .int v ∧ fits ty (.int v) = true) (kk : J X E nL np ls st sh (mst mem k i v)) : J X E nL pc ls (.int v :: .ref (eb E + k) :: st) sh mem := by
  obtain ⟨hd, rfl⟩ := hd
  obtain ⟨⟨C, T, N⟩, hq, hi, hw, hty, hfin⟩ := hf
  obtain ⟨ty0, hty0⟩ := clt hq
  refine fun H locs arr hP hS hl => va_put S.1 S.2.1 (C := C) (T := T) (N := N) S.2.2.2.2.1 (clw hq) ty0 hty0 (cln hq) S.2.2.2.1 S.2.2.2.2.2.1 hP (wd_D E sh mem) hS k (wd_at hk) hq i hi (S.2.2.2.2.1 _ hw) (fun _ h => h) hfin hty hv.1 hv.2 (by rw [fls_len]; exact (List.getElem?_eq_some_iff.mp hs).1) hd (fun H1 locs1 hP1 _ hS1 => kk H1 locs1 arr ?_ hS1 hl)
  rw [fls_int hs v] at hP1
  have e := wd_set (E := E) (mem := mem) hk (upd (mem k) i v)
  exact e ▸ hP1
theorem j_putI (S : Std X E cc own nL d) {idx ci i k : Nat} {sl : List Sl} (hd : decode cc pc = .ok (.putfield idx, 3) ∧ pc + 3 = np) (hf : FPk own idx ci i .int) (hk : sh[k]? = some (.inl (ci, sl))) (hs : sl[i]? = some none) (kk : J X E nL np ls st sh (mst mem k i v)) : J X E nL pc ls (.int v :: .ref (eb E + k) :: st) sh mem :=
  j_put S hd hf hk hs ⟨rfl, rfl⟩ kk
theorem tys_at0 (cA : Nat → ClassId) : (tysOf cA)[0]? = some (cA 0, .int) := rfl
theorem j_iald (S : Std X E cc own nL d) {k n : Nat} (hd : decode cc pc = .ok (.iaload, 1) ∧ pc + 1 = np) (hk : sh[k]? = some (.inr (.inl (0, n)))) (hi : inb x n = true) (kk : J X E nL np ls (.int (mem k (ix x)) :: st) sh mem) : J X E nL pc ls (.int x :: .ref (eb E + k) :: st) sh mem := by
  obtain ⟨hd, rfl⟩ := hd
  exact fun H locs arr hP hS hl => va_iald S.1 S.2.1 S.2.2.2.2.2.1 hP k 0 (wd_at hk) rfl (inb_vp hi) hd (kk H locs arr hP hS hl)
theorem j_zald (S : Std X E cc own nL d) {k n : Nat} (hd : decode cc pc = .ok (.baload, 1) ∧ pc + 1 = np) (hk : sh[k]? = some (.inr (.inl (1, n)))) (hi : inb x n = true) (kk : J X E nL np ls (.int (mem k (ix x)) :: st) sh mem) : J X E nL pc ls (.int x :: .ref (eb E + k) :: st) sh mem := by
  obtain ⟨hd, rfl⟩ := hd
  exact fun H locs arr hP hS hl => va_zald S.1 S.2.1 S.2.2.2.2.2.1 hP k 1 (wd_at hk) rfl (inb_vp hi) hd (kk H locs arr hP hS hl)
theorem j_cald (S : Std X E cc own nL d) {k n : Nat} (hd : decode cc pc = .ok (.caload, 1) ∧ pc + 1 = np) (hk : sh[k]? = some (.inr (.inl (2, n)))) (hi : inb x n = true) (kk : J X E nL np ls (.int (mem k (ix x)) :: st) sh mem) : J X E nL pc ls (.int x :: .ref (eb E + k) :: st) sh mem := by
  obtain ⟨hd, rfl⟩ := hd
  exact fun H locs arr hP hS hl => va_cald S.1 S.2.1 S.2.2.2.2.2.1 hP k 2 (wd_at hk) rfl (inb_vp hi) hd (kk H locs arr hP hS hl)
theorem j_iast (S : Std X E cc own nL d) {k n : Nat} (hd : decode cc pc = .ok (.iastore, 1) ∧ pc + 1 = np) (hk : sh[k]? = some (.inr (.inl (0, n)))) (hi : inb x n = true) (kk : J X E nL np ls st sh (mst mem k (ix x) v)) : J X E nL pc ls (.int v :: .int x :: .ref (eb E + k) :: st) sh mem := by
  obtain ⟨hd, rfl⟩ := hd
  refine fun H locs arr hP hS hl => va_iast S.1 S.2.1 S.2.2.2.2.2.1 hP (wd_D E sh mem) hS k 0 (wd_at hk) rfl (inb_vp hi) hd (fun H1 locs1 hP1 _ hS1 => kk H1 locs1 arr ?_ hS1 hl)
  have e := wd_set (E := E) (mem := mem) hk (upd (mem k) (ix x) v)
  exact e ▸ hP1
theorem j_zast (S : Std X E cc own nL d) {k n : Nat} (hd : decode cc pc = .ok (.bastore, 1) ∧ pc + 1 = np) (hk : sh[k]? = some (.inr (.inl (1, n)))) (hi : inb x n = true) (hv : vp_nar .boolean v = v) (kk : J X E nL np ls st sh (mst mem k (ix x) v)) : J X E nL pc ls (.int v :: .int x :: .ref (eb E + k) :: st) sh mem := by
  obtain ⟨hd, rfl⟩ := hd
  refine fun H locs arr hP hS hl => va_zast S.1 S.2.1 S.2.2.2.2.2.1 hP (wd_D E sh mem) hS k 1 (wd_at hk) rfl (inb_vp hi) hd (fun H1 locs1 hP1 _ hS1 => kk H1 locs1 arr ?_ hS1 hl)
  have e := wd_set (E := E) (mem := mem) hk (upd (mem k) (ix x) v)
  rw [hv] at hP1
  exact e ▸ hP1
theorem j_aald (S : Std X E cc own nL d) {k ti t : Nat} {C : String} {l : List (Option Nat)} (hd : decode cc pc = .ok (.aaload, 1) ∧ pc + 1 = np) (hk : sh[k]? = some (.inr (.inr (ti, l)))) (ht : (tysOf E.2.1)[ti]? = some (E.2.1 ti, .object C)) (hi : inb x l.length = true) (hl : l[ix x]? = some (some t)) (kk : J X E nL np ls (.ref (eb E + t) :: st) sh mem) : J X E nL pc ls (.int x :: .ref (eb E + k) :: st) sh mem := by
  obtain ⟨hd, rfl⟩ := hd
  refine fun H locs arr hP hS h => va_aldq S.1 S.2.1 S.2.2.2.2.2.1 hP k ti (wd_at hk) ht (inb_vp hi) hd ?_
  have e : va_rf ((l.getD (ix x) none).map (fun t => E.2.2.1 + t)) = .ref (eb E + t) := by
    rw [List.getD_eq_getElem?_getD, hl]; rfl
  rw [e]
  exact kk H locs arr hP hS h
theorem j_alen (S : Std X E cc own nL d) {k n : Nat} (hd : decode cc pc = .ok (.arraylength, 1) ∧ pc + 1 = np) (hk : sh[k]? = some (.inr (.inl (0, n)))) (hv : Int32.ofNat n = v) (kk : J X E nL np ls (.int v :: st) sh mem) : J X E nL pc ls (.ref (eb E + k) :: st) sh mem := by
  obtain ⟨hd, rfl⟩ := hd
  exact fun H locs arr hP hS hl => va_alen (ty := .int) S.1 S.2.1 S.2.2.2.2.2.1 hP k 0 (wd_at hk) rfl hv hd (kk H locs arr hP hS hl)
theorem j_alenQ (S : Std X E cc own nL d) {k ti : Nat} {l : List (Option Nat)} {ty : FieldType} (hd : decode cc pc = .ok (.arraylength, 1) ∧ pc + 1 = np) (hk : sh[k]? = some (.inr (.inr (ti, l)))) (ht : (tysOf E.2.1)[ti]? = some (E.2.1 ti, ty)) (hv : Int32.ofNat l.length = v) (kk : J X E nL np ls (.int v :: st) sh mem) : J X E nL pc ls (.ref (eb E + k) :: st) sh mem := by
  obtain ⟨hd, rfl⟩ := hd
  exact fun H locs arr hP hS hl => va_alen (ty := ty) S.1 S.2.1 S.2.2.2.2.2.1 hP k ti (wd_at hk) ht hv hd (kk H locs arr hP hS hl)
-- a value gets a name
theorem j_nm {e : Int32} (h : v = e) (k : J X E nL pc ls (.int v :: st) sh mem) : J X E nL pc ls (.int e :: st) sh mem := h ▸ k
theorem j_nmL {v e : Int64} (h : v = e) (k : J X E nL pc ls (.long v :: st) sh mem) : J X E nL pc ls (.long e :: st) sh mem := h ▸ k
theorem j_mem {m2 : Mm} (h : m2 = mem) (k : J X E nL pc ls st sh m2) : J X E nL pc ls st sh mem := h ▸ k
-- switches
theorem j_tabOut (S : Std X E cc own nL d) {dflt lo hi : Int} {offs : Array Int} {len : Nat} (hd : decode cc pc = .ok (.tableswitch dflt lo hi offs, len) ∧ (pc : Int) + dflt = (tg : Int)) (h : x.toInt < lo ∨ hi < x.toInt) (k : J X E nL tg ls st sh mem) : J X E nL pc ls (.int x :: st) sh mem :=
  fun H locs arr hP hS hl => lv_tableOut S.1 S.2.1 hd.1 h hd.2 (k H locs arr hP hS hl)
theorem j_tabIn (S : Std X E cc own nL d) {dflt lo hi off : Int} {offs : Array Int} {len : Nat} (hd : decode cc pc = .ok (.tableswitch dflt lo hi offs, len)) (a : Int32) (hx : x = a) (h : ¬ a.toInt < lo ∧ ¬ hi < a.toInt ∧ offs[(a.toInt - lo).toNat]? = some off ∧ (pc : Int) + off = (tg : Int)) (k : J X E nL tg ls st sh mem) : J X E nL pc ls (.int x :: st) sh mem := by
  subst hx
  exact fun H locs arr hP hS hl => lv_tableIn S.1 S.2.1 hd h.1 h.2.1 h.2.2.1 h.2.2.2 (k H locs arr hP hS hl)
theorem j_look (S : Std X E cc own nL d) {dflt off : Int} {ps : Array (Int × Int)} {len : Nat} (hd : decode cc pc = .ok (.lookupswitch dflt ps, len)) (hp : (ps.toList.zip (ps.toList.drop 1)).all (fun (a, next) => a.1 < next.1) = true) (ho : Op.lookupswitch.offset ps.toList dflt x.toInt = off) (ht : (pc : Int) + off = (tg : Int)) (k : J X E nL tg ls st sh mem) : J X E nL pc ls (.int x :: st) sh mem :=
  fun H locs arr hP hS hl => lv_lookup S.1 S.2.1 hd hp ho ht (k H locs arr hP hS hl)
theorem j_lookE (S : Std X E cc own nL d) {dflt off : Int} {ps : Array (Int × Int)} {len : Nat} (hd : decode cc pc = .ok (.lookupswitch dflt ps, len)) (a : Int32) (hx : x = a) (h : (ps.toList.zip (ps.toList.drop 1)).all (fun (a, next) => a.1 < next.1) = true ∧ Op.lookupswitch.offset ps.toList dflt a.toInt = off ∧ (pc : Int) + off = (tg : Int)) (k : J X E nL tg ls st sh mem) : J X E nL pc ls (.int x :: st) sh mem := by
  subst hx
  exact j_look S hd h.1 h.2.1 h.2.2 k
-- Math
theorem j_mmax (S : Std X E cc own nL d) {idx : Nat} (hd : decode cc pc = .ok (.invokestatic idx, 3) ∧ pc + 3 = np) (h1 : 1 ≤ d) (hw : Cond.methodLink own idx Lib.Math.max.name ∈ TB ∧ Cond.static Lib.Math.max.name ∈ TB ∧ Cond.initialized "java/lang/Math" ∈ TB ∧ Cond.code Lib.Math.max.name Lib.Math.max.code 2 (some .int) ∈ TB) (hc : (st.map fun v => v.category).sum ≤ 8) (k : J X E nL np ls (.int (if x < y then y else x) :: st) sh mem) : J X E nL pc ls (.int y :: .int x :: st) sh mem := by
  obtain ⟨hd, rfl⟩ := hd
  have hR := S.2.2.2.2.2.2.2
  exact fun H locs arr hP hS hl => va_mmax S.1 S.2.1 (S.2.2.1.trans hl.1.symm) S.2.2.2.1 (S.2.2.2.2.1 _ hw.1) (S.2.2.2.2.1 _ hw.2.1) (S.2.2.2.2.1 _ hw.2.2.1) (S.2.2.2.2.1 _ hw.2.2.2) (by omega) (by omega) hR.2.2.1 hR.2.2.2 hd (k H locs arr hP hS hl)
theorem j_mmin (S : Std X E cc own nL d) {idx : Nat} (hd : decode cc pc = .ok (.invokestatic idx, 3) ∧ pc + 3 = np) (h1 : 1 ≤ d) (hw : Cond.methodLink own idx Lib.Math.min.name ∈ TB ∧ Cond.static Lib.Math.min.name ∈ TB ∧ Cond.initialized "java/lang/Math" ∈ TB ∧ Cond.code Lib.Math.min.name Lib.Math.min.code 2 (some .int) ∈ TB) (hc : (st.map fun v => v.category).sum ≤ 8) (k : J X E nL np ls (.int (if y < x then y else x) :: st) sh mem) : J X E nL pc ls (.int y :: .int x :: st) sh mem := by
  obtain ⟨hd, rfl⟩ := hd
  have hR := S.2.2.2.2.2.2.2
  exact fun H locs arr hP hS hl => va_mmin S.1 S.2.1 (S.2.2.1.trans hl.1.symm) S.2.2.2.1 (S.2.2.2.2.1 _ hw.1) (S.2.2.2.2.1 _ hw.2.1) (S.2.2.2.2.1 _ hw.2.2.1) (S.2.2.2.2.1 _ hw.2.2.2) (by omega) (by omega) hR.2.2.1 hR.2.2.2 hd (k H locs arr hP hS hl)
theorem j_mabs (S : Std X E cc own nL d) {idx : Nat} (hd : decode cc pc = .ok (.invokestatic idx, 3) ∧ pc + 3 = np) (h1 : 1 ≤ d) (hw : Cond.methodLink own idx Lib.Math.abs.name ∈ TB ∧ Cond.static Lib.Math.abs.name ∈ TB ∧ Cond.initialized "java/lang/Math" ∈ TB ∧ Cond.code Lib.Math.abs.name Lib.Math.abs.code 1 (some .int) ∈ TB) (hc : (st.map fun v => v.category).sum ≤ 8) (k : J X E nL np ls (.int (if 0 ≤ x then x else 0 - x) :: st) sh mem) : J X E nL pc ls (.int x :: st) sh mem := by
  obtain ⟨hd, rfl⟩ := hd
  have hR := S.2.2.2.2.2.2.2
  exact fun H locs arr hP hS hl => va_mabs S.1 S.2.1 (S.2.2.1.trans hl.1.symm) S.2.2.2.1 (S.2.2.2.2.1 _ hw.1) (S.2.2.2.2.1 _ hw.2.1) (S.2.2.2.2.1 _ hw.2.2.1) (S.2.2.2.2.1 _ hw.2.2.2) (by omega) (by omega) hR.2.2.1 hR.2.2.2 hd (k H locs arr hP hS hl)
-- System.arraycopy between rows of ints
def cpok (a n : Int32) (N : Nat) : Bool := decide (0 ≤ a) && decide (ix a + ix n ≤ N)
theorem j_copy (S : Std X E cc own nL d) {idx k1 k2 n1 n2 : Nat} {sp dp n : Int32} (hd : decode cc pc = .ok (.invokestatic idx, 3) ∧ pc + 3 = np) (h1 : 1 ≤ d) (hw : Cond.methodLink own idx arraycopyName ∈ TB ∧ Cond.native arraycopyName ∈ TB ∧ Cond.static arraycopyName ∈ TB ∧ Cond.initialized "java/lang/System" ∈ TB) (hc : (st.map fun v => v.category).sum ≤ 8)
    (hk1 : sh[k1]? = some (.inr (.inl (0, n1)))) (hk2 : sh[k2]? = some (.inr (.inl (0, n2)))) (hn : 0 ≤ n) (h4 : cpok sp n n1 = true) (h5 : cpok dp n n2 = true) (k : J X E nL np ls st sh (va_up mem k2 (va_cpy (mem k1) (mem k2) (ix sp) (ix dp) (ix n)))) : J X E nL pc ls (.int n :: .int dp :: .ref (eb E + k2) :: .int sp :: .ref (eb E + k1) :: st) sh mem := by
  obtain ⟨hd, rfl⟩ := hd
  have hR := S.2.2.2.2.2.2.2
  have nn : ∀ z : Int32, 0 ≤ z → ¬ z < 0 := fun z h q => by
    rw [Int32.lt_iff_toInt_lt] at q
    have := Int32.le_iff_toInt_le.mp h
    omega
  unfold cpok at h4 h5
  simp only [Bool.and_eq_true, decide_eq_true_eq] at h4 h5
  have hnf : nativeFrameWords "java/lang/System" "arraycopy" 5 ≤ 16 := by decide +kernel
  refine fun H locs arr hP hS hl => va_copyi S.1 S.2.1 (S.2.2.1.trans hl.1.symm) S.2.2.2.1 (S.2.2.2.2.1 _ hw.1) (S.2.2.2.2.1 _ hw.2.1) (S.2.2.2.2.1 _ hw.2.2.1) (S.2.2.2.2.1 _ hw.2.2.2) S.2.2.2.2.2.1 hP (wd_D E sh mem) hS k1 k2 0 0 (wd_at hk1) (wd_at hk2) rfl rfl rfl (nn _ h4.1) (nn _ h5.1) (nn _ hn) h4.2 h5.2 (fun _ _ => rfl) (by omega) (by omega) hd (fun H1 locs1 hP1 _ hS1 => k H1 locs1 arr ?_ hS1 hl)
  have e := wd_set (E := E) (mem := mem) hk2 (va_cpy (mem k1) (mem k2) (ix sp) (ix dp) (ix n))
  exact e ▸ hP1
end JH
