/-! THE WORLD: cells at consecutive addresses from a base b on; each cell has a SHAPE (which never changes behind the constructors), and the ints in it are told by ONE function mem: cell, place -> int. -/
abbrev Mm : Type := Nat → Nat → Int32
/-- a place of an object: none: an int; some none: null; some (some t): a reference to cell t -/
abbrev Sl : Type := Option (Option Nat)
/-- a cell: an object (its class, its places); a row of ints (its class, its length); a row of references (its class, what they are) -/
abbrev Sh : Type := (Nat × List Sl) ⊕ ((Nat × Nat) ⊕ (Nat × List (Option Nat)))
abbrev En : Type := va_G × (Nat → ClassId) × Nat × (Nat → Nat) × (Nat → Nat)
abbrev Cx : Type := Program × Launch × Env × Room × State × MethodId × Array Value × List Frame × Method × Code × (Nat × Nat) × (State → Prop)
def mst (mem : Mm) (k i : Nat) (v : Int32) : Mm := va_up mem k (upd (mem k) i v)
def slv (b : Nat) (f : Nat → Int32) (i : Nat) (s : Sl) : Value := match s with
  | none => .int (f i)
  | some r => va_rf (r.map (fun t => b + t))
def fls (b : Nat) (f : Nat → Int32) (sl : List Sl) : List Value := sl.mapIdx (fun i s => slv b f i s)
def cel (cA : Nat → ClassId) (b : Nat) (f : Nat → Int32) (h : Sh) : va_E := match h with
  | .inl q => .inr (q.1, fls b f q.2)
  | .inr (.inl q) => .inl (cA q.1, q.2, .inl f)
  | .inr (.inr q) => .inl (cA q.1, q.2.length, .inr (.inr (.inr (.inr (fun j => (q.2.getD j none).map (fun t => b + t))))))
def wd (E : En) (sh : List Sh) (mem : Mm) : va_W := sh.mapIdx (fun k h => (E.2.2.1 + k, cel E.2.1 E.2.2.1 (mem k) h))
abbrev eb (E : En) : Nat := E.2.2.1
def Ab (E : En) : Nat → Prop := fun q => E.2.2.1 ≤ q
theorem wd_at {E : En} {sh : List Sh} {mem : Mm} {k : Nat} {h : Sh} (hk : sh[k]? = some h) : (wd E sh mem)[k]? = some (E.2.2.1 + k, cel E.2.1 E.2.2.1 (mem k) h) := by
  unfold wd
  rw [List.getElem?_mapIdx, hk]
  rfl
theorem wd_out {E : En} {sh : List Sh} {mem : Mm} {k : Nat} {q : Nat × va_E} (h : (wd E sh mem)[k]? = some q) : ∃ s, sh[k]? = some s ∧ q = (E.2.2.1 + k, cel E.2.1 E.2.2.1 (mem k) s) := by
  unfold wd at h
  rw [List.getElem?_mapIdx] at h
  cases hs : sh[k]? with
  | none => rw [hs] at h; cases h
  | some s => rw [hs] at h; exact ⟨s, rfl, (Option.some.inj h).symm⟩
theorem wd_D (E : En) (sh : List Sh) (mem : Mm) : va_D (Ab E) (wd E sh mem) := by
  refine ⟨fun i j p q hi hj hpq => ?_, fun k q hk => ?_⟩
  · obtain ⟨_, _, e1⟩ := wd_out hi
    obtain ⟨_, _, e2⟩ := wd_out hj
    rw [e1, e2] at hpq
    exact Nat.add_left_cancel hpq
  · obtain ⟨-, -, rfl⟩ := wd_out hk
    exact Nat.le_add_right _ _
theorem wd_set {E : En} {sh : List Sh} {mem : Mm} {k : Nat} {h : Sh} (hk : sh[k]? = some h) (g : Nat → Int32) : (wd E sh mem).set k (E.2.2.1 + k, cel E.2.1 E.2.2.1 g h) = wd E sh (va_up mem k g) := by
  have hlt : k < sh.length := (List.getElem?_eq_some_iff.mp hk).1
  have hlen : k < (wd E sh mem).length := by unfold wd; rw [List.length_mapIdx]; exact hlt
  apply List.ext_getElem?
  intro j
  by_cases hj : j = k
  · subst hj
    rw [List.getElem?_set_self hlen, wd_at hk, va_up_self]
  · rw [List.getElem?_set_ne (Ne.symm hj)]
    cases hs : sh[j]? with
    | none => simp [wd, List.getElem?_mapIdx, hs]
    | some s => rw [wd_at hs, wd_at hs, va_up_ne _ _ hj]
theorem wd_seth {E : En} {sh : List Sh} {mem : Mm} {k : Nat} {h : Sh} (hk : sh[k]? = some h) (h2 : Sh) : (wd E sh mem).set k (E.2.2.1 + k, cel E.2.1 E.2.2.1 (mem k) h2) = wd E (sh.set k h2) mem := by
  have hlt : k < sh.length := (List.getElem?_eq_some_iff.mp hk).1
  have hlen : k < (wd E sh mem).length := by unfold wd; rw [List.length_mapIdx]; exact hlt
  apply List.ext_getElem?
  intro j
  by_cases hj : j = k
  · subst hj
    rw [List.getElem?_set_self hlen, wd_at (List.getElem?_set_self hlt)]
  · rw [List.getElem?_set_ne (Ne.symm hj)]
    cases hs : sh[j]? with
    | none => simp [wd, List.getElem?_mapIdx, hs, List.getElem?_set_ne (Ne.symm hj)]
    | some s => rw [wd_at hs, wd_at (by rw [List.getElem?_set_ne (Ne.symm hj)]; exact hs)]
theorem wd_push (E : En) (sh : List Sh) (mem : Mm) (h : Sh) (g : Nat → Int32) : wd E sh mem ++ [(E.2.2.1 + sh.length, cel E.2.1 E.2.2.1 g h)] = wd E (sh ++ [h]) (va_up mem sh.length g) := by
  have hl : (wd E sh mem).length = sh.length := by unfold wd; rw [List.length_mapIdx]
  apply List.ext_getElem?
  intro j
  rcases Nat.lt_trichotomy j sh.length with hj | hj | hj
  · obtain ⟨s, hs⟩ : ∃ s, sh[j]? = some s := ⟨_, List.getElem?_eq_getElem hj⟩
    rw [List.getElem?_append_left (by rw [hl]; exact hj), wd_at hs, wd_at (by rw [List.getElem?_append_left hj]; exact hs), va_up_ne _ _ (Nat.ne_of_lt hj)]
  · subst hj
    rw [List.getElem?_append_right (by rw [hl]; exact Nat.le_refl _), hl, Nat.sub_self, wd_at (h := h) (by rw [List.getElem?_append_right (Nat.le_refl _), Nat.sub_self]; rfl), va_up_self]
    rfl
  · rw [List.getElem?_eq_none (by simp [hl]; omega), List.getElem?_eq_none (by simp [wd]; omega)]
theorem fls_at {b : Nat} {f : Nat → Int32} {sl : List Sl} {i : Nat} {s : Sl} (h : sl[i]? = some s) : (fls b f sl)[i]? = some (slv b f i s) := by
  unfold fls
  rw [List.getElem?_mapIdx, h]
  rfl
theorem fls_len (b : Nat) (f : Nat → Int32) (sl : List Sl) : (fls b f sl).length = sl.length := by unfold fls; rw [List.length_mapIdx]
theorem fls_int {b : Nat} {f : Nat → Int32} {sl : List Sl} {i : Nat} (h : sl[i]? = some none) (v : Int32) : (fls b f sl).set i (.int v) = fls b (upd f i v) sl := by
  have hlt : i < sl.length := (List.getElem?_eq_some_iff.mp h).1
  apply List.ext_getElem?
  intro j
  by_cases hj : j = i
  · subst hj
    rw [List.getElem?_set_self (by rw [fls_len]; exact hlt), fls_at h]
    simp [slv, upd]
  · rw [List.getElem?_set_ne (Ne.symm hj)]
    cases hs : sl[j]? with
    | none => simp [fls, List.getElem?_mapIdx, hs]
    | some s =>
      rw [fls_at hs, fls_at hs]
      cases s with
      | none => simp [slv, upd, hj]
      | some r => rfl
theorem fls_ref {b : Nat} {f : Nat → Int32} {sl : List Sl} {i : Nat} {s : Sl} (h : sl[i]? = some s) (t : Nat) : (fls b f sl).set i (.ref (b + t)) = fls b f (sl.set i (some (some t))) := by
  have hlt : i < sl.length := (List.getElem?_eq_some_iff.mp h).1
  apply List.ext_getElem?
  intro j
  by_cases hj : j = i
  · subst hj
    rw [List.getElem?_set_self (by rw [fls_len]; exact hlt), fls_at (List.getElem?_set_self hlt)]
    rfl
  · rw [List.getElem?_set_ne (Ne.symm hj)]
    cases hs : sl[j]? with
    | none => simp [fls, List.getElem?_mapIdx, hs, List.getElem?_set_ne (Ne.symm hj)]
    | some s => rw [fls_at hs, fls_at (by rw [List.getElem?_set_ne (Ne.symm hj)]; exact hs)]
-- indices
def inb (i : Int32) (n : Nat) : Bool := decide (0 ≤ i) && decide (i.toNatClampNeg < n)
abbrev ix (i : Int32) : Nat := i.toNatClampNeg
theorem inb_vp {i : Int32} {n : Nat} (h : inb i n = true) : vp_in i n := by
  unfold inb at h
  simp only [Bool.and_eq_true, decide_eq_true_eq] at h
  intro q
  rcases q with q | q
  · rw [Int32.lt_iff_toInt_lt] at q
    have := Int32.le_iff_toInt_le.mp h.1
    omega
  · omega
-- the tables' good words
def TB : List Cond := lw_tbl.filter goodWord
theorem tb_in {w : Cond} (h : w ∈ lw_tbl) (hg : goodWord w = true) : w ∈ TB := List.mem_filter.mpr ⟨h, hg⟩
theorem tb_t {w : Cond} (i : Nat) (h : tables_1[i]? = some w ∧ goodWord w = true) : w ∈ TB := tb_in (List.mem_append_right _ (List.mem_of_getElem? h.1)) h.2
theorem tb_s {w : Cond} (i : Nat) (h : (k2_sels lw_privs)[i]? = some w ∧ goodWord w = true) : w ∈ TB := tb_in (List.mem_append_left _ (List.mem_of_getElem? h.1)) h.2
theorem tb_good {w : Cond} (h : w ∈ TB) : (w.onTables && w.keeps) = true ∨ ∃ ty, w = .arrayClass ty := good_of_word (List.mem_filter.mp h).2
