/-! PURE: what the printed functions do. Numbers, memory, the row of the reference beside the arrays of a picture. -/
theorem mst_at (m : Mm) (k i : Nat) (v : Int32) : mst m k i v k i = v := by simp [mst, va_up, upd]
theorem mst_ck {m : Mm} {k k2 i : Nat} {v : Int32} (h : k2 ≠ k) : mst m k i v k2 = m k2 := by simp [mst, va_up, h]
theorem mst_row (m : Mm) (k i : Nat) (v : Int32) : mst m k i v k = upd (m k) i v := by simp [mst, va_up]
theorem mst_ne {m : Mm} {k k2 i i2 : Nat} {v : Int32} (h : k2 ≠ k ∨ i2 ≠ i) : mst m k i v k2 i2 = m k2 i2 := by
  by_cases hk : k2 = k
  · subst hk
    have hi : i2 ≠ i := h.resolve_left (fun q => q rfl)
    simp [mst, va_up, upd, hi]
  · rw [mst_ck hk]
-- numbers
theorem ofn (n : Nat) : (OfNat.ofNat n : Int32) = nI n := rfl
theorem ix_nI {n : Nat} (h : n < 2 ^ 31) : ix (nI n) = n := nI_clamp h
theorem ti_nI {n : Nat} (h : n < 2 ^ 31) : (nI n).toInt = (n : Int) := nI_toInt h
theorem le_ti {a b : Int32} : a ≤ b ↔ a.toInt ≤ b.toInt := Int32.le_iff_toInt_le
theorem lt_ti {a b : Int32} : a < b ↔ a.toInt < b.toInt := Int32.lt_iff_toInt_lt
theorem eq_ti {a b : Int32} : a = b ↔ a.toInt = b.toInt := ⟨fun h => by rw [h], fun h => Int32.toInt_inj.mp h⟩
theorem rng (x : Int32) : -2147483648 ≤ x.toInt ∧ x.toInt < 2147483648 := by
  have h1 := Int32.le_toInt x
  have h2 := Int32.toInt_lt x
  constructor <;> omega
theorem bmod_id {z : Int} (h1 : -2147483648 ≤ z) (h2 : z < 2147483648) : z.bmod 4294967296 = z := by
  apply Int.bmod_eq_of_le <;> omega
theorem add_ti {x y : Int32} (h1 : -2147483648 ≤ x.toInt + y.toInt) (h2 : x.toInt + y.toInt < 2147483648) : (x + y).toInt = x.toInt + y.toInt := by
  rw [Int32.toInt_add]; exact bmod_id h1 h2
theorem sub_ti {x y : Int32} (h1 : -2147483648 ≤ x.toInt - y.toInt) (h2 : x.toInt - y.toInt < 2147483648) : (x - y).toInt = x.toInt - y.toInt := by
  rw [Int32.toInt_sub]; exact bmod_id h1 h2
theorem mul_ti {x y : Int32} (h1 : -2147483648 ≤ x.toInt * y.toInt) (h2 : x.toInt * y.toInt < 2147483648) : (x * y).toInt = x.toInt * y.toInt := by
  rw [Int32.toInt_mul]; exact bmod_id h1 h2
theorem toInt_lit (n : Nat) (h : n < 2147483648) : (OfNat.ofNat n : Int32).toInt = (n : Int) := ti_nI (by omega)
theorem inb_nI {n N : Nat} (h : n < N) (hN : N < 2 ^ 31) : inb (nI n) N = true := by
  unfold inb
  simp only [Bool.and_eq_true, decide_eq_true_eq]
  exact ⟨by rw [le_ti, ti_nI (by omega)]; exact Int.natCast_nonneg n, by rw [nI_clamp (by omega)]; exact h⟩
/-- an int within bounds is a natural number -/
theorem nat_of {x : Int32} {n : Nat} (h0 : 0 ≤ x.toInt) (h1 : x.toInt < n) : ∃ k : Nat, k < n ∧ x = nI k := by
  have hr := rng x
  refine ⟨x.toInt.toNat, by omega, ?_⟩
  rw [eq_ti, ti_nI (by omega)]
  omega
theorem inb_of {x : Int32} {n : Nat} (h : inb x n = true) : ∃ k : Nat, k < n ∧ x = nI k := by
  unfold inb at h
  simp only [Bool.and_eq_true, decide_eq_true_eq] at h
  have h0 := le_ti.mp h.1
  have h1 := h.2
  rw [show (0 : Int32).toInt = 0 from rfl] at h0
  exact nat_of h0 (by have : x.toNatClampNeg = x.toInt.toNat := rfl; omega)
-- options
theorem bp_some {α β : Type} (x : α) (f : α → Option β) : bp (some x) f = f x := rfl
theorem bd_some {α β : Type} (x : α) (m : Mm) (f : α → Mm → Option β) : bd (some (x, m)) f = f x m := rfl
theorem lt_eq {α β : Type} (x : α) (f : α → Option β) : lt x f = f x := rfl
theorem gd_true {α : Type} {c : Bool} (h : c = true) (a b : α) : (if c = true then a else b) = a := if_pos h
-- the row and the arrays
def of64 (j : Nat) : Nat := if j < 7 then 0 else if j < 10 then 9 else if j < 34 then 5 + (j - 10) % 4 else 2 + (j - 34) % 3
def sl64 (j : Nat) : Nat := if j = 0 then 17 else if j = 1 then 4 else if j = 2 then 15 else if j = 3 then 13 else if j = 4 then 14 else if j = 5 then 16 else if j = 6 then 2 else if j < 10 then j - 7 else if j < 34 then (j - 10) / 4 else (j - 34) / 3
theorem inj64 : ∀ a, a < 64 → ∀ b, b < 64 → of64 a = of64 b → sl64 a = sl64 b → a = b := by decide +kernel
/-- the picture p of the memory c is told by the row r -/
def Eqv (p : Nat) (c : Mm) (r : Nat → Int32) : Prop := ∀ j, j < 64 → c (p + of64 j) (sl64 j) = r j
theorem Eqv.put {p : Nat} {c : Mm} {r : Nat → Int32} (h : Eqv p c r) {j : Nat} (hj : j < 64) (v : Int32) : Eqv p (mst c (p + of64 j) (sl64 j) v) (upd r j v) := by
  intro a ha
  by_cases e : a = j
  · subst e
    rw [mst_at, pk_us]
  · rw [pk_un e, mst_ne, h a ha]
    by_cases e1 : of64 a = of64 j
    · exact Or.inr (fun e2 => e (inj64 a ha j hj e1 e2))
    · exact Or.inl (fun q => e1 (by omega))
theorem Eqv.keep {p : Nat} {c c2 : Mm} {r : Nat → Int32} (h : Eqv p c r) (hk : ∀ k, k ≤ 9 → k ≠ 1 → ∀ i, i ≠ 18 → c2 (p + k) i = c (p + k) i) : Eqv p c2 r := by
  have key : ∀ j, j < 64 → of64 j ≤ 9 ∧ of64 j ≠ 1 ∧ sl64 j ≠ 18 := by decide +kernel
  intro j hj
  obtain ⟨a, b, d⟩ := key j hj
  rw [hk _ a b _ d]
  exact h j hj
theorem Eqv.rowk {p : Nat} {c : Mm} {r r2 : Nat → Int32} (h : Eqv p c r) (hr : ∀ j, j < 64 → r2 j = r j) : Eqv p c r2 := fun j hj => by rw [hr j hj]; exact h j hj
theorem k_sand : ∀ i, i < 3 → of64 (7 + i) = 9 ∧ sl64 (7 + i) = i := by decide +kernel
theorem k_tab : ∀ t, t < 6 → (of64 (10 + 4 * t) = 5 ∧ sl64 (10 + 4 * t) = t) ∧ (of64 (11 + 4 * t) = 6 ∧ sl64 (11 + 4 * t) = t) ∧ (of64 (12 + 4 * t) = 7 ∧ sl64 (12 + 4 * t) = t) ∧ (of64 (13 + 4 * t) = 8 ∧ sl64 (13 + 4 * t) = t) := by decide +kernel
theorem k_mon : ∀ m, m < 10 → (of64 (34 + 3 * m) = 2 ∧ sl64 (34 + 3 * m) = m) ∧ (of64 (35 + 3 * m) = 3 ∧ sl64 (35 + 3 * m) = m) ∧ (of64 (36 + 3 * m) = 4 ∧ sl64 (36 + 3 * m) = m) := by decide +kernel
section EQV
variable {p : Nat} {c : Mm} {r : Nat → Int32} (h : Eqv p c r)
theorem e_z (h : Eqv p c r) : c p 17 = r 0 := h 0 (by decide)
theorem e_monks (h : Eqv p c r) : c p 4 = r 1 := h 1 (by decide)
theorem e_hour (h : Eqv p c r) : c p 15 = r 2 := h 2 (by decide)
theorem e_wind (h : Eqv p c r) : c p 13 = r 3 := h 3 (by decide)
theorem e_spilt (h : Eqv p c r) : c p 14 = r 4 := h 4 (by decide)
theorem e_ends (h : Eqv p c r) : c p 16 = r 5 := h 5 (by decide)
theorem e_tc (h : Eqv p c r) : c p 2 = r 6 := h 6 (by decide)
theorem e_sand (h : Eqv p c r) {i : Nat} (hi : i < 3) : c (p + 9) i = r (7 + i) := by have q := h (7 + i) (by omega); rw [(k_sand i hi).1, (k_sand i hi).2] at q; exact q
theorem e_need (h : Eqv p c r) {t : Nat} (ht : t < 6) : c (p + 5) t = r (10 + 4 * t) := by have q := h (10 + 4 * t) (by omega); rw [(k_tab t ht).1.1, (k_tab t ht).1.2] at q; exact q
theorem e_done (h : Eqv p c r) {t : Nat} (ht : t < 6) : c (p + 6) t = r (11 + 4 * t) := by have q := h (11 + 4 * t) (by omega); rw [(k_tab t ht).2.1.1, (k_tab t ht).2.1.2] at q; exact q
theorem e_faults (h : Eqv p c r) {t : Nat} (ht : t < 6) : c (p + 7) t = r (12 + 4 * t) := by have q := h (12 + 4 * t) (by omega); rw [(k_tab t ht).2.2.1.1, (k_tab t ht).2.2.1.2] at q; exact q
theorem e_wiped (h : Eqv p c r) {t : Nat} (ht : t < 6) : c (p + 8) t = r (13 + 4 * t) := by have q := h (13 + 4 * t) (by omega); rw [(k_tab t ht).2.2.2.1, (k_tab t ht).2.2.2.2] at q; exact q
theorem e_kind (h : Eqv p c r) {m : Nat} (hm : m < 10) : c (p + 2) m = r (34 + 3 * m) := by have q := h (34 + 3 * m) (by omega); rw [(k_mon m hm).1.1, (k_mon m hm).1.2] at q; exact q
theorem e_pace (h : Eqv p c r) {m : Nat} (hm : m < 10) : c (p + 3) m = r (35 + 3 * m) := by have q := h (35 + 3 * m) (by omega); rw [(k_mon m hm).2.1.1, (k_mon m hm).2.1.2] at q; exact q
theorem e_at (h : Eqv p c r) {m : Nat} (hm : m < 10) : c (p + 4) m = r (36 + 3 * m) := by have q := h (36 + 3 * m) (by omega); rw [(k_mon m hm).2.2.1, (k_mon m hm).2.2.2] at q; exact q
theorem u_z (h : Eqv p c r) (v : Int32) : Eqv p (mst c p 17 v) (upd r 0 v) := h.put (j := 0) (by decide) v
theorem u_monks (h : Eqv p c r) (v : Int32) : Eqv p (mst c p 4 v) (upd r 1 v) := h.put (j := 1) (by decide) v
theorem u_hour (h : Eqv p c r) (v : Int32) : Eqv p (mst c p 15 v) (upd r 2 v) := h.put (j := 2) (by decide) v
theorem u_wind (h : Eqv p c r) (v : Int32) : Eqv p (mst c p 13 v) (upd r 3 v) := h.put (j := 3) (by decide) v
theorem u_spilt (h : Eqv p c r) (v : Int32) : Eqv p (mst c p 14 v) (upd r 4 v) := h.put (j := 4) (by decide) v
theorem u_ends (h : Eqv p c r) (v : Int32) : Eqv p (mst c p 16 v) (upd r 5 v) := h.put (j := 5) (by decide) v
theorem u_tc (h : Eqv p c r) (v : Int32) : Eqv p (mst c p 2 v) (upd r 6 v) := h.put (j := 6) (by decide) v
theorem u_sand (h : Eqv p c r) {i : Nat} (hi : i < 3) (v : Int32) : Eqv p (mst c (p + 9) i v) (upd r (7 + i) v) := by have q := h.put (j := 7 + i) (by omega) v; rw [(k_sand i hi).1, (k_sand i hi).2] at q; exact q
theorem u_need (h : Eqv p c r) {t : Nat} (ht : t < 6) (v : Int32) : Eqv p (mst c (p + 5) t v) (upd r (10 + 4 * t) v) := by have q := h.put (j := 10 + 4 * t) (by omega) v; rw [(k_tab t ht).1.1, (k_tab t ht).1.2] at q; exact q
theorem u_done (h : Eqv p c r) {t : Nat} (ht : t < 6) (v : Int32) : Eqv p (mst c (p + 6) t v) (upd r (11 + 4 * t) v) := by have q := h.put (j := 11 + 4 * t) (by omega) v; rw [(k_tab t ht).2.1.1, (k_tab t ht).2.1.2] at q; exact q
theorem u_faults (h : Eqv p c r) {t : Nat} (ht : t < 6) (v : Int32) : Eqv p (mst c (p + 7) t v) (upd r (12 + 4 * t) v) := by have q := h.put (j := 12 + 4 * t) (by omega) v; rw [(k_tab t ht).2.2.1.1, (k_tab t ht).2.2.1.2] at q; exact q
theorem u_wiped (h : Eqv p c r) {t : Nat} (ht : t < 6) (v : Int32) : Eqv p (mst c (p + 8) t v) (upd r (13 + 4 * t) v) := by have q := h.put (j := 13 + 4 * t) (by omega) v; rw [(k_tab t ht).2.2.2.1, (k_tab t ht).2.2.2.2] at q; exact q
theorem u_kind (h : Eqv p c r) {m : Nat} (hm : m < 10) (v : Int32) : Eqv p (mst c (p + 2) m v) (upd r (34 + 3 * m) v) := by have q := h.put (j := 34 + 3 * m) (by omega) v; rw [(k_mon m hm).1.1, (k_mon m hm).1.2] at q; exact q
theorem u_pace (h : Eqv p c r) {m : Nat} (hm : m < 10) (v : Int32) : Eqv p (mst c (p + 3) m v) (upd r (35 + 3 * m) v) := by have q := h.put (j := 35 + 3 * m) (by omega) v; rw [(k_mon m hm).2.1.1, (k_mon m hm).2.1.2] at q; exact q
theorem u_at (h : Eqv p c r) {m : Nat} (hm : m < 10) (v : Int32) : Eqv p (mst c (p + 4) m v) (upd r (36 + 3 * m) v) := by have q := h.put (j := 36 + 3 * m) (by omega) v; rw [(k_mon m hm).2.2.1, (k_mon m hm).2.2.2] at q; exact q
end EQV
