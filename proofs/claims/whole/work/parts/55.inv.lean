/-! PURE: the ranges of a row (B: the most that is DONE), and the numbers of an hour as naturals -/
def Inv (B : Nat) (r : Row) : Prop := (∃ M, M ≤ 10 ∧ r 1 = nI M) ∧ (∀ i, i < 3 → ∃ s, s ≤ 99999 ∧ r (7 + i) = nI s) ∧ (∀ t, t < 6 → (∃ v, 1 ≤ v ∧ v ≤ 999 ∧ r (10 + 4 * t) = nI v) ∧ (∃ v, v ≤ B ∧ r (11 + 4 * t) = nI v)) ∧ (∀ m, m < 10 → (∃ v, v ≤ 99 ∧ r (35 + 3 * m) = nI v) ∧ (∃ v, v < 6 ∧ r (36 + 3 * m) = nI v))
/-- a place that no range speaks of -/
def fre (j : Nat) : Prop := j = 0 ∨ j = 2 ∨ j = 3 ∨ j = 4 ∨ j = 5 ∨ (∃ t, t < 6 ∧ (j = 12 + 4 * t ∨ j = 13 + 4 * t)) ∨ (∃ m, m < 10 ∧ j = 34 + 3 * m)
theorem Inv.free {B : Nat} {r : Row} (h : Inv B r) {j : Nat} (hj : fre j) (v : Int32) : Inv B (upd r j v) := by
  have hn : ∀ k, (k = 1 ∨ (∃ i, i < 3 ∧ k = 7 + i) ∨ (∃ t, t < 6 ∧ (k = 10 + 4 * t ∨ k = 11 + 4 * t)) ∨ (∃ m, m < 10 ∧ (k = 35 + 3 * m ∨ k = 36 + 3 * m))) → upd r j v k = r k := by
    intro k hk
    refine pk_un ?_
    rcases hj with h | h | h | h | h | ⟨t, ht, h | h⟩ | ⟨m, hm, h⟩ <;> rcases hk with q | ⟨i, hi, q⟩ | ⟨u, hu, q | q⟩ | ⟨w, hw, q | q⟩ <;> omega
  obtain ⟨h1, h2, h3, h4⟩ := h
  refine ⟨by rw [hn 1 (Or.inl rfl)]; exact h1, fun i hi => by rw [hn _ (Or.inr (Or.inl ⟨i, hi, rfl⟩))]; exact h2 i hi, fun t ht => ?_, fun m hm => ?_⟩
  · rw [hn _ (Or.inr (Or.inr (Or.inl ⟨t, ht, Or.inl rfl⟩))), hn _ (Or.inr (Or.inr (Or.inl ⟨t, ht, Or.inr rfl⟩)))]
    exact h3 t ht
  · rw [hn _ (Or.inr (Or.inr (Or.inr ⟨m, hm, Or.inl rfl⟩))), hn _ (Or.inr (Or.inr (Or.inr ⟨m, hm, Or.inr rfl⟩)))]
    exact h4 m hm
theorem Inv.sand {B : Nat} {r : Row} (h : Inv B r) {i s : Nat} (hi : i < 3) (hs : s ≤ 99999) : Inv B (upd r (7 + i) (nI s)) := by
  obtain ⟨h1, h2, h3, h4⟩ := h
  refine ⟨by rw [pk_un (by omega)]; exact h1, fun k hk => ?_, fun t ht => by rw [pk_un (by omega), pk_un (by omega)]; exact h3 t ht, fun m hm => by rw [pk_un (by omega), pk_un (by omega)]; exact h4 m hm⟩
  by_cases e : k = i
  · subst e; exact ⟨s, hs, pk_us⟩
  · rw [pk_un (by omega)]; exact h2 k hk
theorem Inv.done {B : Nat} {r : Row} (h : Inv B r) {i s : Nat} (hi : i < 6) (hs : s ≤ B) : Inv B (upd r (11 + 4 * i) (nI s)) := by
  obtain ⟨h1, h2, h3, h4⟩ := h
  refine ⟨by rw [pk_un (by omega)]; exact h1, fun k hk => by rw [pk_un (by omega)]; exact h2 k hk, fun t ht => ?_, fun m hm => by rw [pk_un (by omega), pk_un (by omega)]; exact h4 m hm⟩
  by_cases e : t = i
  · subst e; rw [pk_un (by omega)]; exact ⟨(h3 t ht).1, s, hs, pk_us⟩
  · rw [pk_un (by omega), pk_un (by omega)]; exact h3 t ht
theorem Inv.need {B : Nat} {r : Row} (h : Inv B r) {i s : Nat} (hi : i < 6) (h0 : 1 ≤ s) (hs : s ≤ 999) : Inv B (upd r (10 + 4 * i) (nI s)) := by
  obtain ⟨h1, h2, h3, h4⟩ := h
  refine ⟨by rw [pk_un (by omega)]; exact h1, fun k hk => by rw [pk_un (by omega)]; exact h2 k hk, fun t ht => ?_, fun m hm => by rw [pk_un (by omega), pk_un (by omega)]; exact h4 m hm⟩
  by_cases e : t = i
  · subst e; rw [pk_un (j := 11 + 4 * t) (by omega)]; exact ⟨⟨s, h0, hs, pk_us⟩, (h3 t ht).2⟩
  · rw [pk_un (by omega), pk_un (by omega)]; exact h3 t ht
theorem Inv.pace {B : Nat} {r : Row} (h : Inv B r) {i s : Nat} (hi : i < 10) (hs : s ≤ 99) : Inv B (upd r (35 + 3 * i) (nI s)) := by
  obtain ⟨h1, h2, h3, h4⟩ := h
  refine ⟨by rw [pk_un (by omega)]; exact h1, fun k hk => by rw [pk_un (by omega)]; exact h2 k hk, fun t ht => by rw [pk_un (by omega), pk_un (by omega)]; exact h3 t ht, fun m hm => ?_⟩
  by_cases e : m = i
  · subst e; rw [pk_un (j := 36 + 3 * m) (by omega)]; exact ⟨⟨s, hs, pk_us⟩, (h4 m hm).2⟩
  · rw [pk_un (by omega), pk_un (by omega)]; exact h4 m hm
theorem Inv.at {B : Nat} {r : Row} (h : Inv B r) {i s : Nat} (hi : i < 10) (hs : s < 6) : Inv B (upd r (36 + 3 * i) (nI s)) := by
  obtain ⟨h1, h2, h3, h4⟩ := h
  refine ⟨by rw [pk_un (by omega)]; exact h1, fun k hk => by rw [pk_un (by omega)]; exact h2 k hk, fun t ht => by rw [pk_un (by omega), pk_un (by omega)]; exact h3 t ht, fun m hm => ?_⟩
  by_cases e : m = i
  · subst e; rw [pk_un (j := 35 + 3 * m) (by omega)]; exact ⟨(h4 m hm).1, ⟨s, hs, pk_us⟩⟩
  · rw [pk_un (by omega), pk_un (by omega)]; exact h4 m hm
theorem Inv.monks {B : Nat} {r : Row} (h : Inv B r) {s : Nat} (hs : s ≤ 10) : Inv B (upd r 1 (nI s)) := by
  obtain ⟨h1, h2, h3, h4⟩ := h
  exact ⟨⟨s, hs, pk_us⟩, fun k hk => by rw [pk_un (by omega)]; exact h2 k hk, fun t ht => by rw [pk_un (by omega), pk_un (by omega)]; exact h3 t ht, fun m hm => by rw [pk_un (by omega), pk_un (by omega)]; exact h4 m hm⟩
theorem Inv.up {B B2 : Nat} {r : Row} (h : Inv B r) (hB : B ≤ B2) : Inv B2 r := by
  obtain ⟨h1, h2, h3, h4⟩ := h
  exact ⟨h1, h2, fun t ht => ⟨(h3 t ht).1, by obtain ⟨v, a, b⟩ := (h3 t ht).2; exact ⟨v, by omega, b⟩⟩, h4⟩
-- numbers
theorem dr_val (x : Int32) : (x.toUInt32 >>> ((8 : Int32).toUInt32 &&& Int32.toUInt32 31)).toInt32 = nI (x.toBitVec.toNat / 256) := by
  have h := pk_ushr x 8 8 (by decide)
  have hx := x.toBitVec.isLt
  have h2 : (nI (x.toBitVec.toNat / 256)).toBitVec.toNat = x.toBitVec.toNat / 256 := pk_tn (by omega)
  apply Int32.toBitVec_inj.mp
  apply BitVec.eq_of_toNat_eq
  rw [h, h2]
theorem aD_lt (r : Row) : aD r < 2 ^ 24 := by
  unfold aD
  have := (aZ r).toBitVec.isLt
  omega
theorem P_draw {p : Nat} {c : Mm} {r : Row} (h : Eqv p c r) : f_P_draw p c = some (nI (aD r), mst c p 17 (aZ r)) := by
  unfold f_P_draw
  rw [lt_eq, mst_at, e_z h, dr_val]
  rfl
theorem M_draw (mem : Mm) : f_M_draw mem = some (nI (aD (mem 92)), mst mem 92 0 (aZ (mem 92))) := by
  unfold f_M_draw
  rw [lt_eq, ixc_0, mst_at, dr_val]
  rfl
theorem rem_nI {a d : Nat} (ha : a < 2 ^ 31) (h0 : 0 < d) (hd : d < 2 ^ 31) : nI a - nI a / (OfNat.ofNat d) * (OfNat.ofNat d) = nI (a % d) := pk_rem ha h0 hd
-- what is poured
def nMin (P S nd dn : Nat) : Nat := min P (min S (nd - dn))
theorem sub_cases {nd dn : Nat} (h1 : nd < 2 ^ 30) (h2 : dn < 2 ^ 30) : (dn ≤ nd ∧ nI nd - nI dn = nI (nd - dn)) ∨ (nd < dn ∧ nI nd - nI dn < 0) := by
  rcases Nat.lt_or_ge nd dn with h | h
  · exact Or.inr ⟨h, pk_sneg h2 h⟩
  · exact Or.inl ⟨h, pk_sub h⟩
theorem aN_nI {P S nd dn : Nat} (hP : P < 2 ^ 30) (hS : S < 2 ^ 30) (h1 : nd < 2 ^ 30) (h2 : dn < 2 ^ 30) : aN (nI P) (nI S) (nI nd - nI dn) = nI (nMin P S nd dn) := by
  unfold aN nMin
  have e1 : (if nI P ≤ nI S then nI P else nI S) = nI (min P S) := by
    by_cases h : P ≤ S
    · rw [if_pos (nI_le h (by omega)), Nat.min_eq_left h]
    · rw [if_neg (nI_ge (by omega) (by omega)), Nat.min_eq_right (by omega)]
  rw [e1]
  rcases sub_cases h1 h2 with ⟨h, e⟩ | ⟨h, e⟩
  · rw [e]
    by_cases hh : min P S ≤ nd - dn
    · rw [if_pos (nI_le hh (by omega))]; congr 1; omega
    · rw [if_neg (nI_ge (by omega) (by omega)), if_pos (nI_pos' (by omega))]; congr 1; omega
  · have hx : ¬ nI (min P S) ≤ nI nd - nI dn := by
      rw [le_ti, ti_nI (by omega)]
      have := lt_ti.mp e
      rw [show (0 : Int32).toInt = 0 from rfl] at this
      omega
    have hy : ¬ (0 : Int32) ≤ nI nd - nI dn := by
      rw [le_ti]
      have := lt_ti.mp e
      omega
    rw [if_neg hx, if_neg hy]
    show nI 0 = _
    congr 1; omega
/-- the class's way to it -/
theorem cN_nI {P S nd dn : Nat} (hP : P < 2 ^ 30) (hS : S < 2 ^ 30) (h1 : nd < 2 ^ 30) (h2 : dn < 2 ^ 30) : (if (if (if 0 < nI nd - nI dn then nI nd - nI dn else 0) < nI S then (if 0 < nI nd - nI dn then nI nd - nI dn else 0) else nI S) < nI P then (if (if 0 < nI nd - nI dn then nI nd - nI dn else 0) < nI S then (if 0 < nI nd - nI dn then nI nd - nI dn else 0) else nI S) else nI P) = nI (nMin P S nd dn) := by
  have e0 : (if 0 < nI nd - nI dn then nI nd - nI dn else 0) = nI (nd - dn) := by
    rcases sub_cases h1 h2 with ⟨h, e⟩ | ⟨h, e⟩
    · rw [e]
      by_cases hh : nd - dn = 0
      · rw [hh]; rfl
      · rw [if_pos (l_lt (n := 0) (by omega) (by omega))]
    · rw [if_neg (fun q => by have a1 := lt_ti.mp q; have a2 := lt_ti.mp e; omega), show nd - dn = 0 by omega]; rfl
  have e1 : (if nI (nd - dn) < nI S then nI (nd - dn) else nI S) = nI (min S (nd - dn)) := by
    by_cases h : nd - dn < S
    · rw [if_pos (nI_lt h (by omega))]; congr 1; omega
    · rw [if_neg (nI_nlt (by omega) (by omega))]; congr 1; omega
  rw [e0, e1]
  unfold nMin
  by_cases h : min S (nd - dn) < P
  · rw [if_pos (nI_lt h (by omega))]; congr 1; omega
  · rw [if_neg (nI_nlt (by omega) (by omega))]; congr 1; omega
def spn (k : Int32) (n : Nat) : Nat := if k = 2 then n / 10 else if k = 4 then n / 10 + (if n = 0 then 0 else 1) else 0
theorem d10 {n : Nat} (hn : n < 2 ^ 30) : nI n / 10 = nI (n / 10) := pk_div (d := 10) (by omega) (by decide) (by decide)
theorem aSp_nI (k : Int32) {n : Nat} (hn : n < 2 ^ 30) : aSp k (nI n) = nI (spn k n) := by
  unfold aSp spn
  rw [d10 hn]
  by_cases h2 : k = 2
  · rw [if_pos h2, if_pos h2]
  · rw [if_neg h2, if_neg h2]
    by_cases h4 : k = 4
    · rw [if_pos h4, if_pos h4]
      by_cases h0 : n = 0
      · subst h0; rfl
      · rw [if_neg (nI_nle (by omega) (by omega)), if_neg h0, nI_1]
    · rw [if_neg h4, if_neg h4]; rfl
theorem spn_le (k : Int32) (n : Nat) : spn k n ≤ n := by
  unfold spn
  split
  · omega
  · split
    · split <;> omega
    · omega
theorem K_spills (k : Int32) {n : Nat} (h0 : 0 < n) (hn : n < 2 ^ 30) : f_K_spills k (nI n) = some (aSp k (nI n)) := by
  unfold f_K_spills aSp
  rw [if_neg (nI_nle h0 (by omega)), if_neg (nI_nle h0 (by omega))]
  split
  · rfl
  · split <;> rfl
theorem K_adds (k : Int32) {n : Nat} (h0 : 0 < n) (hn : n < 2 ^ 30) : f_K_adds k (nI n) = some (aAd k (nI n)) := by
  unfold f_K_adds aAd
  rw [K_spills k h0 hn, bp_some]
  split <;> rfl
-- what a monk pours
theorem cl3_nI {v lo hi : Nat} (h1 : v < 2 ^ 31) (h2 : lo ≤ v) (h3 : hi < 2 ^ 31) : cl3 (nI v) (nI lo) (nI hi) = nI (min v hi) := by
  unfold cl3
  rw [if_pos (nI_le h2 h1)]
  by_cases h : v ≤ hi
  · rw [if_pos (nI_le h h3)]; congr 1; omega
  · rw [if_neg (nI_ge (by omega) h1)]; congr 1; omega
theorem cl3_mm (v : Int32) {hi : Nat} (h : hi < 2 ^ 31) : (if 0 < (if v < nI hi then v else nI hi) then (if v < nI hi then v else nI hi) else 0) = cl3 v 0 (nI hi) := by
  unfold cl3
  have e := ti_nI h
  have z0 : (0 : Int32).toInt = 0 := rfl
  by_cases h1 : v < nI hi
  · rw [if_pos h1]
    have a1 := lt_ti.mp h1
    by_cases h2 : 0 < v
    · have a2 := lt_ti.mp h2
      rw [if_pos h2, if_pos (le_ti.mpr (by omega)), if_pos (le_ti.mpr (by omega))]
    · rw [if_neg h2]
      by_cases h3 : (0 : Int32) ≤ v
      · rw [if_pos h3, if_pos (le_ti.mpr (by omega))]
        have a2 := le_ti.mp h3
        rw [lt_ti] at h2
        exact eq_ti.mpr (by omega)
      · rw [if_neg h3]
  · rw [if_neg h1]
    rw [lt_ti] at h1
    rw [if_pos (le_ti.mpr (by omega))]
    by_cases h3 : v ≤ nI hi
    · have a3 := le_ti.mp h3
      have ev : v = nI hi := eq_ti.mpr (by omega)
      rw [if_pos h3, ev]
      by_cases h0 : 0 < nI hi
      · rw [if_pos h0]
      · rw [if_neg h0]; rw [lt_ti] at h0; exact eq_ti.mpr (by omega)
    · rw [if_neg h3]
      by_cases h0 : 0 < nI hi
      · rw [if_pos h0]
      · rw [if_neg h0]; rw [lt_ti] at h0; exact eq_ti.mpr (by omega)
theorem cl3_nat (v : Int32) {hi : Nat} (h : hi < 2 ^ 31) : ∃ n, n ≤ hi ∧ cl3 v 0 (nI hi) = nI n := by
  unfold cl3
  have e := ti_nI h
  have z0 : (0 : Int32).toInt = 0 := rfl
  by_cases h3 : (0 : Int32) ≤ v
  · rw [if_pos h3]
    by_cases h4 : v ≤ nI hi
    · rw [if_pos h4]
      have a1 := le_ti.mp h3
      have a2 := le_ti.mp h4
      obtain ⟨k, hk, hv⟩ := nat_of (x := v) (n := hi + 1) (by omega) (by omega)
      exact ⟨k, by omega, hv⟩
    · rw [if_neg h4]; exact ⟨hi, Nat.le_refl _, rfl⟩
  · rw [if_neg h3]; exact ⟨0, Nat.zero_le _, rfl⟩
theorem aPl_nat {r : Row} {B : Nat} (hI : Inv B r) (tv : Tv) {m : Nat} (hm : m < 10) (x : Int32) : ∃ P, P ≤ 999 ∧ aPl tv r m x = nI P := by
  unfold aPl
  cases tv 0 (r (35 + 3 * m)) (r (11 + 4 * ix (r (36 + 3 * m)))) x with
  | none => obtain ⟨v, h1, h2⟩ := (hI.2.2.2 m hm).1; exact ⟨v, by omega, h2⟩
  | some v => exact cl3_nat v (hi := 999) (by decide)
theorem aPo_nat (k : Int32) {P X : Nat} (hP : P ≤ 999) (hX : X ≤ 9) : ∃ n, n ≤ 2016 ∧ aPo k (nI P) (nI X) = nI n ∧ f_K_poursOf k (nI P) (nI X) = some (nI n) := by
  unfold aPo f_K_poursOf
  have e2 : nI P / 2 = nI (P / 2) := pk_div (d := 2) (by omega) (by decide) (by decide)
  have e3 : nI X / 3 = nI (X / 3) := pk_div (d := 3) (by omega) (by decide) (by decide)
  rw [e2, e3]
  by_cases h1 : k = 1
  · rw [if_pos h1, if_pos h1]; exact ⟨P / 2, by omega, rfl, rfl⟩
  rw [if_neg h1, if_neg h1]
  by_cases h2 : k = 2
  · rw [if_pos h2, if_pos h2, nI_add]; exact ⟨P + X, by omega, rfl, rfl⟩
  rw [if_neg h2, if_neg h2]
  by_cases h3 : k = 3
  · rw [if_pos h3, if_pos h3]
    rcases sub_cases (nd := P / 2) (dn := X / 3) (by omega) (by omega) with ⟨h, e⟩ | ⟨h, e⟩
    · rw [e]
      refine ⟨P / 2 - X / 3, by omega, ?_, ?_⟩
      · rw [show cl3 (nI (P / 2 - X / 3)) 0 999 = _ from cl3_nI (lo := 0) (hi := 999) (by omega) (by omega) (by omega)]; congr 1; omega
      · by_cases hh : P / 2 - X / 3 = 0
        · rw [hh]; rfl
        · rw [if_pos (l_lt (n := 0) (by omega) (by omega))]
    · have a2 := lt_ti.mp e
      refine ⟨0, by omega, ?_, ?_⟩
      · unfold cl3; rw [if_neg (fun q => by have a1 := le_ti.mp q; omega)]; rfl
      · rw [if_neg (fun q => by have a1 := lt_ti.mp q; omega)]; rfl
  rw [if_neg h3, if_neg h3]
  by_cases h4 : k = 4
  · rw [if_pos h4, if_pos h4, nI_add, show (2 : Int32) = nI 2 from rfl, pk_mul]; exact ⟨2 * (P + X), by omega, rfl, rfl⟩
  rw [if_neg h4, if_neg h4]
  by_cases h5 : k = 5
  · rw [if_pos h5, if_pos h5]
    refine ⟨min P 9, by omega, cl3_nI (lo := 0) (hi := 9) (by omega) (by omega) (by omega), ?_⟩
    by_cases h : P < 9
    · rw [if_pos (r_lt (n := 9) h (by decide))]; congr 2; omega
    · rw [if_neg (r_nlt (n := 9) (by omega) (by omega))]; show some (nI 9) = _; congr 2; omega
  rw [if_neg h5, if_neg h5]
  exact ⟨P, by omega, rfl, rfl⟩
