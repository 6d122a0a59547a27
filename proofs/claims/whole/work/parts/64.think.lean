/-! PURE: hours; what is only thought -/
def aHours (tv : Tv) (idle : Int32) (r : Row) : Nat → Row
  | 0 => r
  | k + 1 => aHour tv idle (aHours tv idle r k)
def aWs (tv : Tv) (idle : Int32) (r : Row) : Nat → Nat
  | 0 => 0
  | k + 1 => aWs tv idle r k + aCount tv idle (aHours tv idle r k)
/-- a row like now's: ranges; the same texts -/
def RW (r0 r : Row) : Prop := Inv 999 r ∧ r 6 = r0 6 ∧ ∀ j, 64 ≤ j → r j = r0 j
theorem RW.tv {r0 r : Row} (h : RW r0 r) : tvOf r = tvOf r0 := tv_cong h.2.1 h.2.2
theorem RW.hour {r0 r : Row} (h : RW r0 r) (tv : Tv) (i : Int32) : RW r0 (aHour tv i r) := by
  obtain ⟨a1, a2, -, a4⟩ := aHour_inv h.1 tv i
  exact ⟨a1, a2.trans h.2.1, fun j hj => (a4 j hj).trans (h.2.2 j hj)⟩
theorem RW.hours {r0 r : Row} (h : RW r0 r) (tv : Tv) (i : Int32) : ∀ n, RW r0 (aHours tv i r n)
  | 0 => h
  | n + 1 => (RW.hours h tv i n).hour tv i
theorem P_hoursL {p : Nat} {r0 r : Row} (hp : isP p) (hr : RW r0 r) {n N : Nat} (hn : n ≤ 400) (hN : 500 ≤ N) {i : Int32} : ∀ (d k F : Nat) (c : Mm), k + d = n → d < F → c p 18 = i → Pc 999 p c (aHours (tvOf r0) i r k) → ∃ c2, f_P_passHours_L4 N p F (nI n) (nI (aWs (tvOf r0) i r k)) (nI k) c = some ((nI (aWs (tvOf r0) i r n), nI n), c2) ∧ Pc 999 p c2 (aHours (tvOf r0) i r n) ∧ PF p c c2
  | 0, k, F, c, h, hF, hi, hP => by
    obtain ⟨F, rfl⟩ : ∃ f, F = f + 1 := ⟨F - 1, by omega⟩
    have : k = n := by omega
    subst this
    refine ⟨c, ?_, hP, PF.rf⟩
    rw [f_P_passHours_L4, if_pos (nI_le (Nat.le_refl _) (by omega))]
  | d + 1, k, F, c, h, hF, hi, hP => by
    obtain ⟨F, rfl⟩ : ∃ f, F = f + 1 := ⟨F - 1, by omega⟩
    have hk := hr.hours (tvOf r0) i k
    obtain ⟨c1, w1, w2, w3⟩ := P_hour hp hP (N := N) (by omega)
    rw [hk.tv, hi] at w1 w2
    rw [f_P_passHours_L4, if_neg (nI_ge (by omega) (by omega)), w1, bd_some, lt_eq, nI_add, nI_1]
    obtain ⟨c2, u1, u2, u3⟩ := P_hoursL hp hr hn hN d (k + 1) F c1 (by omega) (by omega) (w3.2.trans hi) w2
    exact ⟨c2, u1, u2, w3.tr u3⟩
theorem P_hours {p : Nat} {r0 r : Row} {c : Mm} (hp : isP p) (hr : RW r0 r) {n N : Nat} (hn : n ≤ 400) (hN : 500 ≤ N) (hP : Pc 999 p c r) : ∃ c2, f_P_passHours N p (nI n) c = some (nI (aWs (tvOf r0) (c p 18) r n), c2) ∧ Pc 999 p c2 (aHours (tvOf r0) (c p 18) r n) ∧ PF p c c2 := by
  obtain ⟨c2, u1, u2, u3⟩ := P_hoursL hp hr hn hN n 0 N c (by omega) (by omega) rfl hP
  refine ⟨c2, ?_, u2, u3⟩
  unfold f_P_passHours
  rw [show f_P_passHours_L4 N p N (nI n) 0 0 c = _ from u1]
  rfl
theorem M_goesL {c : Mm} {r0 r : Row} (hT : Txt c r0) (hr : RW r0 r) {n N : Nat} (hn : n ≤ 400) (hN : 500 ≤ N) {i : Int32} : ∀ (d k F : Nat) (m : Mm), k + d = n → d < F → m 91 4 = i → m 92 = aHours (tvOf r0) i r k → ∃ m2, f_M_goesOn_L4 N F (nI n) (nI (aWs (tvOf r0) i r k)) (nI k) m = some ((nI (aWs (tvOf r0) i r n), nI n), m2) ∧ m2 92 = aHours (tvOf r0) i r n ∧ MF m m2
  | 0, k, F, m, h, hF, hi, h9 => by
    obtain ⟨F, rfl⟩ : ∃ f, F = f + 1 := ⟨F - 1, by omega⟩
    have : k = n := by omega
    subst this
    refine ⟨m, ?_, h9, MF.rf⟩
    rw [f_M_goesOn_L4, if_pos (nI_le (Nat.le_refl _) (by omega))]
  | d + 1, k, F, m, h, hF, hi, h9 => by
    obtain ⟨F, rfl⟩ : ∃ f, F = f + 1 := ⟨F - 1, by omega⟩
    have hk := hr.hours (tvOf r0) i k
    obtain ⟨m1, w1, w2, w3⟩ := M_hour (c := c) (mem := m) (by rw [h9]; exact hT.cong hk.2.1 hk.2.2 (fun _ _ _ => rfl)) (by rw [h9]; exact hk.1) (N := N) (by omega)
    rw [h9, hk.tv, hi] at w1 w2
    rw [f_M_goesOn_L4, if_neg (nI_ge (by omega) (by omega)), w1, bd_some, lt_eq, nI_add, nI_1]
    obtain ⟨m2, u1, u2, u3⟩ := M_goesL hT hr hn hN (i := i) d (k + 1) F m1 (by omega) (by omega) (by rw [w3 91 (by omega) (by omega) (by omega)]; exact hi) w2
    exact ⟨m2, u1, u2, w3.tr u3⟩
theorem M_goesOn {c m : Mm} {r0 r : Row} (hT : Txt c r0) (hr : RW r0 r) {n N : Nat} (hn : n ≤ 400) (hN : 500 ≤ N) (h9 : m 92 = r) : ∃ m2, f_M_goesOn N (nI n) m = some (nI (aWs (tvOf r0) (m 91 4) r n), m2) ∧ m2 92 = aHours (tvOf r0) (m 91 4) r n ∧ MF m m2 := by
  obtain ⟨m2, u1, u2, u3⟩ := M_goesL hT hr hn hN n 0 N m (by omega) (by omega) rfl h9
  refine ⟨m2, ?_, u2, u3⟩
  unfold f_M_goesOn
  rw [show f_M_goesOn_L4 N N (nI n) 0 0 m = _ from u1]
  rfl
-- a picture becomes another
theorem mst_i {m : Mm} {k i i2 : Nat} {v : Int32} (h : i2 ≠ i) : mst m k i v k i2 = m k i2 := mst_ne (Or.inr h)
theorem cpy0 {f g : Nat → Int32} {n j : Nat} (h : j < n) : va_cpy f g 0 0 n j = f j := by rw [pk_cpy_in (Nat.zero_le _) (by omega)]; congr 1; omega
theorem Eqv.of {p o : Nat} {c c2 : Mm} {r : Row} (h : Eqv o c r) (h2 : c2 p 2 = c o 2) (h4 : c2 p 4 = c o 4) (h13 : c2 p 13 = c o 13) (h14 : c2 p 14 = c o 14) (h15 : c2 p 15 = c o 15) (h16 : c2 p 16 = c o 16) (h17 : c2 p 17 = c o 17) (k2 : ∀ j, j < 10 → c2 (p + 2) j = c (o + 2) j) (k3 : ∀ j, j < 10 → c2 (p + 3) j = c (o + 3) j) (k4 : ∀ j, j < 10 → c2 (p + 4) j = c (o + 4) j) (k5 : ∀ j, j < 6 → c2 (p + 5) j = c (o + 5) j) (k6 : ∀ j, j < 6 → c2 (p + 6) j = c (o + 6) j) (k7 : ∀ j, j < 6 → c2 (p + 7) j = c (o + 7) j) (k8 : ∀ j, j < 6 → c2 (p + 8) j = c (o + 8) j) (k9 : ∀ j, j < 3 → c2 (p + 9) j = c (o + 9) j) : Eqv p c2 r := by
  have key : ∀ j, j < 64 → (of64 j = 0 ∧ (sl64 j = 2 ∨ sl64 j = 4 ∨ sl64 j = 13 ∨ sl64 j = 14 ∨ sl64 j = 15 ∨ sl64 j = 16 ∨ sl64 j = 17)) ∨ (of64 j = 2 ∧ sl64 j < 10) ∨ (of64 j = 3 ∧ sl64 j < 10) ∨ (of64 j = 4 ∧ sl64 j < 10) ∨ (of64 j = 5 ∧ sl64 j < 6) ∨ (of64 j = 6 ∧ sl64 j < 6) ∨ (of64 j = 7 ∧ sl64 j < 6) ∨ (of64 j = 8 ∧ sl64 j < 6) ∨ (of64 j = 9 ∧ sl64 j < 3) := by decide +kernel
  intro j hj
  rw [← h j hj]
  rcases key j hj with ⟨e, q⟩ | ⟨e, q⟩ | ⟨e, q⟩ | ⟨e, q⟩ | ⟨e, q⟩ | ⟨e, q⟩ | ⟨e, q⟩ | ⟨e, q⟩ | ⟨e, q⟩ <;> rw [e]
  · rcases q with q | q | q | q | q | q | q <;> rw [q]
    · exact h2
    · exact h4
    · exact h13
    · exact h14
    · exact h15
    · exact h16
    · exact h17
  · exact k2 _ q
  · exact k3 _ q
  · exact k4 _ q
  · exact k5 _ q
  · exact k6 _ q
  · exact k7 _ q
  · exact k8 _ q
  · exact k9 _ q
theorem ix24 : ix 24 = 24 := by decide +kernel
set_option maxHeartbeats 4000000 in
theorem P_become {p o : Nat} {c : Mm} {r : Row} (hpo : p + 9 < o ∨ o + 9 < p) (h : Eqv o c r) (hl : Law o c r) : ∃ c2, f_P_become p o c = some c2 ∧ Eqv p c2 r ∧ Law p c2 r ∧ c2 p 18 = (-1) ∧ ∀ k, k < p ∨ p + 9 < k → c2 k = c k := by
  unfold f_P_become
  simp only [lt_eq, ixc_0, ixc_3, ixc_6, ixc_10]
  refine ⟨_, rfl, ?_, ?_, ?_, ?_⟩
  · refine h.of ?_ ?_ ?_ ?_ ?_ ?_ ?_ ?_ ?_ ?_ ?_ ?_ ?_ ?_ ?_
    all_goals first | (intro j hj; simp (disch := omega) only [mst_ck, va_up_ne, va_up_self, cpy0]; done) | (simp (disch := omega) only [mst_i, mst_at, mst_ck, va_up_ne, va_up_self]; done)
  · intro key hk
    rw [← hl key hk]
    simp (disch := omega) only [mst_ck, va_up_ne, va_up_self, cpy0]
  · rw [mst_at]
  · intro k hk
    simp (disch := omega) only [mst_ck, va_up_ne]
