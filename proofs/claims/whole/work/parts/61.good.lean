/-! PURE: what holds between two calls -/
def HB (r : Row) : Prop := ∃ h e, h ≤ 9999 ∧ e ≤ h ∧ r 2 = nI h ∧ r 5 = nI e
def GNow (m : Mm) : Prop := Pc 999 38 m (m 92) ∧ HB (m 92) ∧ m 38 18 = (-1) ∧ m 91 4 = (-1)
def GImg (m : Mm) : Prop := (m 0 5 = 0 ∧ m 91 3 = 0) ∨ (m 0 5 = 1 ∧ m 91 3 = 1 ∧ Pc 999 48 m (m 93) ∧ HB (m 93) ∧ ix (m 93 6) ≤ ix (m 92 6))
def GTape (m : Mm) : Prop := ∃ n, n ≤ 96 ∧ m 2 0 = nI n ∧ m 91 7 = nI n ∧ ∀ j, j < n → m 3 j = m 96 j ∧ ∃ b, b < 256 ∧ m 96 j = nI b
def GWait (m : Mm) : Prop := ∃ n, n ≤ 60 ∧ m 0 9 = nI n ∧ m 91 33 = nI n ∧ ∀ j, j < n → m 6 j = m 112 j
def vok (v : Int32) : Prop := v = (-1000000005) ∨ (-99999 ≤ v.toInt ∧ v.toInt ≤ 99999)
def GSheet1 (m : Mm) (s : Nat) : Prop := m (68 + 2 * s) 0 = m 104 s ∧ (m 104 s = (-1) ∨ m 104 s = 0 ∨ m 104 s = 1) ∧ (∃ n, n ≤ 24 ∧ m (68 + 2 * s) 1 = nI n ∧ m 105 s = nI n ∧ (m 104 s = (-1) → n = 0)) ∧ ∀ j, j < 24 → m (68 + 2 * s + 1) j = m 106 (24 * s + j) ∧ vok (m 106 (24 * s + j))
def GSheet (m : Mm) : Prop := ∀ s, s < 4 → GSheet1 m s
def GSlot1 (m : Mm) (q : Nat) : Prop := m (76 + 3 * q) 0 = m 107 q ∧ (m 107 q = 1 → m (76 + 3 * q) 1 = m 108 q ∧ f_K_worth (m (76 + 3 * q) 1) (m (76 + 3 * q) 2) = some (m 109 q)) ∧ (m 107 q = 2 → (∃ n, n ≤ 24 ∧ m (76 + 3 * q + 1) 1 = nI n ∧ m 108 q = nI n) ∧ ∀ j, j < 24 → m (76 + 3 * q + 1 + 1) j = m 110 (24 * q + j)) ∧ (m 107 q = 3 → m (76 + 3 * q) 3 = m 108 q)
def GSlot (m : Mm) : Prop := ∀ q, q < 5 → GSlot1 m q
def kyb (j : Nat) : Nat := [112, 111, 117, 114, 98, 97, 99, 107, 102, 105, 110, 101].getD j 0
def GKey (m : Mm) : Prop := (∀ j, j < 12 → m 97 j = nI (kyb j)) ∧ ∀ j, j < 4 → m 98 j = nI (4 * j)
def Good (m : Mm) : Prop := GNow m ∧ GImg m ∧ GTape m ∧ GWait m ∧ GSheet m ∧ GSlot m ∧ GKey m
-- what they hang on
theorem Eqv.cg {p : Nat} {a b : Mm} {r : Row} (h : Eqv p a r) (hk : ∀ k, p ≤ k → k ≤ p + 9 → b k = a k) : Eqv p b r := h.keep (fun k h1 _ i _ => by rw [hk _ (by omega) (by omega)])
theorem Pc.cg {B p : Nat} {a b : Mm} {r : Row} (h : Pc B p a r) (hk : ∀ k, p ≤ k → k ≤ p + 9 → b k = a k) (ht : ∀ k, 7 ≤ k → k < 37 → b k = a k) : Pc B p b r :=
  ⟨h.1.cg hk, fun key hy => by rw [hk _ (by omega) (by omega)]; exact h.2.1 key hy, h.2.2.1.cong rfl (fun _ _ => rfl) ht, h.2.2.2⟩
theorem GNow.cg {a b : Mm} (h : GNow a) (h1 : ∀ k, 7 ≤ k → k ≤ 47 → k ≠ 37 → b k = a k) (h2 : b 92 = a 92) (h3 : b 91 4 = a 91 4) : GNow b := by
  obtain ⟨q1, q2, q3, q4⟩ := h
  refine ⟨?_, by rw [h2]; exact q2, by rw [h1 38 (by omega) (by omega) (by omega)]; exact q3, h3.trans q4⟩
  rw [h2]
  exact q1.cg (fun k a b => h1 k (by omega) (by omega) (by omega)) (fun k a b => h1 k (by omega) (by omega) (by omega))
theorem GImg.cg {a b : Mm} (h : GImg a) (h1 : b 0 5 = a 0 5) (h2 : b 91 3 = a 91 3) (h3 : ∀ k, 7 ≤ k → k < 37 → b k = a k) (h4 : ∀ k, 48 ≤ k → k ≤ 57 → b k = a k) (h5 : b 93 = a 93) (h6 : b 92 6 = a 92 6) : GImg b := by
  rcases h with ⟨q1, q2⟩ | ⟨q1, q2, q3, q4, q5⟩
  · exact Or.inl ⟨h1.trans q1, h2.trans q2⟩
  · refine Or.inr ⟨h1.trans q1, h2.trans q2, ?_, by rw [h5]; exact q4, by rw [h5, h6]; exact q5⟩
    rw [h5]
    exact q3.cg h4 h3
theorem GTape.cg {a b : Mm} (h : GTape a) (h1 : b 2 0 = a 2 0) (h2 : b 3 = a 3) (h3 : b 91 7 = a 91 7) (h4 : b 96 = a 96) : GTape b := by
  obtain ⟨n, q1, q2, q3, q4⟩ := h
  exact ⟨n, q1, h1.trans q2, h3.trans q3, by rw [h2, h4]; exact q4⟩
theorem GWait.cg {a b : Mm} (h : GWait a) (h1 : b 0 9 = a 0 9) (h2 : b 6 = a 6) (h3 : b 91 33 = a 91 33) (h4 : b 112 = a 112) : GWait b := by
  obtain ⟨n, q1, q2, q3, q4⟩ := h
  exact ⟨n, q1, h1.trans q2, h3.trans q3, by rw [h2, h4]; exact q4⟩
theorem GSheet1.cg {a b : Mm} {s : Nat} (h : GSheet1 a s) (h1 : b (68 + 2 * s) = a (68 + 2 * s)) (h2 : b (68 + 2 * s + 1) = a (68 + 2 * s + 1)) (h3 : b 104 s = a 104 s) (h4 : b 105 s = a 105 s) (h5 : ∀ j, j < 24 → b 106 (24 * s + j) = a 106 (24 * s + j)) : GSheet1 b s := by
  obtain ⟨q1, q2, q3, q4⟩ := h
  refine ⟨by rw [h1, h3]; exact q1, by rw [h3]; exact q2, by rw [h1, h3, h4]; exact q3, fun j hj => by rw [h2, h5 j hj]; exact q4 j hj⟩
theorem GSheet.cg {a b : Mm} (h : GSheet a) (h1 : ∀ k, 68 ≤ k → k ≤ 75 → b k = a k) (h3 : b 104 = a 104) (h4 : b 105 = a 105) (h5 : b 106 = a 106) : GSheet b := fun s hs => (h s hs).cg (h1 _ (by omega) (by omega)) (h1 _ (by omega) (by omega)) (by rw [h3]) (by rw [h4]) (fun _ _ => by rw [h5])
theorem GSlot1.cg {a b : Mm} {q : Nat} (h : GSlot1 a q) (h1 : b (76 + 3 * q) = a (76 + 3 * q)) (h2 : b (76 + 3 * q + 1) = a (76 + 3 * q + 1)) (h3 : b (76 + 3 * q + 1 + 1) = a (76 + 3 * q + 1 + 1)) (h4 : b 107 q = a 107 q) (h5 : b 108 q = a 108 q) (h6 : b 109 q = a 109 q) (h7 : ∀ j, j < 24 → b 110 (24 * q + j) = a 110 (24 * q + j)) : GSlot1 b q := by
  obtain ⟨q1, q2, q3, q4⟩ := h
  refine ⟨by rw [h1, h4]; exact q1, ?_, ?_, by rw [h1, h4, h5]; exact q4⟩
  · rw [h1, h4, h5, h6]; exact q2
  · rw [h2, h3, h4, h5]
    exact fun e => ⟨(q3 e).1, fun j hj => by rw [h7 j hj]; exact (q3 e).2 j hj⟩
theorem GSlot.cg {a b : Mm} (h : GSlot a) (h1 : ∀ k, 76 ≤ k → k ≤ 90 → b k = a k) (h3 : b 107 = a 107) (h4 : b 108 = a 108) (h5 : b 109 = a 109) (h6 : b 110 = a 110) : GSlot b := fun q hq => (h q hq).cg (h1 _ (by omega) (by omega)) (h1 _ (by omega) (by omega)) (h1 _ (by omega) (by omega)) (by rw [h3]) (by rw [h4]) (by rw [h5]) (fun _ _ => by rw [h6])
theorem GKey.cg {a b : Mm} (h : GKey a) (h1 : b 97 = a 97) (h2 : b 98 = a 98) : GKey b := ⟨by rw [h1]; exact h.1, by rw [h2]; exact h.2⟩
/-- a change of now: the class's picture 38, the reference's row; scratch cells -/
theorem Good.now {a m1 m2 : Mm} {r2 : Row} (h : Good a) (hF : PF 38 a m1) (hE : Eqv 38 m1 r2) (hM : MF m1 m2) (h92 : m2 92 = r2) (hI : Inv 999 r2) (hH : HB r2) (h6 : r2 6 = a 92 6) (hr : ∀ j, 64 ≤ j → r2 j = a 92 j) : Good m2 := by
  obtain ⟨n, i, t, w, sh, sl, ky⟩ := h
  obtain ⟨n1, n2, n3, n4⟩ := n
  have f : ∀ k, k ≠ 37 → (k < 38 ∨ 47 < k) → k ≠ 92 → k ≠ 102 → k ≠ 103 → m2 k = a k := fun k h1 h2 h3 h4 h5 => (hM k h3 h4 h5).trans (hF.1 k h1 (by omega))
  have hP : Pc 999 38 m1 r2 := n1.nx (Or.inl rfl) hE hF hI h6 hr
  refine ⟨⟨?_, by rw [h92]; exact hH, ?_, ?_⟩, ?_, ?_, ?_, ?_, ?_, ?_⟩
  · rw [h92]
    exact hP.cg (fun k a b => hM k (by omega) (by omega) (by omega)) (fun k a b => hM k (by omega) (by omega) (by omega))
  · rw [hM 38 (by omega) (by omega) (by omega)]; exact hF.2.trans n3
  · rw [f 91 (by omega) (by omega) (by omega) (by omega) (by omega)]; exact n4
  · exact i.cg (by rw [f 0 (by omega) (by omega) (by omega) (by omega) (by omega)]) (by rw [f 91 (by omega) (by omega) (by omega) (by omega) (by omega)]) (fun k a b => f k (by omega) (by omega) (by omega) (by omega) (by omega)) (fun k a b => f k (by omega) (by omega) (by omega) (by omega) (by omega)) (f 93 (by omega) (by omega) (by omega) (by omega) (by omega)) (by rw [h92]; exact h6)
  · exact t.cg (by rw [f 2 (by omega) (by omega) (by omega) (by omega) (by omega)]) (f 3 (by omega) (by omega) (by omega) (by omega) (by omega)) (by rw [f 91 (by omega) (by omega) (by omega) (by omega) (by omega)]) (f 96 (by omega) (by omega) (by omega) (by omega) (by omega))
  · exact w.cg (by rw [f 0 (by omega) (by omega) (by omega) (by omega) (by omega)]) (f 6 (by omega) (by omega) (by omega) (by omega) (by omega)) (by rw [f 91 (by omega) (by omega) (by omega) (by omega) (by omega)]) (f 112 (by omega) (by omega) (by omega) (by omega) (by omega))
  · exact sh.cg (fun k a b => f k (by omega) (by omega) (by omega) (by omega) (by omega)) (f 104 (by omega) (by omega) (by omega) (by omega) (by omega)) (f 105 (by omega) (by omega) (by omega) (by omega) (by omega)) (f 106 (by omega) (by omega) (by omega) (by omega) (by omega))
  · exact sl.cg (fun k a b => f k (by omega) (by omega) (by omega) (by omega) (by omega)) (f 107 (by omega) (by omega) (by omega) (by omega) (by omega)) (f 108 (by omega) (by omega) (by omega) (by omega) (by omega)) (f 109 (by omega) (by omega) (by omega) (by omega) (by omega)) (f 110 (by omega) (by omega) (by omega) (by omega) (by omega))
  · exact ky.cg (f 97 (by omega) (by omega) (by omega) (by omega) (by omega)) (f 98 (by omega) (by omega) (by omega) (by omega) (by omega))
/-- a scratch cell -/
def scrC (k : Nat) : Prop := k = 37 ∨ (58 ≤ k ∧ k ≤ 67) ∨ k = 94 ∨ k = 95 ∨ k = 99 ∨ k = 100 ∨ k = 101 ∨ k = 102 ∨ k = 103 ∨ k = 111
theorem Good.scr {a b : Mm} (h : Good a) (f : ∀ k, ¬ scrC k → b k = a k) : Good b := by
  obtain ⟨n, i, t, w, sh, sl, ky⟩ := h
  have g : ∀ k, k ≠ 37 → (k < 58 ∨ 67 < k) → k ≠ 94 → k ≠ 95 → k ≠ 99 → k ≠ 100 → k ≠ 101 → k ≠ 102 → k ≠ 103 → k ≠ 111 → b k = a k := fun k _ _ _ _ _ _ _ _ _ _ => f k (by unfold scrC; omega)
  have z : ∀ k, k = 0 ∨ k = 2 ∨ k = 3 ∨ k = 6 ∨ (7 ≤ k ∧ k < 37) ∨ (38 ≤ k ∧ k < 58) ∨ (68 ≤ k ∧ k ≤ 93) ∨ (96 ≤ k ∧ k ≤ 98) ∨ (104 ≤ k ∧ k ≤ 110) ∨ k = 112 → b k = a k := fun k hk => g k (by omega) (by omega) (by omega) (by omega) (by omega) (by omega) (by omega) (by omega) (by omega) (by omega)
  exact ⟨n.cg (fun k _ _ _ => z k (by omega)) (z 92 (by omega)) (by rw [z 91 (by omega)]), i.cg (by rw [z 0 (by omega)]) (by rw [z 91 (by omega)]) (fun k _ _ => z k (by omega)) (fun k _ _ => z k (by omega)) (z 93 (by omega)) (by rw [z 92 (by omega)]), t.cg (by rw [z 2 (by omega)]) (z 3 (by omega)) (by rw [z 91 (by omega)]) (z 96 (by omega)), w.cg (by rw [z 0 (by omega)]) (z 6 (by omega)) (by rw [z 91 (by omega)]) (z 112 (by omega)), sh.cg (fun k _ _ => z k (by omega)) (z 104 (by omega)) (z 105 (by omega)) (z 106 (by omega)), sl.cg (fun k _ _ => z k (by omega)) (z 107 (by omega)) (z 108 (by omega)) (z 109 (by omega)) (z 110 (by omega)), ky.cg (z 97 (by omega)) (z 98 (by omega))⟩
-- tests
theorem in_cases (a : Int32) {n : Nat} (hn : n < 2 ^ 30) : (∃ k, k < n ∧ a = nI k ∧ f_S_within a 0 (nI n - 1) = some 1 ∧ f_M_in a 0 (nI n - 1) = some 1) ∨ (f_S_within a 0 (nI n - 1) = some 0 ∧ f_M_in a 0 (nI n - 1) = some 0) := by
  have z0 : (0 : Int32).toInt = 0 := rfl
  have e : (nI n - 1).toInt = (n : Int) - 1 := pk_sub_toInt (b := 1) hn (by decide)
  unfold f_S_within f_M_in
  by_cases h1 : a < 0
  · rw [if_pos h1]; exact Or.inr ⟨rfl, rfl⟩
  · rw [if_neg h1]
    rw [lt_ti] at h1
    by_cases h2 : nI n - 1 < a
    · rw [if_pos h2]; exact Or.inr ⟨rfl, rfl⟩
    · rw [if_neg h2]
      rw [lt_ti] at h2
      obtain ⟨k, hk, ek⟩ := nat_of (x := a) (n := n) (by omega) (by omega)
      exact Or.inl ⟨k, hk, ek, rfl, rfl⟩
theorem wi_cases (a : Int32) {lo hi : Nat} (hl : lo < 2 ^ 31) (hn : hi < 2 ^ 31) : (∃ k, lo ≤ k ∧ k ≤ hi ∧ a = nI k ∧ f_S_within a (nI lo) (nI hi) = some 1 ∧ f_M_in a (nI lo) (nI hi) = some 1) ∨ (f_S_within a (nI lo) (nI hi) = some 0 ∧ f_M_in a (nI lo) (nI hi) = some 0) := by
  have e := ti_nI hn
  have e2 := ti_nI hl
  unfold f_S_within f_M_in
  by_cases h1 : a < nI lo
  · rw [if_pos h1]; exact Or.inr ⟨rfl, rfl⟩
  · rw [if_neg h1]
    rw [lt_ti] at h1
    by_cases h2 : nI hi < a
    · rw [if_pos h2]; exact Or.inr ⟨rfl, rfl⟩
    · rw [if_neg h2]
      rw [lt_ti] at h2
      obtain ⟨k, hk, ek⟩ := nat_of (x := a) (n := hi + 1) (by omega) (by omega)
      rw [ek, ti_nI (by omega)] at h1
      exact Or.inl ⟨k, by omega, by omega, ek, rfl, rfl⟩
theorem mk_cases {m : Mm} (g : Good m) (a : Int32) : (∃ k M, k < M ∧ M ≤ 10 ∧ m 92 1 = nI M ∧ a = nI k ∧ f_S_isMonk a m = some 1 ∧ ∀ m2 : Mm, m2 92 1 = m 92 1 → f_M_isMonk a m2 = some 1) ∨ (f_S_isMonk a m = some 0 ∧ ∀ m2 : Mm, m2 92 1 = m 92 1 → f_M_isMonk a m2 = some 0) := by
  obtain ⟨M, hM, eM⟩ := g.1.1.2.2.2.1
  have e38 : m 38 4 = nI M := (e_monks g.1.1.1).trans eM
  unfold f_S_isMonk f_M_isMonk
  rw [e38, ixc_1]
  rcases in_cases a (n := M) (by omega) with ⟨k, hk, ek, h1, h2⟩ | ⟨h1, h2⟩
  · refine Or.inl ⟨k, M, hk, hM, eM, ek, by rw [h1]; rfl, fun m2 q => ?_⟩
    rw [q, eM, h2]; rfl
  · refine Or.inr ⟨by rw [h1]; rfl, fun m2 q => ?_⟩
    rw [q, eM, h2]; rfl
theorem tb_cases (a : Int32) : (∃ k, k < 6 ∧ a = nI k ∧ f_S_isTable a = some 1 ∧ f_M_isTable a = some 1) ∨ (f_S_isTable a = some 0 ∧ f_M_isTable a = some 0) := by
  rcases wi_cases a (lo := 0) (hi := 5) (by decide) (by decide) with ⟨k, h1, h2, h3, h4, h5⟩ | ⟨h4, h5⟩
  · exact Or.inl ⟨k, by omega, h3, by unfold f_S_isTable; rw [show f_S_within a 0 5 = _ from h4]; rfl, by unfold f_M_isTable; rw [show f_M_in a 0 5 = _ from h5]; rfl⟩
  · exact Or.inr ⟨by unfold f_S_isTable; rw [show f_S_within a 0 5 = _ from h4]; rfl, by unfold f_M_isTable; rw [show f_M_in a 0 5 = _ from h5]; rfl⟩
theorem sh_cases (a : Int32) : (∃ k, k < 4 ∧ a = nI k ∧ f_S_isSheet a = some 1 ∧ f_M_isSheet a = some 1) ∨ (f_S_isSheet a = some 0 ∧ f_M_isSheet a = some 0) := by
  rcases wi_cases a (lo := 0) (hi := 3) (by decide) (by decide) with ⟨k, h1, h2, h3, h4, h5⟩ | ⟨h4, h5⟩
  · exact Or.inl ⟨k, by omega, h3, by unfold f_S_isSheet; rw [show f_S_within a 0 3 = _ from h4]; rfl, by unfold f_M_isSheet; rw [show f_M_in a 0 3 = _ from h5]; rfl⟩
  · exact Or.inr ⟨by unfold f_S_isSheet; rw [show f_S_within a 0 3 = _ from h4]; rfl, by unfold f_M_isSheet; rw [show f_M_in a 0 3 = _ from h5]; rfl⟩
theorem sl_cases (a : Int32) : (∃ k, k < 5 ∧ a = nI k ∧ f_S_isSlot a = some 1 ∧ f_M_isSlot a = some 1) ∨ (f_S_isSlot a = some 0 ∧ f_M_isSlot a = some 0) := by
  rcases wi_cases a (lo := 0) (hi := 4) (by decide) (by decide) with ⟨k, h1, h2, h3, h4, h5⟩ | ⟨h4, h5⟩
  · exact Or.inl ⟨k, by omega, h3, by unfold f_S_isSlot; rw [show f_S_within a 0 4 = _ from h4]; rfl, by unfold f_M_isSlot; rw [show f_M_in a 0 4 = _ from h5]; rfl⟩
  · exact Or.inr ⟨by unfold f_S_isSlot; rw [show f_S_within a 0 4 = _ from h4]; rfl, by unfold f_M_isSlot; rw [show f_M_in a 0 4 = _ from h5]; rfl⟩
theorem rv_cases (a : Int32) : (∃ k, k < 3 ∧ a = nI k ∧ f_S_isRiver a = some 1 ∧ f_M_in a 0 2 = some 1) ∨ (f_S_isRiver a = some 0 ∧ f_M_in a 0 2 = some 0) := by
  rcases wi_cases a (lo := 0) (hi := 2) (by decide) (by decide) with ⟨k, h1, h2, h3, h4, h5⟩ | ⟨h4, h5⟩
  · exact Or.inl ⟨k, by omega, h3, by unfold f_S_isRiver; rw [show f_S_within a 0 2 = _ from h4]; rfl, h5⟩
  · exact Or.inr ⟨by unfold f_S_isRiver; rw [show f_S_within a 0 2 = _ from h4]; rfl, h5⟩
theorem kn_cases (a : Int32) : (∃ k, k < 6 ∧ a = nI k ∧ f_K_known a = some 1 ∧ f_M_in a 0 5 = some 1) ∨ (f_K_known a = some 0 ∧ f_M_in a 0 5 = some 0) := by
  rcases wi_cases a (lo := 0) (hi := 5) (by decide) (by decide) with ⟨k, h1, h2, h3, h4, h5⟩ | ⟨h4, h5⟩
  · exact Or.inl ⟨k, by omega, h3, h4, h5⟩
  · exact Or.inr ⟨h4, h5⟩
/-- one call on both sides: the same answer, and all stands as before -/
def Ok2 (S M : Mm → Option (Int32 × Mm)) (m : Mm) : Prop := ∃ v m1 m2, S m = some (v, m1) ∧ M m1 = some (v, m2) ∧ Good m2
def Ok0 (S M : Mm → Option Int32) (m : Mm) : Prop := ∃ v, S m = some v ∧ M m = some v
