/-! PURE: the reference's words and signs -/
def RB (B : Nat → Nat) (L : Nat) (m : Mm) : Prop := m 91 7 = nI L ∧ ∀ j, j < L → m 96 j = nI (B j)
def GF (m m2 : Mm) : Prop := (∀ k, k ≠ 91 → m2 k = m k) ∧ ∀ i, i ≠ 8 → i ≠ 9 → i ≠ 10 → i ≠ 11 → i ≠ 12 → m2 91 i = m 91 i
theorem GF.rf {m : Mm} : GF m m := ⟨fun _ _ => rfl, fun _ _ _ _ _ _ => rfl⟩
theorem GF.tr {a b c : Mm} (h : GF a b) (h2 : GF b c) : GF a c := ⟨fun k hk => (h2.1 k hk).trans (h.1 k hk), fun i h1 h3 h4 h5 h6 => (h2.2 i h1 h3 h4 h5 h6).trans (h.2 i h1 h3 h4 h5 h6)⟩
theorem GF.put {a b : Mm} (h : GF a b) (i : Nat) (v : Int32) (hi : i = 8 ∨ i = 9 ∨ i = 10 ∨ i = 11 ∨ i = 12) : GF a (mst b 91 i v) := ⟨fun k hk => (mst_ck hk).trans (h.1 k hk), fun j h1 h3 h4 h5 h6 => (mst_i (by omega)).trans (h.2 j h1 h3 h4 h5 h6)⟩
theorem RB.gf {B : Nat → Nat} {L : Nat} {c c2 : Mm} (h : RB B L c) (f : GF c c2) : RB B L c2 := ⟨(f.2 7 (by omega) (by omega) (by omega) (by omega) (by omega)).trans h.1, fun j hj => by rw [f.1 96 (by omega)]; exact h.2 j hj⟩
def nv (B : Nat → Nat) (F : Nat) : Nat → Nat
  | 0 => 0
  | k + 1 => if 4 ≤ k then nv B F k else 10 * nv B F k + (B (F + k) - 48)
theorem nv_lt {B : Nat → Nat} {F : Nat} : ∀ k, (∀ j, j < k → isDb (B (F + j)) = true) → nv B F k < 10 ^ k ∧ nv B F k < 10000
  | 0, _ => ⟨by show 0 < 10 ^ 0; decide, by show 0 < 10000; decide⟩
  | k + 1, h => by
    obtain ⟨a, b⟩ := nv_lt (B := B) (F := F) k (fun j hj => h j (by omega))
    have hd := isDb_iff.mp (h k (by omega))
    unfold nv
    by_cases q : 4 ≤ k
    · rw [if_pos q]; exact ⟨Nat.lt_of_lt_of_le a (Nat.pow_le_pow_right (by decide) (by omega)), b⟩
    · rw [if_neg q]
      have e : (10 : Nat) ^ (k + 1) = 10 * 10 ^ k := by rw [Nat.pow_succ, Nat.mul_comm]
      refine ⟨by omega, ?_⟩
      match k, q with
      | 0, _ => omega
      | 1, _ => omega
      | 2, _ => omega
      | 3, _ => omega
      | n + 4, q => omega
section LEXM
variable {B : Nat → Nat} {L : Nat}
theorem M_isL {m : Mm} (hb : RB B L m) (hL : L ≤ 96) (hB : ∀ j, j < L → B j < 256) {j : Nat} (hj : j ≤ 96) : f_M_isLetter (nI j) m = some (if j < L ∧ isLb (B j) = true then (1 : Int32) else 0) := by
  unfold f_M_isLetter
  rw [hb.1]
  by_cases h : j < L
  · have hb8 := hB j h
    rw [if_neg (nI_ge h (by omega)), if_pos (inb_nI (by omega) (by decide)), ix_nI (by omega), hb.2 j h]
    by_cases q : isLb (B j) = true
    · have := isLb_iff.mp q
      rw [if_neg (r_nlt (n := 97) (by omega) (by omega)), if_neg (l_nlt (n := 122) (by omega) (by decide)), if_pos ⟨h, q⟩]
    · rw [if_neg (show ¬ (j < L ∧ isLb (B j) = true) from fun z => q z.2)]
      rw [isLb_iff] at q
      by_cases z : B j < 97
      · rw [if_pos (r_lt (n := 97) z (by decide))]
      · rw [if_neg (r_nlt (n := 97) (by omega) (by omega)), if_pos (l_lt (n := 122) (by omega) (by omega))]
  · rw [if_pos (nI_le (by omega) (by omega)), if_neg (show ¬ (j < L ∧ isLb (B j) = true) from fun z => h z.1)]
theorem M_isD {m : Mm} (hb : RB B L m) (hL : L ≤ 96) (hB : ∀ j, j < L → B j < 256) {j : Nat} (hj : j ≤ 96) : f_M_isFigure (nI j) m = some (if j < L ∧ isDb (B j) = true then (1 : Int32) else 0) := by
  unfold f_M_isFigure
  rw [hb.1]
  by_cases h : j < L
  · have hb8 := hB j h
    rw [if_neg (nI_ge h (by omega)), if_pos (inb_nI (by omega) (by decide)), ix_nI (by omega), hb.2 j h]
    by_cases q : isDb (B j) = true
    · have := isDb_iff.mp q
      rw [if_neg (r_nlt (n := 48) (by omega) (by omega)), if_neg (l_nlt (n := 57) (by omega) (by decide)), if_pos ⟨h, q⟩]
    · rw [if_neg (show ¬ (j < L ∧ isDb (B j) = true) from fun z => q z.2)]
      rw [isDb_iff] at q
      by_cases z : B j < 48
      · rw [if_pos (r_lt (n := 48) z (by decide))]
      · rw [if_neg (r_nlt (n := 48) (by omega) (by omega)), if_pos (l_lt (n := 57) (by omega) (by omega))]
  · rw [if_pos (nI_le (by omega) (by omega)), if_neg (show ¬ (j < L ∧ isDb (B j) = true) from fun z => h z.1)]
theorem M_skL (hL : L ≤ 96) (hB : ∀ j, j < L → B j < 256) {p : Nat} : ∀ (d q F : Nat) (m : Mm), q + d = L → d < F → RB B L m → m 91 8 = nI q → p ≤ q → (∀ j, p ≤ j → j < q → B j = 32) → ∃ m2 r, f_M_go_L0 F m = some m2 ∧ Sk B L p r ∧ m2 91 8 = nI r ∧ GF m m2 ∧ (∀ i, i ≠ 8 → m2 91 i = m 91 i)
  | d, q, F, m, h, hF, hb, e, hp, hj => by
    obtain ⟨F, rfl⟩ : ∃ f, F = f + 1 := ⟨F - 1, by omega⟩
    rw [f_M_go_L0, hb.1, e]
    by_cases hq : L ≤ q
    · rw [if_pos (nI_le hq (by omega))]
      exact ⟨m, q, rfl, ⟨hp, by omega, hj, fun z => by omega⟩, e, GF.rf, fun _ _ => rfl⟩
    rw [if_neg (nI_ge (by omega) (by omega)), if_pos (inb_nI (by omega) (by decide)), ix_nI (by omega), hb.2 q (by omega)]
    have hBq := hB q (by omega)
    by_cases hs : B q = 32
    · cases d with
      | zero => omega
      | succ d =>
        rw [if_pos ((r_eq (n := 32) (by omega) (by decide)).mpr hs), nI_1, lt_eq]
        have f1 : GF m (mst m 91 8 (nI (q + 1))) := GF.rf.put 8 _ (Or.inl rfl)
        obtain ⟨c2, r, u1, u2, u3, u4, u5⟩ := M_skL hL hB (p := p) d (q + 1) F (mst m 91 8 (nI (q + 1))) (by omega) (by omega) (hb.gf f1) (mst_at _ _ _ _) (by omega) (fun j h1 h2 => by
          by_cases ej : j = q
          · rw [ej]; exact hs
          · exact hj j h1 (by omega))
        exact ⟨c2, r, u1, u2, u3, f1.tr u4, fun i hi => (u5 i hi).trans (mst_i hi)⟩
    · rw [if_neg (fun z => hs ((r_eq (n := 32) (by omega) (by decide)).mp z))]
      exact ⟨m, q, rfl, ⟨hp, by omega, hj, fun _ => hs⟩, e, GF.rf, fun _ _ => rfl⟩
theorem M_leL (hL : L ≤ 96) (hB : ∀ j, j < L → B j < 256) (b1 : Int32) {p : Nat} : ∀ (d q F : Nat) (m : Mm), q + d = L → d < F → RB B L m → m 91 8 = nI q → p ≤ q → (p = q → p < L ∧ isLb (B p) = true) → (∀ j, p ≤ j → j < q → isLb (B j) = true) → ∃ m2 r, f_M_go_L93 F b1 m = some m2 ∧ We B isLb L p r ∧ m2 91 8 = nI r ∧ GF m m2 ∧ (∀ i, i ≠ 8 → m2 91 i = m 91 i)
  | d, q, F, m, h, hF, hb, e, hp, h0, hj => by
    obtain ⟨F, rfl⟩ : ∃ f, F = f + 1 := ⟨F - 1, by omega⟩
    rw [f_M_go_L93, e, M_isL hb hL hB (by omega), bp_some]
    by_cases hq : q < L ∧ isLb (B q) = true
    · cases d with
      | zero => omega
      | succ d =>
        rw [if_pos hq, if_neg nz1, nI_1, lt_eq]
        have f1 : GF m (mst m 91 8 (nI (q + 1))) := GF.rf.put 8 _ (Or.inl rfl)
        obtain ⟨c2, r, u1, u2, u3, u4, u5⟩ := M_leL hL hB b1 (p := p) d (q + 1) F (mst m 91 8 (nI (q + 1))) (by omega) (by omega) (hb.gf f1) (mst_at _ _ _ _) (by omega) (fun z => by omega) (fun j h1 h2 => by
          by_cases ej : j = q
          · rw [ej]; exact hq.2
          · exact hj j h1 (by omega))
        exact ⟨c2, r, u1, u2, u3, f1.tr u4, fun i hi => (u5 i hi).trans (mst_i hi)⟩
    · rw [if_neg hq, if_pos rfl]
      have hpq : p ≠ q := fun z => hq (z ▸ h0 z)
      exact ⟨m, q, rfl, ⟨by omega, by omega, hj, fun z => Bool.eq_false_iff.mpr (fun y => hq ⟨z, y⟩)⟩, e, GF.rf, fun _ _ => rfl⟩
theorem M_fiL (hL : L ≤ 96) (hB : ∀ j, j < L → B j < 256) (b1 : Int32) {p : Nat} : ∀ (d k F : Nat) (m : Mm), p + k + d = L → d < F → RB B L m → m 91 8 = nI (p + k) → m 91 9 = nI p → m 91 11 = nI (nv B p k) → (k = 0 → p < L ∧ isDb (B p) = true) → (∀ j, j < k → isDb (B (p + j)) = true) → ∃ m2 r, f_M_go_L170 F b1 m = some m2 ∧ We B isDb L p (p + r) ∧ m2 91 8 = nI (p + r) ∧ m2 91 11 = nI (nv B p r) ∧ GF m m2 ∧ (∀ i, i ≠ 8 → i ≠ 11 → m2 91 i = m 91 i)
  | d, k, F, m, h, hF, hb, e, e9, e11, h0, hj => by
    obtain ⟨F, rfl⟩ : ∃ f, F = f + 1 := ⟨F - 1, by omega⟩
    rw [f_M_go_L170, e, M_isD hb hL hB (by omega), bp_some, e9, pk_sub (by omega), show p + k - p = k by omega]
    by_cases hq : p + k < L ∧ isDb (B (p + k)) = true
    · cases d with
      | zero => omega
      | succ d =>
        have hd := isDb_iff.mp hq.2
        have hn := (nv_lt (B := B) (F := p) k hj).2
        rw [if_pos hq, if_neg nz1]
        have go : ∀ v : Int32, v = nI (nv B p (k + 1)) → ∃ m2 r, (lt (mst m 91 11 v) fun m_222 => lt (mst m_222 91 8 ((m_222 91 8) + 1)) fun m_232 => f_M_go_L170 F b1 m_232) = some m2 ∧ We B isDb L p (p + r) ∧ m2 91 8 = nI (p + r) ∧ m2 91 11 = nI (nv B p r) ∧ GF m m2 ∧ (∀ i, i ≠ 8 → i ≠ 11 → m2 91 i = m 91 i) := by
          intro v hv
          rw [lt_eq, mst_i (i2 := 8) (by decide), e, nI_1, lt_eq]
          have f1 : GF m (mst (mst m 91 11 v) 91 8 (nI (p + k + 1))) := (GF.rf.put 11 _ (by omega)).put 8 _ (Or.inl rfl)
          obtain ⟨c2, r, u1, u2, u3, u4, u5, u6⟩ := M_fiL hL hB b1 (p := p) d (k + 1) F (mst (mst m 91 11 v) 91 8 (nI (p + k + 1))) (by omega) (by omega) (hb.gf f1) (mst_at _ _ _ _) (by rw [mst_i (by decide), mst_i (by decide)]; exact e9) (by rw [mst_i (by decide), mst_at]; exact hv) (fun z => by omega) (fun j h1 => by
            by_cases ej : j = k
            · rw [ej]; exact hq.2
            · exact hj j (by omega))
          exact ⟨c2, r, u1, u2, u3, u4, f1.tr u5, fun i h8 h11 => (u6 i h8 h11).trans (by rw [mst_i h8, mst_i h11])⟩
        by_cases k4 : 4 ≤ k
        · rw [if_pos (l_le (n := 4) k4 (by omega)), e11]
          exact go _ (by show _ = nI (if 4 ≤ k then _ else _); rw [if_pos k4])
        · rw [if_neg (l_ge (n := 4) (by omega) (by decide)), if_pos (inb_nI (by omega) (by decide)), ix_nI (by omega), hb.2 _ hq.1, e11]
          refine go _ ?_
          show _ = nI (if 4 ≤ k then _ else _)
          rw [if_neg k4, show (10 : Int32) * nI (nv B p k) = nI (10 * nv B p k) from pk_mul 10 _, nI_add, show nI (10 * nv B p k + B (p + k)) - 48 = nI (10 * nv B p k + B (p + k) - 48) from pk_sub (b := 48) (by omega)]
          congr 1
          omega
    · rw [if_neg hq, if_pos rfl]
      have hk : k ≠ 0 := fun z => hq (by have := h0 z; rw [z]; exact this)
      exact ⟨m, k, rfl, ⟨by omega, by omega, fun j h1 h2 => by have := hj (j - p) (by omega); rwa [show p + (j - p) = j by omega] at this, fun z => Bool.eq_false_iff.mpr (fun y => hq ⟨z, y⟩)⟩, e, e11, GF.rf, fun _ _ _ => rfl⟩
/-- the reference stands at a word or sign -/
def RS (B : Nat → Nat) (L : Nat) (m : Mm) (F T : Nat) (st : Bool) : Prop := m 91 9 = nI F ∧ m 91 8 = nI T ∧ (F = L → m 91 10 = 0) ∧ (F < L → isLb (B F) = true → m 91 10 = (if st then 4 else 1) ∧ m 91 11 = nI (B F)) ∧ (F < L → isDb (B F) = true → m 91 10 = (if st = true ∨ 4 < T - F then 4 else 2) ∧ (T - F ≤ 4 → m 91 11 = nI (nv B F (T - F)))) ∧ (F < L → wrd B L F = false → m 91 10 = 3 ∧ m 91 11 = nI (B F)) ∧ (wrd B L F = true → m 91 12 = nI T) ∧ (wrd B L F = false → m 91 12 = (-1) ∨ ∃ e, e ≤ F ∧ m 91 12 = nI e)
/-- what go stands on: the place p behind what was read, w: that was a word -/
def RP (m : Mm) (p : Nat) (w : Bool) : Prop := m 91 8 = nI p ∧ (w = true → m 91 12 = nI p) ∧ (w = false → m 91 12 = (-1) ∨ ∃ e, e < p ∧ m 91 12 = nI e)
theorem nI_m1 {n : Nat} (h : n < 2 ^ 31) : ¬ nI n = (-1) := by
  intro q
  rw [eq_ti, ti_nI h] at q
  have : ((-1 : Int32)).toInt = -1 := by decide
  omega
theorem M_go (hL : L ≤ 96) (hB : ∀ j, j < L → B j < 256) {m : Mm} (hb : RB B L m) {p : Nat} {w : Bool} (hp : p ≤ L) (h : RP m p w) {N : Nat} (hN : 500 ≤ N) : ∃ m2 F T, f_M_go N m = some m2 ∧ TokP B L p F T ∧ RS B L m2 F T (w && (decide (F = p) && wrd B L F)) ∧ GF m m2 := by
  obtain ⟨h8, h12, h12b⟩ := h
  obtain ⟨m1, F, u1, u2, u3, u4, u5⟩ := M_skL hL hB (p := p) (L - p) p N m (by omega) (by omega) hb h8 (Nat.le_refl _) (fun j h1 h2 => by omega)
  have hF := u2.2.1
  have hpF := u2.1
  have f1 : GF m (mst m1 91 9 (nI F)) := u4.put 9 _ (Or.inr (Or.inl rfl))
  have hb1 := hb.gf f1
  have e8 : mst m1 91 9 (nI F) 91 8 = nI F := by rw [mst_i (by decide)]; exact u3
  have e9 : mst m1 91 9 (nI F) 91 9 = nI F := mst_at _ _ _ _
  have e12 : mst m1 91 9 (nI F) 91 12 = m 91 12 := by rw [mst_i (by decide)]; exact u5 12 (by decide)
  unfold f_M_go
  rw [u1, bp_some, u3, lt_eq]
  generalize mst m1 91 9 (nI F) = m2 at *
  have cl : (if m2 91 9 = m2 91 12 then (1 : Int32) else 0) = if (w && decide (F = p)) = true then 1 else 0 := by
    rw [e9, e12]
    cases w with
    | true =>
      rw [h12 rfl]
      by_cases q : F = p
      · rw [if_pos (by rw [q]), decide_eq_true q]; rfl
      · rw [if_neg (fun z => q ((nI_eq (by omega) (by omega)).mp z)), decide_eq_false q]; rfl
    | false =>
      rcases h12b rfl with z | ⟨e, he, z⟩
      · rw [z, if_neg (nI_m1 (by omega))]; rfl
      · rw [z, if_neg (fun y => by rw [nI_eq (by omega) (by omega)] at y; omega)]; rfl
  rw [cl, lt_eq, e9, hb1.1]
  have e12n : w = true ∧ F = p ∨ (m2 91 12 = (-1) ∨ ∃ e, e ≤ F ∧ m2 91 12 = nI e) := by
    rw [e12]
    cases w with
    | true => rw [h12 rfl]; exact Or.inr (Or.inr ⟨p, hpF, rfl⟩)
    | false => rcases h12b rfl with z | ⟨e, he, z⟩
               · exact Or.inr (Or.inl z)
               · exact Or.inr (Or.inr ⟨e, by omega, z⟩)
  have e12c : m2 91 12 = (-1) ∨ ∃ e, e ≤ F ∧ m2 91 12 = nI e := by
    rcases e12n with ⟨z1, z2⟩ | z
    · rw [e12, h12 z1]; exact Or.inr ⟨p, by omega, rfl⟩
    · exact z
  by_cases hl : F < L
  · rw [if_neg (fun z => by rw [nI_eq (by omega) (by omega)] at z; omega), M_isL hb1 hL hB (by omega), bp_some]
    by_cases l : isLb (B F) = true
    · have hw : wrd B L F = true := by unfold wrd; rw [decide_eq_true hl, l]; rfl
      have d := LnD l
      rw [if_pos (show F < L ∧ isLb (B F) = true from ⟨hl, l⟩), if_neg nz1]
      obtain ⟨m3, T, v1, v2, v3, v4, v5⟩ := M_leL hL hB (if (w && decide (F = p)) = true then 1 else 0) (p := F) (L - F) F N m2 (by omega) (by omega) hb1 e8 (Nat.le_refl _) (fun _ => ⟨hl, l⟩) (fun j h1 h2 => by omega)
      have hb3 := hb1.gf v4
      have z9 : m3 91 9 = nI F := (v5 9 (by decide)).trans e9
      rw [v1, bp_some, lt_eq, mst_i (i2 := 9) (by decide), z9, if_pos (inb_nI (by omega) (by decide)), ix_nI (by omega), lt_eq, lt_eq, mst_ck (k2 := 96) (by decide), hb3.2 F hl]
      refine ⟨_, F, T, rfl, ⟨u2, fun z => by omega, fun _ _ => v2, fun _ z => absurd z (by rw [d]; decide), fun _ z => absurd z (by rw [hw]; decide)⟩, ?_, f1.tr (((v4.put 10 _ (by omega)).put 11 _ (by omega)).put 12 _ (by omega))⟩
      rw [hw, Bool.and_true]
      refine ⟨by rw [mst_i (by decide), mst_i (by decide), mst_i (by decide)]; exact z9, by rw [mst_i (by decide), mst_i (by decide), mst_i (by decide)]; exact v3, fun z => by omega, fun _ _ => ⟨?_, by rw [mst_i (by decide), mst_at]⟩, fun _ z => absurd z (by rw [d]; decide), fun _ z => absurd z (by rw [hw]; decide), fun _ => by rw [mst_at, mst_i (by decide), mst_i (by decide)]; exact v3, fun z => absurd z (by rw [hw]; decide)⟩
      rw [mst_i (by decide), mst_i (by decide), mst_at]
      cases (w && decide (F = p)) <;> rfl
    · rw [if_neg (show ¬ (F < L ∧ isLb (B F) = true) from fun z => l z.2), if_pos rfl, M_isD hb1 hL hB (by omega), bp_some]
      by_cases d : isDb (B F) = true
      · have hw : wrd B L F = true := by unfold wrd; rw [decide_eq_true hl, d, Bool.or_true]; rfl
        rw [if_pos (show F < L ∧ isDb (B F) = true from ⟨hl, d⟩), if_neg nz1, lt_eq]
        have f2 : GF m2 (mst m2 91 11 0) := GF.rf.put 11 _ (by omega)
        obtain ⟨m3, r, v1, v2, v3, v4, v5, v6⟩ := M_fiL hL hB (if (w && decide (F = p)) = true then 1 else 0) (p := F) (L - F) 0 N (mst m2 91 11 0) (by omega) (by omega) (hb1.gf f2) (by rw [mst_i (by decide)]; exact e8) (by rw [mst_i (by decide)]; exact e9) (mst_at _ _ _ _) (fun _ => ⟨hl, d⟩) (fun j h1 => by omega)
        have z9 : m3 91 9 = nI F := (v6 9 (by decide) (by decide)).trans (by rw [mst_i (by decide)]; exact e9)
        have hr := v2.2.1
        rw [v1, bp_some, v3, z9, pk_sub (by omega), show F + r - F = r by omega, lt_eq, mst_i (i2 := 8) (by decide), v3, lt_eq]
        refine ⟨_, F, F + r, rfl, ⟨u2, fun z => by omega, fun _ z => absurd z l, fun _ _ => v2, fun _ z => absurd z (by rw [hw]; decide)⟩, ?_, f1.tr ((f2.tr v5).put 10 _ (by omega) |>.put 12 _ (by omega))⟩
        rw [hw, Bool.and_true]
        refine ⟨by rw [mst_i (by decide), mst_i (by decide)]; exact z9, by rw [mst_i (by decide), mst_i (by decide)]; exact v3, fun z => by omega, fun _ z => absurd z l, fun _ _ => ⟨?_, fun _ => by rw [mst_i (by decide), mst_i (by decide), show F + r - F = r by omega]; exact v4⟩, fun _ z => absurd z (by rw [hw]; decide), fun _ => mst_at _ _ _ _, fun z => absurd z (by rw [hw]; decide)⟩
        rw [mst_i (by decide), mst_at, show F + r - F = r by omega]
        cases (w && decide (F = p)) with
        | true => rw [if_neg (by decide), if_pos (Or.inl rfl)]
        | false =>
          rw [if_pos (by decide)]
          by_cases q : r ≤ 4
          · rw [if_pos (r_le (n := 4) q (by decide)), if_neg (by rintro (z | z); exact absurd z (by decide); omega)]
          · rw [if_neg (r_ge (n := 4) (by omega) (by omega)), if_pos (Or.inr (by omega))]
      · have hw : wrd B L F = false := wrd_no hl l d
        rw [if_neg (show ¬ (F < L ∧ isDb (B F) = true) from fun z => d z.2), if_pos rfl, lt_eq, mst_i (i2 := 9) (by decide), e9, if_pos (inb_nI (by omega) (by decide)), ix_nI (by omega), mst_ck (k2 := 96) (by decide), hb1.2 F hl, lt_eq, mst_i (i2 := 8) (by decide), mst_i (i2 := 8) (by decide), e8, nI_1, lt_eq]
        refine ⟨_, F, F + 1, rfl, ⟨u2, fun z => by omega, fun _ z => absurd z l, fun _ z => absurd z d, fun _ _ => rfl⟩, ?_, f1.tr (((GF.rf.put 10 _ (by omega)).put 11 _ (by omega)).put 8 _ (by omega))⟩
        rw [hw, Bool.and_false, Bool.and_false]
        refine ⟨by rw [mst_i (by decide), mst_i (by decide), mst_i (by decide)]; exact e9, mst_at _ _ _ _, fun z => by omega, fun _ z => absurd z l, fun _ z => absurd z d, fun _ _ => ⟨by rw [mst_i (by decide), mst_i (by decide), mst_at], by rw [mst_i (by decide), mst_at]⟩, fun z => absurd z (by rw [hw]; decide), fun _ => ?_⟩
        rw [mst_i (by decide), mst_i (by decide), mst_i (by decide)]; exact e12c
  · have hFL : F = L := by omega
    have hw : wrd B L F = false := by unfold wrd; rw [decide_eq_false hl]; rfl
    rw [if_pos (by rw [hFL]), lt_eq]
    refine ⟨_, F, L, rfl, ⟨u2, fun _ => rfl, fun z => absurd z hl, fun z => absurd z hl, fun z => absurd z hl⟩, ?_, f1.tr (GF.rf.put 10 _ (by omega))⟩
    rw [hw, Bool.and_false, Bool.and_false]
    refine ⟨by rw [mst_i (by decide)]; exact e9, by rw [mst_i (by decide), e8, hFL], fun _ => mst_at _ _ _ _, fun z => absurd z hl, fun z => absurd z hl, fun z => absurd z hl, fun z => absurd z (by rw [hw]; decide), fun _ => by rw [mst_i (by decide)]; exact e12c⟩
/-- behind a word or sign that isn't the end -/
theorem RS.nx {m : Mm} {F T : Nat} {st : Bool} (h : RS B L m F T st) {p : Nat} (ht : TokP B L p F T) (hF : F < L) : RP m T (wrd B L F) := by
  obtain ⟨-, a2, -, -, -, -, a7, a8⟩ := h
  refine ⟨a2, fun z => a7 z, fun z => ?_⟩
  rcases a8 z with y | ⟨e, he, y⟩
  · exact Or.inl y
  · exact Or.inr ⟨e, by have := ht.T.2.2.2 hF; omega, y⟩
end LEXM
