/-! PURE: sheet, mark, pour -/
theorem so_cases (b : Int32) : (b = (-1) ∧ f_S_within b (-1) 1 = some 1 ∧ f_M_in b (-1) 1 = some 1) ∨ ((b = 0 ∨ b = 1) ∧ f_S_within b (-1) 1 = some 1 ∧ f_M_in b (-1) 1 = some 1) ∨ (f_S_within b (-1) 1 = some 0 ∧ f_M_in b (-1) 1 = some 0) := by
  have z0 : ((-1 : Int32)).toInt = -1 := by decide
  have z1 : (1 : Int32).toInt = 1 := by decide
  have z2 : (0 : Int32).toInt = 0 := by decide
  unfold f_S_within f_M_in
  by_cases h1 : b < (-1)
  · rw [if_pos h1]; exact Or.inr (Or.inr ⟨rfl, rfl⟩)
  rw [if_neg h1]
  by_cases h2 : 1 < b
  · rw [if_pos h2]; exact Or.inr (Or.inr ⟨rfl, rfl⟩)
  rw [if_neg h2]
  rw [lt_ti] at h1 h2
  by_cases e : b = (-1)
  · exact Or.inl ⟨e, rfl, rfl⟩
  · rw [eq_ti] at e
    by_cases e0 : b.toInt = 0
    · exact Or.inr (Or.inl ⟨Or.inl (eq_ti.mpr (by omega)), rfl, rfl⟩)
    · exact Or.inr (Or.inl ⟨Or.inr (eq_ti.mpr (by omega)), rfl, rfl⟩)
theorem H_renL {p : Nat} (b1 b2 : Int32) : ∀ (d k F : Nat) (m : Mm), k + d = 24 → d < F → (∀ j, j < k → m (p + 1) j = 0) → ∃ m2, f_H_renew_L12 p F b1 b2 (nI k) m = some (nI 24, m2) ∧ (∀ j, j < 24 → m2 (p + 1) j = 0) ∧ ∀ q, q ≠ p + 1 → m2 q = m q
  | 0, k, F, m, h, hF, hz => by
    obtain ⟨F, rfl⟩ : ∃ f, F = f + 1 := ⟨F - 1, by omega⟩
    have : k = 24 := by omega
    subst this
    exact ⟨m, by rw [f_H_renew_L12, if_pos (l_le (n := 24) (by omega) (by decide))], hz, fun _ _ => rfl⟩
  | d + 1, k, F, m, h, hF, hz => by
    obtain ⟨F, rfl⟩ : ∃ f, F = f + 1 := ⟨F - 1, by omega⟩
    rw [f_H_renew_L12, if_neg (l_ge (n := 24) (by omega) (by decide)), if_pos (inb_nI (by omega) (by decide)), ix_nI (by omega), lt_eq, nI_1]
    obtain ⟨m2, u1, u2, u3⟩ := H_renL (p := p) b1 b2 d (k + 1) F (mst m (p + 1) k 0) (by omega) (by omega) (fun j hj => by
      by_cases e : j = k
      · rw [e, mst_at]
      · rw [mst_i e]; exact hz j (by omega))
    exact ⟨m2, u1, u2, fun q hq => (u3 q hq).trans (mst_ck hq)⟩
theorem H_renew {p : Nat} (a b : Int32) (m : Mm) {N : Nat} (hN : 500 ≤ N) : ∃ m2, f_H_renew N p a b m = some m2 ∧ m2 p 0 = a ∧ m2 p 1 = b ∧ (∀ j, j < 24 → m2 (p + 1) j = 0) ∧ ∀ q, q ≠ p → q ≠ p + 1 → m2 q = m q := by
  obtain ⟨m2, u1, u2, u3⟩ := H_renL (p := p) a b 24 0 N (mst (mst m p 0 a) p 1 b) (by omega) (by omega) (fun j hj => absurd hj (Nat.not_lt_zero j))
  refine ⟨m2, ?_, by rw [u3 p (by omega), mst_i (by decide), mst_at], by rw [u3 p (by omega), mst_at], u2, fun q h1 h2 => by rw [u3 q h2, mst_ck h1, mst_ck h1]⟩
  unfold f_H_renew
  rw [lt_eq, lt_eq, show f_H_renew_L12 p N a b 0 (mst (mst m p 0 a) p 1 b) = _ from u1]
  rfl
theorem M_shL {s : Nat} (hs : s < 4) (b2 b3 : Int32) : ∀ (d k F : Nat) (m : Mm), k + d = 24 → d < F → (∀ j, j < k → m 106 (24 * s + j) = 0) → ∃ m2, f_M_sheet_L65 F (nI s) b2 b3 (nI k) m = some (nI 24, m2) ∧ (∀ j, j < 24 → m2 106 (24 * s + j) = 0) ∧ (∀ q, q < 24 * s ∨ 24 * s + 24 ≤ q → m2 106 q = m 106 q) ∧ ∀ q, q ≠ 106 → m2 q = m q
  | 0, k, F, m, h, hF, hz => by
    obtain ⟨F, rfl⟩ : ∃ f, F = f + 1 := ⟨F - 1, by omega⟩
    have : k = 24 := by omega
    subst this
    exact ⟨m, by rw [f_M_sheet_L65, if_pos (l_le (n := 24) (by omega) (by decide))], hz, fun _ _ => rfl, fun _ _ => rfl⟩
  | d + 1, k, F, m, h, hF, hz => by
    obtain ⟨F, rfl⟩ : ∃ f, F = f + 1 := ⟨F - 1, by omega⟩
    have ex : (24 : Int32) * nI s + nI k = nI (24 * s + k) := by rw [show (24 : Int32) = nI 24 from rfl, pk_mul, nI_add]
    rw [f_M_sheet_L65, if_neg (l_ge (n := 24) (by omega) (by decide)), ex, if_pos (inb_nI (by omega) (by decide)), ix_nI (by omega), lt_eq, nI_1]
    obtain ⟨m2, u1, u2, u3, u4⟩ := M_shL hs b2 b3 d (k + 1) F (mst m 106 (24 * s + k) 0) (by omega) (by omega) (fun j hj => by
      by_cases e : j = k
      · rw [e, mst_at]
      · rw [mst_i (by omega)]; exact hz j (by omega))
    exact ⟨m2, u1, u2, fun q hq => (u3 q hq).trans (mst_i (by omega)), fun q hq => (u4 q hq).trans (mst_ck hq)⟩
theorem M_shT {s : Nat} (hs : s < 4) (b2 b3 w : Int32) (m : Mm) {N : Nat} (hN : 500 ≤ N) : ∃ m2, (lt (mst m 104 s b2) fun m_46 => lt (mst m_46 105 s w) fun m_61 => bd (f_M_sheet_L65 N (nI s) b2 b3 0 m_61) fun y_65 m_65 => some (m_65 105 s, m_65)) = some (w, m2) ∧ m2 104 = upd (m 104) s b2 ∧ m2 105 = upd (m 105) s w ∧ (∀ j, j < 24 → m2 106 (24 * s + j) = 0) ∧ (∀ q, q < 24 * s ∨ 24 * s + 24 ≤ q → m2 106 q = m 106 q) ∧ ∀ q, q ≠ 104 → q ≠ 105 → q ≠ 106 → m2 q = m q := by
  obtain ⟨m2, u1, u2, u3, u4⟩ := M_shL hs b2 b3 24 0 N (mst (mst m 104 s b2) 105 s w) (by omega) (by omega) (fun j hj => absurd hj (Nat.not_lt_zero j))
  refine ⟨m2, ?_, by rw [u4 104 (by omega), mst_ck (by omega), mst_row], by rw [u4 105 (by omega), mst_row, mst_ck (by omega)], u2, fun q hq => by rw [u3 q hq, mst_ck (by omega), mst_ck (by omega)], fun q h1 h2 h3 => by rw [u4 q h3, mst_ck h2, mst_ck h1]⟩
  rw [lt_eq, lt_eq, show f_M_sheet_L65 N (nI s) b2 b3 0 (mst (mst m 104 s b2) 105 s w) = _ from u1, bd_some, u4 105 (by omega), mst_at]
/-- a sheet made anew on both sides -/
theorem Good.shn {m c m2 : Mm} (g : Good m) {s n : Nat} (hs : s < 4) (hn : n ≤ 24) {b : Int32} (hb : b = (-1) ∨ b = 0 ∨ b = 1) (hbn : b = (-1) → n = 0) (c0 : c (68 + 2 * s) 0 = b) (c1 : c (68 + 2 * s) 1 = nI n) (c2 : ∀ j, j < 24 → c (68 + 2 * s + 1) j = 0) (c3 : ∀ q, q ≠ 68 + 2 * s → q ≠ 68 + 2 * s + 1 → c q = m q) (d0 : m2 104 = upd (c 104) s b) (d1 : m2 105 = upd (c 105) s (nI n)) (d2 : ∀ j, j < 24 → m2 106 (24 * s + j) = 0) (d3 : ∀ q, q < 24 * s ∨ 24 * s + 24 ≤ q → m2 106 q = c 106 q) (d4 : ∀ q, q ≠ 104 → q ≠ 105 → q ≠ 106 → m2 q = c q) : Good m2 := by
  have z : ∀ q, q < 68 ∨ 75 < q → q ≠ 104 → q ≠ 105 → q ≠ 106 → m2 q = m q := fun q h1 h2 h3 h4 => (d4 q h2 h3 h4).trans (c3 q (by omega) (by omega))
  refine g.rep (fun q hq => z q (by omega) (by omega) (by omega) (by omega)) (by rw [z 0 (by omega) (by omega) (by omega) (by omega)]) (by rw [z 91 (by omega) (by omega) (by omega) (by omega)]) (by rw [z 91 (by omega) (by omega) (by omega) (by omega)]) (g.2.2.1.cg (by rw [z 2 (by omega) (by omega) (by omega) (by omega)]) (z 3 (by omega) (by omega) (by omega) (by omega)) (by rw [z 91 (by omega) (by omega) (by omega) (by omega)]) (z 96 (by omega) (by omega) (by omega) (by omega))) (g.2.2.2.1.cg (by rw [z 0 (by omega) (by omega) (by omega) (by omega)]) (z 6 (by omega) (by omega) (by omega) (by omega)) (by rw [z 91 (by omega) (by omega) (by omega) (by omega)]) (z 112 (by omega) (by omega) (by omega) (by omega))) ?_ (g.2.2.2.2.2.1.cg (fun q _ _ => z q (by omega) (by omega) (by omega) (by omega)) (z 107 (by omega) (by omega) (by omega) (by omega)) (z 108 (by omega) (by omega) (by omega) (by omega)) (z 109 (by omega) (by omega) (by omega) (by omega)) (z 110 (by omega) (by omega) (by omega) (by omega)))
  intro u hu
  by_cases e : u = s
  · subst e
    have e1 : m2 104 u = b := by rw [d0, pk_us]
    have e2 : m2 105 u = nI n := by rw [d1, pk_us]
    refine ⟨by rw [d4 _ (by omega) (by omega) (by omega), e1]; exact c0, by rw [e1]; exact hb, ⟨n, hn, by rw [d4 _ (by omega) (by omega) (by omega)]; exact c1, e2, by rw [e1]; exact hbn⟩, fun j hj => ?_⟩
    rw [d4 _ (by omega) (by omega) (by omega), d2 j hj]
    exact ⟨c2 j hj, Or.inr (by decide)⟩
  · exact (g.2.2.2.2.1 u hu).cg (by rw [d4 _ (by omega) (by omega) (by omega)]; exact c3 _ (by omega) (by omega)) (by rw [d4 _ (by omega) (by omega) (by omega)]; exact c3 _ (by omega) (by omega)) (by rw [d0, pk_un e, c3 104 (by omega) (by omega)]) (by rw [d1, pk_un e, c3 105 (by omega) (by omega)]) (fun j hj => by rw [d3 _ (by omega), c3 106 (by omega) (by omega)])
theorem ok_sheet {m : Mm} (g : Good m) (a b c : Int32) {N : Nat} (hN : 500 ≤ N) : Ok2 (f_S_sheet N a b c) (f_M_sheet N a b c) m := by
  unfold Ok2 f_S_sheet f_M_sheet
  rcases sh_cases a with ⟨s, hs, rfl, s1, s2⟩ | ⟨s1, s2⟩
  case inr => exact ⟨_, m, m, by rw [s1, bp_some, if_pos rfl], by rw [s2, bp_some, if_pos rfl], g⟩
  rcases so_cases b with ⟨rfl, t1, t2⟩ | ⟨hb, t1, t2⟩ | ⟨t1, t2⟩
  · obtain ⟨c1, w1, w2, w3, w4, w5⟩ := H_renew (p := 68 + 2 * s) (-1) 0 m hN
    obtain ⟨m2, v1, v2, v3, v4, v5, v6⟩ := M_shT hs (-1) c 0 c1 hN
    rw [s1, bp_some, if_neg nz1, t1, bp_some, if_neg nz1, if_pos rfl, if_pos (inb_nI hs (by decide)), ix_nI (by omega), w1, bp_some]
    refine ⟨_, c1, m2, rfl, ?_, g.shn (n := 0) hs (by omega) (Or.inl rfl) (fun _ => rfl) w2 w3 w4 w5 v2 v3 v4 v5 v6⟩
    rw [s2, bp_some, if_neg nz1, t2, bp_some, if_neg nz1, if_pos (show (-1 : Int32) < 0 by decide), if_pos (show (-1 : Int32) < 0 by decide), if_pos (inb_nI hs (by decide)), if_neg (show ¬ (0 : Int32) ≤ -1 by decide)]
    exact v1
  · have nb : ¬ b = (-1) := by rcases hb with e | e <;> rw [e] <;> decide
    have nl : ¬ b < 0 := by rcases hb with e | e <;> rw [e] <;> decide
    have pl : (0 : Int32) ≤ b := by rcases hb with e | e <;> rw [e] <;> decide
    rw [s1, bp_some, if_neg nz1, t1, bp_some, if_neg nz1, if_neg nb]
    by_cases c24 : c ≤ 24
    · rw [if_pos c24]
      by_cases c0 : (0 : Int32) ≤ c
      · obtain ⟨n, hn, rfl⟩ := nat_of (x := c) (n := 25) (le_ti.mp c0) (by have := le_ti.mp c24; have z : (24 : Int32).toInt = 24 := by decide
                                                                           omega)
        obtain ⟨c1, w1, w2, w3, w4, w5⟩ := H_renew (p := 68 + 2 * s) b (nI n) m hN
        obtain ⟨m2, v1, v2, v3, v4, v5, v6⟩ := M_shT hs b (nI n) (nI n) c1 hN
        rw [if_pos c0, if_pos (inb_nI hs (by decide)), ix_nI (by omega), w1, bp_some]
        refine ⟨_, c1, m2, rfl, ?_, g.shn (n := n) hs (by omega) (Or.inr hb) (fun e => absurd e nb) w2 w3 w4 w5 v2 v3 v4 v5 v6⟩
        rw [s2, bp_some, if_neg nz1, t2, bp_some, if_neg nz1, if_neg nl, if_pos c24, if_neg nl, if_pos c0, if_pos (inb_nI hs (by decide)), if_pos pl]
        exact v1
      · rw [if_neg c0]
        refine ⟨_, m, m, rfl, ?_, g⟩
        rw [s2, bp_some, if_neg nz1, t2, bp_some, if_neg nz1, if_neg nl, if_pos c24, if_neg nl, if_neg c0]
    · rw [if_neg c24]
      refine ⟨_, m, m, rfl, ?_, g⟩
      rw [s2, bp_some, if_neg nz1, t2, bp_some, if_neg nz1, if_neg nl, if_neg c24]
  · exact ⟨_, m, m, by rw [s1, bp_some, if_neg nz1, t1, bp_some, if_pos rfl], by rw [s2, bp_some, if_neg nz1, t2, bp_some, if_pos rfl], g⟩
/-- one place of a sheet is marked on both sides -/
theorem Good.mrk {m : Mm} (g : Good m) {s k : Nat} (hs : s < 4) (hk : k < 24) {v : Int32} (hv : vok v) : Good (mst (mst m (68 + 2 * s + 1) k v) 106 (24 * s + k) v) := by
  have z : ∀ q, q ≠ 68 + 2 * s + 1 → q ≠ 106 → mst (mst m (68 + 2 * s + 1) k v) 106 (24 * s + k) v q = m q := fun q h1 h2 => by rw [mst_ck h2, mst_ck h1]
  refine g.rep (fun q hq => z q (by omega) (by omega)) (by rw [z 0 (by omega) (by omega)]) (by rw [z 91 (by omega) (by omega)]) (by rw [z 91 (by omega) (by omega)]) (g.2.2.1.cg (by rw [z 2 (by omega) (by omega)]) (z 3 (by omega) (by omega)) (by rw [z 91 (by omega) (by omega)]) (z 96 (by omega) (by omega))) (g.2.2.2.1.cg (by rw [z 0 (by omega) (by omega)]) (z 6 (by omega) (by omega)) (by rw [z 91 (by omega) (by omega)]) (z 112 (by omega) (by omega))) ?_ (g.2.2.2.2.2.1.cg (fun q _ _ => z q (by omega) (by omega)) (z 107 (by omega) (by omega)) (z 108 (by omega) (by omega)) (z 109 (by omega) (by omega)) (z 110 (by omega) (by omega)))
  intro u hu
  by_cases e : u = s
  · subst e
    obtain ⟨q1, q2, q3, q4⟩ := g.2.2.2.2.1 u hu
    refine ⟨by rw [z _ (by omega) (by omega), z 104 (by omega) (by omega)]; exact q1, by rw [z 104 (by omega) (by omega)]; exact q2, by rw [z _ (by omega) (by omega), z 104 (by omega) (by omega), z 105 (by omega) (by omega)]; exact q3, fun j hj => ?_⟩
    by_cases ej : j = k
    · subst ej
      rw [mst_at, mst_ck (by omega), mst_at]
      exact ⟨rfl, hv⟩
    · rw [mst_i (i2 := 24 * u + j) (by omega), mst_ck (k2 := 106) (by omega), mst_ck (k2 := 68 + 2 * u + 1) (by omega), mst_i ej]
      exact q4 j hj
  · exact (g.2.2.2.2.1 u hu).cg (z _ (by omega) (by omega)) (z _ (by omega) (by omega)) (by rw [z 104 (by omega) (by omega)]) (by rw [z 105 (by omega) (by omega)]) (fun j hj => by rw [mst_i (by omega), mst_ck (by omega)])
theorem shr_ok (x : Int32) : vok x.toInt16.toInt32 := by
  refine Or.inr ?_
  have h1 := Int16.le_toInt x.toInt16
  have h2 := Int16.toInt_lt x.toInt16
  rw [Int16.toInt_toInt32]
  omega
theorem ok_mark {m : Mm} (g : Good m) (a b c : Int32) : Ok2 (f_S_mark a b c) (f_M_mark a b c) m := by
  unfold Ok2 f_S_mark f_M_mark
  rcases sh_cases a with ⟨s, hs, rfl, s1, s2⟩ | ⟨s1, s2⟩
  case inr => exact ⟨_, m, m, by rw [s1, bp_some, if_pos rfl], by rw [s2, bp_some, if_pos rfl], g⟩
  obtain ⟨q1, q2, ⟨n, q3, q4, q5, -⟩, q6⟩ := g.2.2.2.2.1 s hs
  rw [s1, bp_some, if_neg nz1, if_pos (inb_nI hs (by decide)), ix_nI (by omega), q1, q4]
  rcases sort_cases g hs with ⟨z1, z2, z3⟩ | ⟨z1, z2, z3⟩
  · rw [if_pos z1]
    refine ⟨_, m, m, rfl, ?_, g⟩
    rw [s2, bp_some, if_neg nz1, if_pos (inb_nI hs (by decide)), if_neg z2]
  rw [if_neg z1]
  rcases in_cases b (n := n) (by omega) with ⟨k, hk, rfl, t1, t2⟩ | ⟨t1, t2⟩
  case inr =>
    rw [t1, bp_some, if_pos rfl]
    refine ⟨_, m, m, rfl, ?_, g⟩
    rw [s2, bp_some, if_neg nz1, if_pos (inb_nI hs (by decide)), if_pos z2, q5, t2, bp_some, if_pos rfl]
  have hk24 : k < 24 := by omega
  have ex : (24 : Int32) * nI s + nI k = nI (24 * s + k) := by rw [show (24 : Int32) = nI 24 from rfl, pk_mul, nI_add]
  have ib : inb (nI k) 24 = true := inb_nI hk24 (by decide)
  have ib2 : inb (nI (24 * s + k)) 96 = true := inb_nI (by omega) (by decide)
  have ib3 : inb (nI s) 4 = true := inb_nI hs (by decide)
  have ix1 : ix (nI k) = k := ix_nI (by omega)
  have ix2 : ix (nI (24 * s + k)) = 24 * s + k := ix_nI (by omega)
  have ix3 : ix (nI s) = s := ix_nI (by omega)
  have e104 : ∀ v : Int32, mst m (68 + 2 * s + 1) k v 104 s = m 104 s := fun v => by rw [mst_ck (by omega)]
  have e105 : ∀ v : Int32, mst m (68 + 2 * s + 1) k v 105 s = nI n := fun v => by rw [mst_ck (by omega)]; exact q5
  rw [t1, bp_some, if_neg nz1]
  by_cases m0 : m 104 s = 0
  · have m1 : ¬ m 104 s = 1 := by rw [m0]; decide
    rw [if_pos m0]
    by_cases cn : c = (-1000000005)
    · rw [if_pos cn]
      refine ⟨_, m, m, rfl, ?_, g⟩
      rw [s2, bp_some, if_neg nz1, if_pos ib3, if_pos z2, q5, t2, bp_some, if_neg nz1, if_pos m0, if_pos cn]
    · rw [if_neg cn, if_pos ib, ix1, lt_eq]
      refine ⟨_, _, _, rfl, ?_, g.mrk hs hk24 (shr_ok c)⟩
      rw [s2, bp_some, if_neg nz1, if_pos ib3, e104, if_pos z2, e105, t2, bp_some, if_neg nz1, if_pos m0, if_neg cn, if_neg m1, ex, if_pos ib2, ix2, if_pos m0, lt_eq]
  · have m1 : m 104 s = 1 := (q2.resolve_left z1).resolve_left m0
    rw [if_neg m0]
    by_cases cn : c = (-1000000005)
    · rw [if_pos cn, if_pos ib, ix1, lt_eq]
      refine ⟨_, _, _, rfl, ?_, g.mrk hs hk24 (Or.inl cn)⟩
      rw [s2, bp_some, if_neg nz1, if_pos ib3, e104, if_pos z2, e105, t2, bp_some, if_neg nz1, if_neg m0, if_pos m1, if_pos cn, ex, if_pos ib2, ix2, if_neg m0, lt_eq]
    · have zl : ((-99999 : Int32)).toInt = -99999 := by decide
      have zh : (99999 : Int32).toInt = 99999 := by decide
      have same : f_M_in c (-99999) 99999 = f_S_within c (-99999) 99999 := rfl
      rw [if_neg cn]
      by_cases hr : -99999 ≤ c.toInt ∧ c.toInt ≤ 99999
      · have w1 : f_S_within c (-99999) 99999 = some 1 := by
          unfold f_S_within
          rw [if_neg (fun q => by have := lt_ti.mp q; omega), if_neg (fun q => by have := lt_ti.mp q; omega)]
        rw [w1, bp_some, if_neg nz1, if_pos ib, ix1, lt_eq]
        refine ⟨_, _, _, rfl, ?_, g.mrk hs hk24 (Or.inr hr)⟩
        rw [s2, bp_some, if_neg nz1, if_pos ib3, e104, if_pos z2, e105, t2, bp_some, if_neg nz1, if_neg m0, if_pos m1, if_neg cn, same, w1, bp_some, if_neg nz1, ex, if_pos ib2, ix2, if_neg m0, lt_eq]
      · have w1 : f_S_within c (-99999) 99999 = some 0 := by
          unfold f_S_within
          by_cases q : c < (-99999)
          · rw [if_pos q]
          · rw [if_neg q, if_pos (lt_ti.mpr (by rw [lt_ti] at q; omega))]
        rw [w1, bp_some, if_pos rfl]
        refine ⟨_, m, m, rfl, ?_, g⟩
        rw [s2, bp_some, if_neg nz1, if_pos ib3, if_pos z2, q5, t2, bp_some, if_neg nz1, if_neg m0, if_pos m1, if_neg cn, same, w1, bp_some, if_pos rfl]
-- pour
theorem cl3_mm1 (v : Int32) {lo hi : Nat} (h : hi < 2 ^ 31) (hl : lo ≤ hi) : (if nI lo < (if v < nI hi then v else nI hi) then (if v < nI hi then v else nI hi) else nI lo) = cl3 v (nI lo) (nI hi) := by
  unfold cl3
  have e := ti_nI h
  have e2 := ti_nI (n := lo) (by omega)
  by_cases h1 : v < nI hi
  · rw [if_pos h1]
    have a1 := lt_ti.mp h1
    by_cases h2 : nI lo < v
    · have a2 := lt_ti.mp h2
      rw [if_pos h2, if_pos (le_ti.mpr (by omega)), if_pos (le_ti.mpr (by omega))]
    · rw [if_neg h2]
      rw [lt_ti] at h2
      by_cases h3 : nI lo ≤ v
      · have a2 := le_ti.mp h3
        rw [if_pos h3, if_pos (le_ti.mpr (by omega))]
        exact eq_ti.mpr (by omega)
      · rw [if_neg h3]
  · rw [if_neg h1]
    rw [lt_ti] at h1
    rw [if_pos (le_ti.mpr (by omega))]
    have ef : (if nI lo < nI hi then nI hi else nI lo) = nI hi := by
      by_cases q : nI lo < nI hi
      · rw [if_pos q]
      · rw [if_neg q]; rw [lt_ti] at q; exact eq_ti.mpr (by omega)
    rw [ef]
    by_cases h3 : v ≤ nI hi
    · have a3 := le_ti.mp h3
      rw [if_pos h3]; exact eq_ti.mpr (by omega)
    · rw [if_neg h3]
theorem cl3_nat1 (v : Int32) {lo hi : Nat} (h : hi < 2 ^ 31) (hl : lo ≤ hi) : ∃ n, lo ≤ n ∧ n ≤ hi ∧ cl3 v (nI lo) (nI hi) = nI n := by
  unfold cl3
  have e := ti_nI h
  have e2 := ti_nI (n := lo) (by omega)
  by_cases h3 : nI lo ≤ v
  · rw [if_pos h3]
    by_cases h4 : v ≤ nI hi
    · rw [if_pos h4]
      have a1 := le_ti.mp h3
      have a2 := le_ti.mp h4
      obtain ⟨k, hk, hv⟩ := nat_of (x := v) (n := hi + 1) (by omega) (by omega)
      have e3 := ti_nI (n := k) (by omega)
      rw [hv] at a1
      exact ⟨k, by omega, by omega, hv⟩
    · rw [if_neg h4]; exact ⟨hi, hl, Nat.le_refl _, rfl⟩
  · rw [if_neg h3]; exact ⟨lo, Nat.le_refl _, hl, rfl⟩
def poR (f : Nat → Int32) (r : Row) : Nat → Row
  | 0 => r
  | t + 1 => if f t = (-1000000005) then poR f r t else upd (poR f r t) (10 + 4 * t) (cl3 (f t) 1 999)
def poC (f : Nat → Int32) (r : Row) : Nat → Nat
  | 0 => 0
  | t + 1 => if f t = (-1000000005) then poC f r t else if cl3 (f t) 1 999 = poR f r t (10 + 4 * t) then poC f r t else poC f r t + 1
theorem poR_inv {f : Nat → Int32} {r : Row} (h : RW r r) : ∀ t, t ≤ 6 → RW r (poR f r t) ∧ poR f r t 2 = r 2 ∧ poR f r t 5 = r 5
  | 0, _ => ⟨h, rfl, rfl⟩
  | t + 1, ht => by
    obtain ⟨a1, a2, a3⟩ := poR_inv (f := f) h t (by omega)
    unfold poR
    split
    · exact ⟨a1, a2, a3⟩
    · obtain ⟨n, n1, n2, n3⟩ := cl3_nat1 (f t) (lo := 1) (hi := 999) (by decide) (by decide)
      rw [show cl3 (f t) 1 999 = _ from n3]
      exact ⟨⟨a1.1.need (by omega) n1 n2, (pk_un (by omega)).trans a1.2.1, fun j hj => (pk_un (by omega)).trans (a1.2.2 j hj)⟩, (pk_un (by omega)).trans a2, (pk_un (by omega)).trans a3⟩
theorem poC_le (f : Nat → Int32) (r : Row) : ∀ t, poC f r t ≤ t
  | 0 => Nat.le_refl _
  | t + 1 => by
    have := poC_le f r t
    unfold poC
    split
    · omega
    · split <;> omega
theorem S_poL {r : Row} {f : Nat → Int32} {s n : Nat} (hs : s < 4) (hn : n ≤ 24) (b1 : Int32) : ∀ (d t F : Nat) (c : Mm), t + d = min n 6 → d < F → c (68 + 2 * s) 1 = nI n → (∀ j, j < 24 → c (68 + 2 * s + 1) j = f j) → Eqv 38 c (poR f r t) → ∃ c2, f_S_pour_L33 (68 + 2 * s) F b1 (nI (poC f r t)) (nI t) c = some ((nI (poC f r (min n 6)), nI (min n 6)), c2) ∧ Eqv 38 c2 (poR f r (min n 6)) ∧ PF 38 c c2
  | 0, t, F, c, h, hF, e1, ef, hE => by
    obtain ⟨F, rfl⟩ : ∃ f, F = f + 1 := ⟨F - 1, by omega⟩
    have ht : t = min n 6 := by omega
    refine ⟨c, ?_, ht ▸ hE, PF.rf⟩
    rw [f_S_pour_L33, e1, ← ht]
    by_cases q : 6 ≤ t
    · rw [if_pos (l_le (n := 6) q (by omega))]
    · rw [if_neg (l_ge (n := 6) (by omega) (by decide)), if_pos (nI_le (by omega) (by omega))]
  | d + 1, t, F, c, h, hF, e1, ef, hE => by
    obtain ⟨F, rfl⟩ : ∃ f, F = f + 1 := ⟨F - 1, by omega⟩
    have ht6 : t < 6 := by omega
    have htn : t < n := by omega
    rw [f_S_pour_L33, if_neg (l_ge (n := 6) ht6 (by decide)), e1, if_neg (nI_ge htn (by omega)), H_has e1 hn htn, bp_some, ef t (by omega), nI_1]
    by_cases q : f t = (-1000000005)
    · have eR : poR f r (t + 1) = poR f r t := by show (if _ then _ else _) = _; rw [if_pos q]
      have eC : poC f r (t + 1) = poC f r t := by show (if _ then _ else _) = _; rw [if_pos q]
      rw [if_pos q, if_pos rfl, ← eC]
      exact S_poL (f := f) hs hn b1 d (t + 1) F c (by omega) (by omega) e1 ef (by rw [eR]; exact hE)
    · have eR : poR f r (t + 1) = upd (poR f r t) (10 + 4 * t) (cl3 (f t) 1 999) := by show (if _ then _ else _) = _; rw [if_neg q]
      rw [if_neg q, if_neg nz1, if_pos (inb_nI (by omega) (by decide)), ix_nI (by omega), ef t (by omega), lt_eq, if_pos (inb_nI ht6 (by decide))]
      rw [show (if (1 : Int32) < (if f t < 999 then f t else 999) then (if f t < 999 then f t else 999) else 1) = cl3 (f t) 1 999 from cl3_mm1 (f t) (lo := 1) (hi := 999) (by decide) (by decide), show c 43 t = _ from e_need hE ht6]
      have eC : nI (poC f r t) + (if cl3 (f t) 1 999 = poR f r t (10 + 4 * t) then (0 : Int32) else 1) = nI (poC f r (t + 1)) := by
        show _ = nI (if _ then _ else _)
        rw [if_neg q]
        by_cases z : cl3 (f t) 1 999 = poR f r t (10 + 4 * t)
        · rw [if_pos z, if_pos z]; exact nI_add _ 0
        · rw [if_neg z, if_neg z, nI_1]
      rw [eC, lt_eq, lt_eq]
      have hF1 : PF 38 c (mst c 43 t (cl3 (f t) 1 999)) := PF.rf.put 43 t _ ⟨by omega, by omega, by omega⟩ (Or.inl (by omega))
      obtain ⟨c2, u1, u2, u3⟩ := S_poL (f := f) hs hn b1 d (t + 1) F (mst c 43 t (cl3 (f t) 1 999)) (by omega) (by omega) (by rw [mst_ck (by omega)]; exact e1) (fun j hj => by rw [mst_ck (by omega)]; exact ef j hj) (by rw [eR]; exact u_need hE ht6 _)
      exact ⟨c2, u1, u2, hF1.tr u3⟩
theorem M_poL {r : Row} {f : Nat → Int32} {s n : Nat} (hs : s < 4) (hn : n ≤ 24) : ∀ (d t F : Nat) (m : Mm), t + d = min n 6 → d < F → m 105 s = nI n → (∀ j, j < 24 → m 106 (24 * s + j) = f j) → m 92 = poR f r t → ∃ m2, f_M_pour_L26 F (nI s) (nI (poC f r t)) (nI t) m = some ((nI (poC f r (min n 6)), nI (min n 6)), m2) ∧ m2 92 = poR f r (min n 6) ∧ MF m m2
  | 0, t, F, m, h, hF, e1, ef, h9 => by
    obtain ⟨F, rfl⟩ : ∃ f, F = f + 1 := ⟨F - 1, by omega⟩
    have ht : t = min n 6 := by omega
    refine ⟨m, ?_, ht ▸ h9, MF.rf⟩
    rw [f_M_pour_L26, if_pos (inb_nI hs (by decide)), ix_nI (by omega), e1, ← ht]
    by_cases q : n ≤ t
    · rw [if_pos (nI_le q (by omega))]
    · rw [if_neg (nI_ge (by omega) (by omega)), if_pos (l_le (n := 6) (by omega) (by omega))]
  | d + 1, t, F, m, h, hF, e1, ef, h9 => by
    obtain ⟨F, rfl⟩ : ∃ f, F = f + 1 := ⟨F - 1, by omega⟩
    have ht6 : t < 6 := by omega
    have htn : t < n := by omega
    have ex : (24 : Int32) * nI s + nI t = nI (24 * s + t) := by rw [show (24 : Int32) = nI 24 from rfl, pk_mul, nI_add]
    have ex2 : (10 : Int32) + 4 * nI t = nI (10 + 4 * t) := by rw [show (10 : Int32) = nI 10 from rfl, show (4 : Int32) = nI 4 from rfl, pk_mul, nI_add]
    rw [f_M_pour_L26, if_pos (inb_nI hs (by decide)), ix_nI (by omega), e1, if_neg (nI_ge htn (by omega)), if_neg (l_ge (n := 6) ht6 (by decide)), ex, if_pos (inb_nI (by omega) (by decide)), ix_nI (by omega), ef t (by omega), lt_eq, ex2, nI_1]
    by_cases q : f t = (-1000000005)
    · have eR : poR f r (t + 1) = poR f r t := by show (if _ then _ else _) = _; rw [if_pos q]
      have eC : poC f r (t + 1) = poC f r t := by show (if _ then _ else _) = _; rw [if_pos q]
      rw [if_pos q, M_at00 ht6, bp_some, M_becomes (by omega), bd_some, if_pos rfl, lt_eq, addz, ← eC]
      have f1 : MF m (mst m 92 (10 + 4 * t) (m 92 (10 + 4 * t))) := MF.rf.put _ _
      obtain ⟨m2, u1, u2, u3⟩ := M_poL (f := f) hs hn d (t + 1) F (mst m 92 (10 + 4 * t) (m 92 (10 + 4 * t))) (by omega) (by omega) (by rw [mst_ck (by omega)]; exact e1) (fun j hj => by rw [mst_ck (by omega)]; exact ef j hj) (by rw [mst_row, upd_id _ _ _ rfl, eR]; exact h9)
      exact ⟨m2, u1, u2, f1.tr u3⟩
    · have eR : poR f r (t + 1) = upd (poR f r t) (10 + 4 * t) (cl3 (f t) 1 999) := by show (if _ then _ else _) = _; rw [if_neg q]
      rw [if_neg q, M_within, bp_some, M_becomes (by omega), bd_some, h9]
      have eC : nI (poC f r t) + (if poR f r t (10 + 4 * t) = cl3 (f t) 1 999 then (0 : Int32) else 1) = nI (poC f r (t + 1)) := by
        show _ = nI (if _ then _ else _)
        rw [if_neg q]
        by_cases z : cl3 (f t) 1 999 = poR f r t (10 + 4 * t)
        · rw [if_pos z.symm, if_pos z]; exact nI_add _ 0
        · rw [if_neg (fun y => z y.symm), if_neg z, nI_1]
      rw [eC, lt_eq]
      have f1 : MF m (mst m 92 (10 + 4 * t) (cl3 (f t) 1 999)) := MF.rf.put _ _
      obtain ⟨m2, u1, u2, u3⟩ := M_poL (f := f) hs hn d (t + 1) F (mst m 92 (10 + 4 * t) (cl3 (f t) 1 999)) (by omega) (by omega) (by rw [mst_ck (by omega)]; exact e1) (fun j hj => by rw [mst_ck (by omega)]; exact ef j hj) (by rw [mst_row, eR, h9])
      exact ⟨m2, u1, u2, f1.tr u3⟩
theorem ok_pour {m : Mm} (g : Good m) (a : Int32) {N : Nat} (hN : 500 ≤ N) : Ok2 (f_S_pour N a) (f_M_pour N a) m := by
  unfold Ok2 f_S_pour f_M_pour
  rcases sh_cases a with ⟨s, hs, rfl, s1, s2⟩ | ⟨s1, s2⟩
  case inr => exact ⟨_, m, m, by rw [s1, bp_some, if_pos rfl], by rw [s2, bp_some, if_pos rfl], g⟩
  obtain ⟨q1, q2, ⟨n, q3, q4, q5, -⟩, q6⟩ := g.2.2.2.2.1 s hs
  rw [s1, bp_some, if_neg nz1, if_pos (inb_nI hs (by decide)), ix_nI (by omega), q1]
  rcases sort_cases g hs with ⟨z1, z2, z3⟩ | ⟨z1, z2, z3⟩
  · rw [if_pos z1]
    refine ⟨_, m, m, rfl, ?_, g⟩
    rw [s2, bp_some, if_neg nz1, if_pos (inb_nI hs (by decide)), if_neg z2]
  rw [if_neg z1]
  obtain ⟨c2, w1, w2, w3⟩ := S_poL (r := m 92) (f := fun j => m 106 (24 * s + j)) hs q3 (nI s) (min n 6) 0 N m (by omega) (by omega) q4 (fun j hj => (q6 j hj).1) g.1.1.1
  have e : ∀ k, k = 92 ∨ k = 104 ∨ k = 105 ∨ k = 106 → c2 k = m k := fun k hk => w3.1 k (by omega) (by omega)
  obtain ⟨m2, v1, v2, v3⟩ := M_poL (r := m 92) (f := fun j => m 106 (24 * s + j)) hs q3 (min n 6) 0 N c2 (by omega) (by omega) (by rw [e 105 (by omega)]; exact q5) (fun j hj => by rw [e 106 (by omega)]) (e 92 (by omega))
  rw [show f_S_pour_L33 (68 + 2 * s) N (nI s) 0 0 m = _ from w1, bd_some]
  obtain ⟨a1, a2, a3⟩ := poR_inv (f := fun j => m 106 (24 * s + j)) (RW.rf g) (min n 6) (by omega)
  refine ⟨_, c2, m2, rfl, ?_, g.now w3 w2 v3 v2 a1.1 (g.1.2.1.cg a2 a3) a1.2.1 a1.2.2⟩
  rw [s2, bp_some, if_neg nz1, if_pos (inb_nI hs (by decide)), e 104 (by omega), if_pos z2, show f_M_pour_L26 N (nI s) 0 0 c2 = _ from v1, bd_some]
