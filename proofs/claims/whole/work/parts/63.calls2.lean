/-! PURE: more plain calls -/
theorem M_at0g {m : Mm} {t w : Nat} (h : t < 6) (hw : w < 4) : f_M_at0 (nI t) (nI w) m = some (m 92 (10 + 4 * t + w)) := by
  match w, hw with
  | 0, _ => exact M_at00 h
  | 1, _ => rw [show f_M_at0 (nI t) (nI 1) m = _ from M_at01 h]; congr 2; omega
  | 2, _ => rw [show f_M_at0 (nI t) (nI 2) m = _ from M_at02 h]; congr 2; omega
  | 3, _ => rw [show f_M_at0 (nI t) (nI 3) m = _ from M_at03 h]; congr 2; omega
  | k + 4, h => omega
theorem ok_table {m : Mm} (g : Good m) (a b : Int32) : Ok0 (f_S_table a b) (f_M_table a b) m := by
  unfold Ok0 f_S_table f_M_table
  rcases tb_cases a with ⟨t, ht, rfl, s1, s2⟩ | ⟨s1, s2⟩
  case inr => exact ⟨_, by rw [s1, bp_some, if_pos rfl], by rw [s2, bp_some, if_pos rfl]⟩
  rw [s1, bp_some, if_neg nz1, s2, bp_some, if_neg nz1]
  have ib : inb (nI t) 6 = true := inb_nI ht (by decide)
  rw [if_pos ib, if_pos ib, if_pos ib, if_pos ib, ix_nI (by omega), show m 43 t = _ from e_need g.1.1.1 ht, show m 44 t = _ from e_done g.1.1.1 ht, show m 45 t = _ from e_faults g.1.1.1 ht, show m 46 t = _ from e_wiped g.1.1.1 ht]
  rcases wi_cases b (lo := 0) (hi := 3) (by decide) (by decide) with ⟨w, h1, h2, rfl, t1, t2⟩ | ⟨t1, t2⟩
  · rw [show f_M_in (nI w) 0 3 = _ from t2, bp_some, if_neg nz1]
    match w, h2 with
    | 0, _ => exact ⟨_, if_pos (show nI 0 = 0 from rfl), by rw [show f_M_at0 (nI t) (nI 0) m = _ from M_at00 ht]; rfl⟩
    | 1, _ => exact ⟨_, by rw [if_neg (by decide), if_pos (show nI 1 = 1 from rfl)], by rw [show f_M_at0 (nI t) (nI 1) m = _ from M_at01 ht]; rfl⟩
    | 2, _ => exact ⟨_, by rw [if_neg (by decide), if_neg (by decide), if_pos (show nI 2 = 2 from rfl)], by rw [show f_M_at0 (nI t) (nI 2) m = _ from M_at02 ht]; rfl⟩
    | 3, _ => exact ⟨_, by rw [if_neg (by decide), if_neg (by decide), if_neg (by decide), if_pos (show nI 3 = 3 from rfl)], by rw [show f_M_at0 (nI t) (nI 3) m = _ from M_at03 ht]; rfl⟩
  · rw [show f_M_in b 0 3 = _ from t2, bp_some, if_pos rfl, if_neg (out_lit (w := 0) t2 (by omega) (by omega) (by decide)), if_neg (out_lit (w := 1) t2 (by omega) (by omega) (by decide)), if_neg (out_lit (w := 2) t2 (by omega) (by omega) (by decide)), if_neg (out_lit (w := 3) t2 (by omega) (by omega) (by decide))]
    exact ⟨_, rfl, rfl⟩
theorem ok_need {m : Mm} (g : Good m) (a b : Int32) : Ok2 (f_S_need a b) (f_M_need a b) m := by
  unfold Ok2 f_S_need f_M_need
  rcases tb_cases a with ⟨t, ht, rfl, s1, s2⟩ | ⟨s1, s2⟩
  case inr => exact ⟨_, m, m, by rw [s1, bp_some, if_pos rfl], by rw [s2, bp_some, if_pos rfl], g⟩
  rcases wi_cases b (lo := 1) (hi := 999) (by decide) (by decide) with ⟨w, h1, h2, rfl, t1, t2⟩ | ⟨t1, t2⟩
  case inr => exact ⟨_, m, m, by rw [s1, bp_some, if_neg nz1, show f_S_within b 1 999 = _ from t1, bp_some, if_pos rfl], by rw [s2, bp_some, if_neg nz1, show f_M_in b 1 999 = _ from t2, bp_some, if_pos rfl], g⟩
  have ex : (10 : Int32) + 4 * nI t = nI (10 + 4 * t) := by rw [show (10 : Int32) = nI 10 from rfl, show (4 : Int32) = nI 4 from rfl, pk_mul, nI_add]
  rw [s1, bp_some, if_neg nz1, show f_S_within (nI w) 1 999 = _ from t1, bp_some, if_neg nz1, if_pos (inb_nI ht (by decide)), ix_nI (by omega), show m 43 t = _ from e_need g.1.1.1 ht, lt_eq, lt_eq]
  refine ⟨_, _, _, rfl, ?_, g.set1 (k := 43) (i := t) (j := 10 + 4 * t) (v := nI w) ⟨by omega, by omega, by omega⟩ (Or.inl (by omega)) (u_need g.1.1.1 ht _) (g.1.1.2.2.2.need ht h1 h2) ⟨by omega, by omega, by omega, by omega⟩⟩
  rw [s2, bp_some, if_neg nz1, show f_M_in (nI w) 1 999 = _ from t2, bp_some, if_neg nz1, ex, M_becomes (by omega), bd_some, mst_ck (k2 := 92) (by decide)]
theorem ok_river {m : Mm} (g : Good m) (a b : Int32) : Ok2 (f_S_river a b) (f_M_river a b) m := by
  unfold Ok2 f_S_river f_M_river
  rcases rv_cases a with ⟨t, ht, rfl, s1, s2⟩ | ⟨s1, s2⟩
  case inr => exact ⟨_, m, m, by rw [s1, bp_some, if_pos rfl], by rw [s2, bp_some, if_pos rfl], g⟩
  rcases wi_cases b (lo := 0) (hi := 99999) (by decide) (by decide) with ⟨w, h1, h2, rfl, t1, t2⟩ | ⟨t1, t2⟩
  case inr => exact ⟨_, m, m, by rw [s1, bp_some, if_neg nz1, show f_S_within b 0 99999 = _ from t1, bp_some, if_pos rfl], by rw [s2, bp_some, if_neg nz1, show f_M_in b 0 99999 = _ from t2, bp_some, if_pos rfl], g⟩
  rw [s1, bp_some, if_neg nz1, show f_S_within (nI w) 0 99999 = _ from t1, bp_some, if_neg nz1, if_pos (inb_nI ht (by decide)), ix_nI (by omega), show m 47 t = _ from e_sand g.1.1.1 ht, lt_eq, lt_eq]
  refine ⟨_, _, _, rfl, ?_, g.set1 (k := 47) (i := t) (j := 7 + t) (v := nI w) ⟨by omega, by omega, by omega⟩ (Or.inl (by omega)) (u_sand g.1.1.1 ht _) (g.1.1.2.2.2.sand ht h2) ⟨by omega, by omega, by omega, by omega⟩⟩
  rw [s2, bp_some, if_neg nz1, show f_M_in (nI w) 0 99999 = _ from t2, bp_some, if_neg nz1, ixR, M_becomes (by omega), bd_some, mst_ck (k2 := 92) (by decide)]
theorem ok_wind {m : Mm} (g : Good m) (a : Int32) : Ok2 (f_S_wind a) (f_M_wind a) m := by
  unfold Ok2 f_S_wind f_M_wind
  rcases wi_cases a (lo := 0) (hi := 100) (by decide) (by decide) with ⟨w, h1, h2, rfl, t1, t2⟩ | ⟨t1, t2⟩
  case inr => exact ⟨_, m, m, by rw [show f_S_within a 0 100 = _ from t1, bp_some, if_pos rfl], by rw [show f_M_in a 0 100 = _ from t2, bp_some, if_pos rfl], g⟩
  rw [show f_S_within (nI w) 0 100 = _ from t1, bp_some, if_neg nz1, e_wind g.1.1.1, lt_eq, lt_eq]
  refine ⟨_, _, _, rfl, ?_, g.set1 (k := 38) (i := 13) (j := 3) (v := nI w) ⟨by omega, by omega, by omega⟩ (Or.inr (by omega)) (u_wind g.1.1.1 _) (g.1.1.2.2.2.free (Or.inr (Or.inr (Or.inl rfl))) _) ⟨by omega, by omega, by omega, by omega⟩⟩
  rw [show f_M_in (nI w) 0 100 = _ from t2, bp_some, if_neg nz1, show f_M_becomes 3 (nI w) (mst m 38 13 (nI w)) = _ from M_becomes (j := 3) (by omega) _, bd_some, mst_ck (k2 := 92) (by decide)]
theorem ok_seed {m : Mm} (g : Good m) (a : Int32) : Ok2 (f_S_seed a) (f_M_seed a) m := by
  unfold Ok2 f_S_seed f_M_seed
  rw [e_z g.1.1.1, lt_eq, lt_eq]
  refine ⟨_, _, _, rfl, ?_, g.set1 (k := 38) (i := 17) (j := 0) (v := a) ⟨by omega, by omega, by omega⟩ (Or.inr (by omega)) (u_z g.1.1.1 _) (g.1.1.2.2.2.free (Or.inl rfl) _) ⟨by omega, by omega, by omega, by omega⟩⟩
  rw [show f_M_becomes 0 a (mst m 38 17 a) = _ from M_becomes (j := 0) (by omega) _, bd_some, mst_ck (k2 := 92) (by decide)]
theorem ok_sneeze {m : Mm} (g : Good m) (a : Int32) : Ok2 (f_S_sneeze a) (f_M_sneeze a) m := by
  unfold Ok2 f_S_sneeze f_M_sneeze
  rcases tb_cases a with ⟨t, ht, rfl, s1, s2⟩ | ⟨s1, s2⟩
  case inr => exact ⟨_, m, m, by rw [s1, bp_some, if_pos rfl], by rw [s2, bp_some, if_pos rfl], g⟩
  rw [s1, bp_some, if_neg nz1, if_pos (inb_nI ht (by decide)), ix_nI (by omega), show m 44 t = _ from e_done g.1.1.1 ht, lt_eq, lt_eq]
  have hE1 : Eqv 38 (mst m 44 t 0) (upd (m 92) (11 + 4 * t) 0) := u_done g.1.1.1 ht 0
  have hF1 : PF 38 m (mst m 44 t 0) := PF.rf.put 44 t 0 ⟨by omega, by omega, by omega⟩ (Or.inl (by omega))
  have e92 : mst m 44 t 0 92 = m 92 := mst_ck (by decide)
  generalize mst m 44 t 0 = m1 at *
  rw [lt_eq, e_spilt hE1]
  have hE2 := u_spilt hE1 (upd (m 92) (11 + 4 * t) 0 4 + m 92 (11 + 4 * t))
  have hF2 := hF1.put 38 14 (upd (m 92) (11 + 4 * t) 0 4 + m 92 (11 + 4 * t)) ⟨by omega, by omega, by omega⟩ (Or.inr (by decide))
  have e92b : mst m1 38 14 (upd (m 92) (11 + 4 * t) 0 4 + m 92 (11 + 4 * t)) 92 = m 92 := by rw [mst_ck (by decide)]; exact e92
  generalize mst m1 38 14 _ = m2 at *
  refine ⟨_, m2, mst (mst m2 92 (11 + 4 * t) 0) 92 4 (upd (m 92) (11 + 4 * t) 0 4 + m 92 (11 + 4 * t)), rfl, ?_, ?_⟩
  · rw [s2, bp_some, if_neg nz1, ixT1, M_becomes (by omega), bd_some, lt_eq, ixc_4, mst_row, e92b]
  · refine g.now hF2 hE2 ((MF.rf.put _ _).put _ _) ?_ (((g.1.1.2.2.2.done (s := 0) ht (by omega))).free (Or.inr (Or.inr (Or.inr (Or.inl rfl)))) _) (g.1.2.1.cg ?_ ?_) ?_ ?_
    · rw [mst_row, mst_row, e92b]
    · rw [pk_un (by omega), pk_un (by omega)]
    · rw [pk_un (by omega), pk_un (by omega)]
    · rw [pk_un (by omega), pk_un (by omega)]
    · intro j hj; rw [pk_un (by omega), pk_un (by omega)]
-- sums
def sm (f : Nat → Int32) : Nat → Int32
  | 0 => 0
  | k + 1 => sm f k + f k
theorem S_sumL {m : Mm} {o n : Nat} (hn : n < 1000) : ∀ (d k F : Nat), k + d = n → d < F → f_S_sum_L10 o n F (sm (m o) k) (nI n) (nI k) m = some (sm (m o) n, nI n)
  | 0, k, F, h, hF => by
    obtain ⟨F, rfl⟩ : ∃ f, F = f + 1 := ⟨F - 1, by omega⟩
    have : k = n := by omega
    subst this
    rw [f_S_sum_L10, if_pos (nI_le (Nat.le_refl _) (by omega))]
  | d + 1, k, F, h, hF => by
    obtain ⟨F, rfl⟩ : ∃ f, F = f + 1 := ⟨F - 1, by omega⟩
    rw [f_S_sum_L10, if_neg (nI_ge (by omega) (by omega)), if_pos (inb_nI (by omega) (by omega)), ix_nI (by omega), lt_eq, lt_eq, nI_1]
    exact S_sumL hn d (k + 1) F (by omega) (by omega)
theorem S_sum {m : Mm} {o n N : Nat} (hn : n < 97) (hN : 97 ≤ N) : f_S_sum N o n m = some (sm (m o) n) := by
  unfold f_S_sum
  rw [lt_eq, show f_S_sum_L10 o n N 0 (Int32.ofNat n) 0 m = _ from S_sumL (m := m) (o := o) (n := n) (by omega) n 0 N (by omega) (by omega)]
  rfl
theorem M_sumL {m : Mm} {w : Nat} (hw : w < 4) : ∀ (d k F : Nat), k + d = 6 → d < F → f_M_sumOf_L4 F (nI w) (sm (fun t => m 92 (10 + 4 * t + w)) k) (nI k) m = some (sm (fun t => m 92 (10 + 4 * t + w)) 6, nI 6)
  | 0, k, F, h, hF => by
    obtain ⟨F, rfl⟩ : ∃ f, F = f + 1 := ⟨F - 1, by omega⟩
    have : k = 6 := by omega
    subst this
    rw [f_M_sumOf_L4, if_pos (l_le (n := 6) (by omega) (by decide))]
  | d + 1, k, F, h, hF => by
    obtain ⟨F, rfl⟩ : ∃ f, F = f + 1 := ⟨F - 1, by omega⟩
    rw [f_M_sumOf_L4, if_neg (l_ge (n := 6) (by omega) (by decide)), M_at0g (by omega) hw, bp_some, lt_eq, nI_1]
    exact M_sumL hw d (k + 1) F (by omega) (by omega)
theorem M_sumOf {m : Mm} {w N : Nat} (hw : w < 4) (hN : 97 ≤ N) : f_M_sumOf N (nI w) m = some (sm (fun t => m 92 (10 + 4 * t + w)) 6) := by
  unfold f_M_sumOf
  rw [show f_M_sumOf_L4 N (nI w) 0 0 m = _ from M_sumL (m := m) hw 6 0 N (by omega) (by omega)]
  rfl
theorem sm_cg {f h : Nat → Int32} : ∀ n, (∀ k, k < n → f k = h k) → sm f n = sm h n
  | 0, _ => rfl
  | n + 1, q => by unfold sm; rw [sm_cg n (fun k hk => q k (by omega)), q n (by omega)]
/-- the sums of a picture's rows -/
theorem sum_done {p : Nat} {c : Mm} {r : Row} (hE : Eqv p c r) : sm (c (p + 6)) 6 = sm (fun t => r (10 + 4 * t + 1)) 6 := sm_cg 6 (fun k hk => by rw [e_done hE hk]; congr 1; omega)
theorem sum_faults {p : Nat} {c : Mm} {r : Row} (hE : Eqv p c r) : sm (c (p + 7)) 6 = sm (fun t => r (10 + 4 * t + 2)) 6 := sm_cg 6 (fun k hk => by rw [e_faults hE hk]; congr 1; omega)
theorem sum_wiped {p : Nat} {c : Mm} {r : Row} (hE : Eqv p c r) : sm (c (p + 8)) 6 = sm (fun t => r (10 + 4 * t + 3)) 6 := sm_cg 6 (fun k hk => by rw [e_wiped hE hk]; congr 1; omega)
theorem ok_grains {m : Mm} (g : Good m) (a : Int32) {N : Nat} (hN : 97 ≤ N) : Ok0 (f_S_grains N a) (f_M_grains N a) m := by
  have hE := g.1.1.1
  unfold Ok0 f_S_grains f_M_grains
  by_cases h0 : a = 0
  · rw [if_pos h0, if_pos h0, ixc_4]; exact ⟨_, rfl, by rw [e_spilt hE]⟩
  rw [if_neg h0, if_neg h0]
  by_cases h1 : a = 1
  · rw [if_pos h1, if_pos h1, S_sum (by decide) hN, bp_some, show f_M_sumOf N 1 m = _ from M_sumOf (w := 1) (by decide) hN, bp_some]; exact ⟨_, rfl, by rw [show sm (m 44) 6 = _ from sum_done hE]⟩
  rw [if_neg h1, if_neg h1]
  by_cases h2 : a = 2
  · rw [if_pos h2, if_pos h2, h2, if_pos (by decide), show (5 : Int32) + 2 = 7 from by decide, ixc_0, ixc_7]; exact ⟨_, rfl, by rw [show m 47 0 = m 92 7 from e_sand hE (i := 0) (by decide)]⟩
  rw [if_neg h2, if_neg h2]
  by_cases h3 : a = 3
  · rw [if_pos h3, if_pos h3, h3, if_pos (by decide), show (5 : Int32) + 3 = 8 from by decide, ixc_1, ixc_8]; exact ⟨_, rfl, by rw [show m 47 1 = m 92 8 from e_sand hE (i := 1) (by decide)]⟩
  rw [if_neg h3, if_neg h3]
  by_cases h4 : a = 4
  · rw [if_pos h4, if_pos h4, h4, if_pos (by decide), show (5 : Int32) + 4 = 9 from by decide, ixc_2, ixc_9]; exact ⟨_, rfl, by rw [show m 47 2 = m 92 9 from e_sand hE (i := 2) (by decide)]⟩
  rw [if_neg h4, if_neg h4]
  by_cases h5 : a = 5
  · rw [if_pos h5, if_pos h5, S_sum (by decide) hN, bp_some, show f_M_sumOf N 2 m = _ from M_sumOf (w := 2) (by decide) hN, bp_some]; exact ⟨_, rfl, by rw [show sm (m 45) 6 = _ from sum_faults hE]⟩
  rw [if_neg h5, if_neg h5]
  by_cases h6 : a = 6
  · rw [if_pos h6, if_pos h6, S_sum (by decide) hN, bp_some, show f_M_sumOf N 3 m = _ from M_sumOf (w := 3) (by decide) hN, bp_some]; exact ⟨_, rfl, by rw [show sm (m 46) 6 = _ from sum_wiped hE]⟩
  rw [if_neg h6, if_neg h6]
  by_cases h7 : a = 7
  · rw [if_pos h7, if_pos h7, ixc_5]; exact ⟨_, rfl, by rw [e_ends hE]⟩
  rw [if_neg h7, if_neg h7]
  exact ⟨_, rfl, rfl⟩
def pz (f : Nat → Int32) : Nat → Int32 := fun k => if f k ≤ 0 then (0 : Int32) else 1
theorem S_abvL {m : Mm} {o n : Nat} (hn : n < 1000) : ∀ (d k F : Nat), k + d = n → d < F → f_S_howManyAboveZero_L10 o n F (sm (pz (m o)) k) (nI n) (nI k) m = some (sm (pz (m o)) n, nI n)
  | 0, k, F, h, hF => by
    obtain ⟨F, rfl⟩ : ∃ f, F = f + 1 := ⟨F - 1, by omega⟩
    have : k = n := by omega
    subst this
    rw [f_S_howManyAboveZero_L10, if_pos (nI_le (Nat.le_refl _) (by omega))]
  | d + 1, k, F, h, hF => by
    obtain ⟨F, rfl⟩ : ∃ f, F = f + 1 := ⟨F - 1, by omega⟩
    rw [f_S_howManyAboveZero_L10, if_neg (nI_ge (by omega) (by omega)), if_pos (inb_nI (by omega) (by omega)), ix_nI (by omega), lt_eq, lt_eq, nI_1]
    exact S_abvL hn d (k + 1) F (by omega) (by omega)
theorem M_fauL {m : Mm} : ∀ (d k F : Nat), k + d = 6 → d < F → f_M_faulty_L4 F (sm (pz (fun t => m 92 (12 + 4 * t))) k) (nI k) m = some (sm (pz (fun t => m 92 (12 + 4 * t))) 6, nI 6)
  | 0, k, F, h, hF => by
    obtain ⟨F, rfl⟩ : ∃ f, F = f + 1 := ⟨F - 1, by omega⟩
    have : k = 6 := by omega
    subst this
    rw [f_M_faulty_L4, if_pos (l_le (n := 6) (by omega) (by decide))]
  | d + 1, k, F, h, hF => by
    obtain ⟨F, rfl⟩ : ∃ f, F = f + 1 := ⟨F - 1, by omega⟩
    rw [f_M_faulty_L4, if_neg (l_ge (n := 6) (by omega) (by decide)), M_at02 (by omega), bp_some, lt_eq, nI_1]
    exact M_fauL d (k + 1) F (by omega) (by omega)
theorem ok_count {m : Mm} (g : Good m) (a : Int32) {N : Nat} (hN : 97 ≤ N) : Ok0 (f_S_count N a) (f_M_count N a) m := by
  have hE := g.1.1.1
  unfold Ok0 f_S_count f_M_count
  by_cases h0 : a = 0
  · rw [if_pos h0, if_pos h0, ixc_1]; exact ⟨_, rfl, by rw [e_monks hE]⟩
  rw [if_neg h0, if_neg h0]
  by_cases h1 : a = 1
  · rw [if_pos h1, if_pos h1, ixc_2]; exact ⟨_, rfl, by rw [e_hour hE]⟩
  rw [if_neg h1, if_neg h1]
  by_cases h2 : a = 2
  · rw [if_pos h2, if_pos h2, ixc_3]; exact ⟨_, rfl, by rw [e_wind hE]⟩
  rw [if_neg h2, if_neg h2]
  by_cases h3 : a = 3
  · rw [if_pos h3, if_pos h3]
    unfold f_S_howManyAboveZero f_M_faulty
    rw [lt_eq, show f_S_howManyAboveZero_L10 45 6 N 0 (Int32.ofNat 6) 0 m = _ from S_abvL (m := m) (o := 45) (n := 6) (by omega) 6 0 N (by omega) (by omega), show f_M_faulty_L4 N 0 0 m = _ from M_fauL (m := m) 6 0 N (by omega) (by omega)]
    refine ⟨_, rfl, ?_⟩
    show some (sm (pz (fun t => m 92 (12 + 4 * t))) 6) = some (sm (pz (m 45)) 6)
    rw [sm_cg 6 (f := pz (m 45)) (h := pz (fun t => m 92 (12 + 4 * t))) (fun k hk => by unfold pz; rw [show m 45 k = _ from e_faults hE hk])]
  rw [if_neg h3, if_neg h3]
  by_cases h4 : a = 4
  · rw [if_pos h4, if_pos h4, ixc_6]; exact ⟨_, rfl, by rw [e_tc hE]⟩
  rw [if_neg h4, if_neg h4]
  by_cases h5 : a = 5
  · obtain ⟨n, q1, q2, q3, q4⟩ := g.2.2.2.1
    rw [if_pos h5, if_pos h5, q2, q3]; exact ⟨_, rfl, rfl⟩
  rw [if_neg h5, if_neg h5]
  by_cases h6 : a = 6
  · obtain ⟨n, q1, q2, q3, q4⟩ := g.2.2.1
    rw [if_pos h6, if_pos h6, q2, q3]; exact ⟨_, rfl, rfl⟩
  rw [if_neg h6, if_neg h6]
  by_cases h7 : a = 7
  · rw [if_pos h7, if_pos h7, ixc_0]; exact ⟨_, rfl, by rw [e_z hE]⟩
  rw [if_neg h7, if_neg h7]
  exact ⟨_, rfl, rfl⟩
