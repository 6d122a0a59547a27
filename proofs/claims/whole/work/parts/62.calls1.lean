/-! PURE: the plain calls on now -/
theorem nz1 : ¬ (1 : Int32) = 0 := by decide
def aAdd (r : Row) (M : Nat) (a b d : Int32) : Row := upd (upd (upd (upd r (34 + 3 * M) a) (35 + 3 * M) b) (36 + 3 * M) d) 1 (nI (M + 1))
theorem aAdd_inv {r : Row} (hI : Inv 999 r) {M pa t : Nat} (hM : M < 10) (a : Int32) (hpa : pa ≤ 99) (ht : t < 6) : Inv 999 (aAdd r M a (nI pa) (nI t)) ∧ aAdd r M a (nI pa) (nI t) 6 = r 6 ∧ aAdd r M a (nI pa) (nI t) 2 = r 2 ∧ aAdd r M a (nI pa) (nI t) 5 = r 5 ∧ ∀ j, 64 ≤ j → aAdd r M a (nI pa) (nI t) j = r j := by
  unfold aAdd
  refine ⟨(((hI.free (Or.inr (Or.inr (Or.inr (Or.inr (Or.inr (Or.inr ⟨M, hM, rfl⟩)))))) a).pace hM hpa).at hM ht).monks (by omega), ?_, ?_, ?_, fun j hj => ?_⟩
  all_goals rw [pk_un (by omega), pk_un (by omega), pk_un (by omega), pk_un (by omega)]
theorem P_add {p : Nat} {c : Mm} {r : Row} (hp : isP p) (hE : Eqv p c r) {M : Nat} (hM : M < 10) (eM : r 1 = nI M) (a b d : Int32) : ∃ c2, f_P_addMonk p a b d c = some (nI M, c2) ∧ Eqv p c2 (aAdd r M a b d) ∧ PF p c c2 := by
  have hg := hp.g
  have e4 : c p 4 = nI M := (e_monks hE).trans eM
  unfold f_P_addMonk
  rw [e4, if_pos (r_lt (n := 10) hM (by decide)), if_pos (inb_nI hM (by decide)), ix_nI (by omega)]
  simp only [lt_eq]
  have e5 : ∀ v, mst c (p + 2) M v p 4 = nI M := fun v => by rw [mst_ck (by omega)]; exact e4
  have e6 : ∀ v w, mst (mst c (p + 2) M v) (p + 3) M w p 4 = nI M := fun v w => by rw [mst_ck (by omega)]; exact e5 v
  have e7 : ∀ v w x, mst (mst (mst c (p + 2) M v) (p + 3) M w) (p + 4) M x p 4 = nI M := fun v w x => by rw [mst_ck (by omega)]; exact e6 v w
  rw [e5, if_pos (inb_nI hM (by decide)), ix_nI (by omega), e6, if_pos (inb_nI hM (by decide)), ix_nI (by omega), e7, mst_at, nI_1, nI_pred]
  refine ⟨_, rfl, u_monks (u_at (u_pace (u_kind hE hM a) hM b) hM d) _, ?_⟩
  exact (((PF.rf.put (p + 2) M a ⟨by omega, by omega, by omega⟩ (Or.inl (by omega))).put (p + 3) M b ⟨by omega, by omega, by omega⟩ (Or.inl (by omega))).put (p + 4) M d ⟨by omega, by omega, by omega⟩ (Or.inl (by omega))).put p 4 _ ⟨by omega, by omega, by omega⟩ (Or.inr (by decide))
theorem M_add {m : Mm} {M : Nat} (hM : M < 10) (eM : m 92 1 = nI M) (a b d : Int32) : ∃ m2, f_M_comes a b d m = some (nI M, m2) ∧ m2 92 = aAdd (m 92) M a b d ∧ MF m m2 := by
  unfold f_M_comes
  have e0 : (34 : Int32) + 3 * nI M = nI (34 + 3 * M) := by rw [show (34 : Int32) = nI 34 from rfl, show (3 : Int32) = nI 3 from rfl, pk_mul, nI_add]
  have e1 : nI (34 + 3 * M) + 1 = nI (35 + 3 * M) := by rw [nI_1]; congr 1; omega
  have e2 : nI (34 + 3 * M) + 2 = nI (36 + 3 * M) := by rw [show (2 : Int32) = nI 2 from rfl, nI_add]; congr 1; omega
  rw [ixc_1, eM, e0, lt_eq, e1, e2, if_pos (inb_nI (by omega) (by decide)), ix_nI (by omega), ix_nI (by omega), ix_nI (by omega)]
  simp only [lt_eq]
  rw [if_pos (inb_nI (by omega) (by decide)), if_pos (inb_nI (by omega) (by decide))]
  have e7 : mst (mst (mst m 92 (34 + 3 * M) a) 92 (35 + 3 * M) b) 92 (36 + 3 * M) d 92 1 = nI M := by rw [mst_ne (Or.inr (by omega)), mst_ne (Or.inr (by omega)), mst_ne (Or.inr (by omega))]; exact eM
  rw [e7, mst_at, nI_1, nI_pred]
  refine ⟨_, rfl, ?_, (((MF.rf.put _ _).put _ _).put _ _).put _ _⟩
  unfold aAdd
  simp only [mst_row]
theorem HB.cg {r r2 : Row} (h : HB r) (h2 : r2 2 = r 2) (h5 : r2 5 = r 5) : HB r2 := by
  obtain ⟨a, b, q1, q2, q3, q4⟩ := h
  exact ⟨a, b, q1, q2, h2.trans q3, h5.trans q4⟩
theorem ok_monk {m : Mm} (g : Good m) (a b c : Int32) : Ok2 (f_S_monk a b c) (f_M_monk a b c) m := by
  unfold Ok2 f_S_monk f_M_monk
  rcases kn_cases a with ⟨k, hk, rfl, s1, s2⟩ | ⟨s1, s2⟩
  case inr => exact ⟨_, m, m, by rw [s1, bp_some, if_pos rfl], by rw [s2, bp_some, if_pos rfl], g⟩
  rcases wi_cases b (lo := 1) (hi := 99) (by decide) (by decide) with ⟨pa, h1, h2, rfl, t1, t2⟩ | ⟨t1, t2⟩
  case inr => exact ⟨_, m, m, by rw [s1, bp_some, if_neg nz1, show f_S_within b 1 99 = _ from t1, bp_some, if_pos rfl], by rw [s2, bp_some, if_neg nz1, show f_M_in b 1 99 = _ from t2, bp_some, if_pos rfl], g⟩
  rcases tb_cases c with ⟨t, ht, rfl, u1, u2⟩ | ⟨u1, u2⟩
  case inr => exact ⟨_, m, m, by rw [s1, bp_some, if_neg nz1, show f_S_within (nI pa) 1 99 = _ from t1, bp_some, if_neg nz1, u1, bp_some, if_pos rfl], by rw [s2, bp_some, if_neg nz1, show f_M_in (nI pa) 1 99 = _ from t2, bp_some, if_neg nz1, u2, bp_some, if_pos rfl], g⟩
  rw [s1, bp_some, if_neg nz1, show f_S_within (nI pa) 1 99 = _ from t1, bp_some, if_neg nz1, u1, bp_some, if_neg nz1]
  simp only [s2, bp_some, if_neg nz1, show f_M_in (nI pa) 1 99 = some 1 from t2, u2]
  obtain ⟨M, hM, eM⟩ := g.1.1.2.2.2.1
  have e4 : m 38 4 = nI M := (e_monks g.1.1.1).trans eM
  rcases Nat.lt_or_ge M 10 with h10 | h10
  · obtain ⟨c2, w1, w2, w3⟩ := P_add (Or.inl rfl) g.1.1.1 h10 eM (nI k) (nI pa) (nI t)
    rw [e4, if_pos (r_lt (n := 10) h10 (by decide)), w1, bd_some]
    have e92 : c2 92 = m 92 := w3.1 92 (by omega) (by omega)
    obtain ⟨m2, v1, v2, v3⟩ := M_add (m := c2) h10 (by rw [e92]; exact eM) (nI k) (nI pa) (nI t)
    refine ⟨nI M, c2, m2, rfl, ?_, ?_⟩
    · rw [ixc_1, e92, eM, if_neg (fun q => by rw [r_eq (n := 10) (by omega) (by decide)] at q; omega), v1, bd_some]
    · obtain ⟨z1, z2, z3, z4, z5⟩ := aAdd_inv g.1.1.2.2.2 h10 (nI k) h2 ht
      rw [e92] at v2
      exact g.now w3 w2 v3 v2 z1 (g.1.2.1.cg z3 z4) z2 z5
  · have : M = 10 := by omega
    subst this
    rw [e4, if_neg (by decide)]
    exact ⟨_, m, m, rfl, by rw [ixc_1, eM, if_pos (show nI 10 = 10 from rfl)], g⟩
theorem M_worth {m : Mm} {k : Nat} (hk10 : k < 10) : f_M_worthOf (nI k) m = f_K_worth (m 92 (34 + 3 * k)) (m 92 (35 + 3 * k)) := by
  unfold f_M_worthOf f_K_worth
  rw [M_of1 hk10, bp_some, M_of0 hk10, bp_some]
  have e9 : (99 : Int32) - m 92 (35 + 3 * k) - 9 = 90 - m 92 (35 + 3 * k) := by
    rw [Int32.sub_eq_add_neg, Int32.sub_eq_add_neg, Int32.sub_eq_add_neg, Int32.add_assoc, Int32.add_comm (-m 92 (35 + 3 * k)), ← Int32.add_assoc]
    rfl
  rw [e9]
theorem K_worth (a b : Int32) : ∃ v, f_K_worth a b = some v := by
  unfold f_K_worth
  repeat' split
  all_goals exact ⟨_, rfl⟩
theorem out_lit {b : Int32} {lo hi w : Nat} (h : f_M_in b (nI lo) (nI hi) = some 0) (h1 : lo ≤ w) (h2 : w ≤ hi) (hh : hi < 2 ^ 31) : ¬ b = (OfNat.ofNat w : Int32) := by
  intro e
  have e : b = nI w := e
  subst e
  have t3 : f_M_in (nI w) (nI lo) (nI hi) = some 1 := by
    unfold f_M_in
    rw [if_neg (nI_nlt h1 (by omega)), if_neg (nI_nlt h2 (by omega))]
  rw [t3] at h
  exact absurd (Option.some.inj h) (by decide)
theorem ok_told {m : Mm} (g : Good m) (a b : Int32) : Ok0 (f_S_told a b) (f_M_told a b) m := by
  unfold Ok0 f_S_told f_M_told
  rcases mk_cases g a with ⟨k, M, hk, hM, eM, rfl, s1, s2⟩ | ⟨s1, s2⟩
  case inr => exact ⟨_, by rw [s1, bp_some, if_pos rfl], by rw [s2 m rfl, bp_some, if_pos rfl]⟩
  rw [s1, bp_some, if_neg nz1, s2 m rfl, bp_some, if_neg nz1]
  have hk10 : k < 10 := by omega
  have e0 : m 40 k = m 92 (34 + 3 * k) := e_kind g.1.1.1 hk10
  have e1 : m 41 k = m 92 (35 + 3 * k) := e_pace g.1.1.1 hk10
  have e2 : m 42 k = m 92 (36 + 3 * k) := e_at g.1.1.1 hk10
  have ib : inb (nI k) 10 = true := inb_nI hk10 (by decide)
  rw [if_pos ib, if_pos ib, if_pos ib, if_pos ib, ix_nI (by omega), e0, e1, e2]
  rcases wi_cases b (lo := 0) (hi := 3) (by decide) (by decide) with ⟨w, h1, h2, rfl, t1, t2⟩ | ⟨t1, t2⟩
  · rw [show f_M_in (nI w) 0 3 = _ from t2, bp_some, if_neg nz1]
    match w, h2 with
    | 0, _ => exact ⟨_, if_pos (show nI 0 = 0 from rfl), by rw [if_neg (by decide), show f_M_of (nI k) (nI 0) m = _ from M_of0 hk10]; rfl⟩
    | 1, _ => exact ⟨_, by rw [if_neg (by decide), if_pos (show nI 1 = 1 from rfl)], by rw [if_neg (by decide), show f_M_of (nI k) (nI 1) m = _ from M_of1 hk10]; rfl⟩
    | 2, _ => exact ⟨_, by rw [if_neg (by decide), if_neg (by decide), if_pos (show nI 2 = 2 from rfl)], by rw [if_neg (by decide), show f_M_of (nI k) (nI 2) m = _ from M_of2 hk10]; rfl⟩
    | 3, _ =>
      rw [if_neg (by decide), if_neg (by decide), if_neg (by decide), if_pos (show nI 3 = 3 from rfl), if_pos (show (3 : Int32) ≤ nI 3 by decide)]
      obtain ⟨v, hv⟩ := K_worth (m 92 (34 + 3 * k)) (m 92 (35 + 3 * k))
      rw [M_worth hk10, hv]
      exact ⟨v, rfl, rfl⟩
  · rw [show f_M_in b 0 3 = _ from t2, bp_some, if_pos rfl]
    rw [if_neg (out_lit (w := 0) t2 (by omega) (by omega) (by decide)), if_neg (out_lit (w := 1) t2 (by omega) (by omega) (by decide)), if_neg (out_lit (w := 2) t2 (by omega) (by omega) (by decide)), if_neg (out_lit (w := 3) t2 (by omega) (by omega) (by decide))]
    exact ⟨_, rfl, rfl⟩
theorem K_under (k o : Int32) : f_K_isUnder k o = f_M_isUnder k o := by
  unfold f_K_isUnder f_M_isUnder f_K_above
  rw [bp_some]
  by_cases h0 : o = 0
  · rw [if_pos h0, if_pos h0]
  rw [if_neg h0, if_neg h0]
  by_cases h1 : k = o
  · rw [if_pos h1, if_pos h1]
  rw [if_neg h1, if_neg h1]
  by_cases h3 : k = 3
  · rw [if_pos h3, if_pos h3, if_neg (fun q => absurd (h3.symm.trans q) (by decide))]
    by_cases o1 : o = 1
    · rw [if_pos o1, if_pos o1.symm]
    · rw [if_neg o1, if_neg (fun q => o1 q.symm)]
      by_cases o2 : o = 2
      · rw [if_pos o2]
      · rw [if_neg o2]
  · rw [if_neg h3, if_neg h3]
    by_cases h4 : k = 4
    · rw [if_pos h4, if_pos h4]
      by_cases o1 : o = 1
      · rw [if_pos o1, if_neg (fun q => by rw [o1] at q; exact absurd q (by decide)), if_neg (fun q => by rw [o1] at q; exact absurd q (by decide))]
      · rw [if_neg o1]
        by_cases o2 : o = 2
        · rw [if_pos o2, if_pos o2.symm]
        · rw [if_neg o2, if_neg (fun q => o2 q.symm)]
    · rw [if_neg h4, if_neg h4, if_neg (fun q => h0 q.symm)]
      by_cases o1 : o = 1
      · rw [if_pos o1]
        by_cases o2 : o = 2
        · rw [if_pos o2]
        · rw [if_neg o2]
      · rw [if_neg o1]
        by_cases o2 : o = 2
        · rw [if_pos o2]
        · rw [if_neg o2]
theorem M_under (k o : Int32) : ∃ v, f_M_isUnder k o = some v := ⟨_, rfl⟩
theorem ok_as {m : Mm} (g : Good m) (a b : Int32) : Ok0 (f_S_as a b) (f_M_as a b) m := by
  unfold Ok0 f_S_as f_M_as
  rcases mk_cases g a with ⟨k, M, hk, hM, eM, rfl, s1, s2⟩ | ⟨s1, s2⟩
  case inr => exact ⟨_, by rw [s1, bp_some, if_pos rfl], by rw [s2 m rfl, bp_some, if_pos rfl]⟩
  rw [s1, bp_some, if_neg nz1, s2 m rfl, bp_some, if_neg nz1]
  rcases kn_cases b with ⟨w, hw, rfl, t1, t2⟩ | ⟨t1, t2⟩
  case inr => exact ⟨_, by rw [t1, bp_some, if_pos rfl], by rw [t2, bp_some, if_pos rfl]⟩
  have hk10 : k < 10 := by omega
  have e0 : m 40 k = m 92 (34 + 3 * k) := e_kind g.1.1.1 hk10
  have e1 : m 41 k = m 92 (35 + 3 * k) := e_pace g.1.1.1 hk10
  rw [t1, bp_some, if_neg nz1, t2, bp_some, if_neg nz1, if_pos (inb_nI hk10 (by decide)), ix_nI (by omega), e0, e1, K_under, M_of0 hk10, bp_some, M_of1 hk10, bp_some]
  obtain ⟨v, hv⟩ := M_under (m 92 (34 + 3 * k)) (nI w)
  rw [hv, bp_some, bp_some]
  by_cases q : v = 0
  · rw [if_pos q, if_pos q]; exact ⟨_, rfl, rfl⟩
  · rw [if_neg q, if_neg q]; exact ⟨_, rfl, rfl⟩
theorem M_becomes {m : Mm} {j : Nat} (h : j < 1436) (v : Int32) : f_M_becomes (nI j) v m = some (m 92 j, mst m 92 j v) := by
  unfold f_M_becomes
  rw [if_pos (inb_nI h (by decide)), ix_nI (by omega)]
  rfl
/-- one place of now's row is set, in the class and in the reference -/
theorem Good.set1 {m : Mm} (g : Good m) {k i j : Nat} {v : Int32} (hk : 38 ≤ k ∧ k ≤ 47 ∧ k ≠ 39) (hi : k ≠ 38 ∨ i ≠ 18) (hE : Eqv 38 (mst m k i v) (upd (m 92) j v)) (hI : Inv 999 (upd (m 92) j v)) (h2 : j ≠ 2 ∧ j ≠ 5 ∧ j ≠ 6 ∧ j < 64) : Good (mst (mst m k i v) 92 j v) := by
  refine g.now (PF.rf.put k i v ⟨by omega, by omega, by omega⟩ hi) hE (MF.rf.put j v) ?_ hI (g.1.2.1.cg (pk_un (by omega)) (pk_un (by omega))) (pk_un (by omega)) (fun q hq => pk_un (by omega))
  rw [mst_row, mst_ck (by omega)]
theorem ok_turns {m : Mm} (g : Good m) (a b : Int32) : Ok2 (f_S_turns a b) (f_M_turns a b) m := by
  unfold Ok2 f_S_turns f_M_turns
  rcases mk_cases g a with ⟨k, M, hk, hM, eM, rfl, s1, s2⟩ | ⟨s1, s2⟩
  case inr => exact ⟨_, m, m, by rw [s1, bp_some, if_pos rfl], by rw [s2 m rfl, bp_some, if_pos rfl], g⟩
  rcases kn_cases b with ⟨w, hw, rfl, t1, t2⟩ | ⟨t1, t2⟩
  case inr => exact ⟨_, m, m, by rw [s1, bp_some, if_neg nz1, t1, bp_some, if_pos rfl], by rw [s2 m rfl, bp_some, if_neg nz1, t2, bp_some, if_pos rfl], g⟩
  have hk10 : k < 10 := by omega
  have e0 : m 40 k = m 92 (34 + 3 * k) := e_kind g.1.1.1 hk10
  have ex : (34 : Int32) + 3 * nI k = nI (34 + 3 * k) := by rw [show (34 : Int32) = nI 34 from rfl, show (3 : Int32) = nI 3 from rfl, pk_mul, nI_add]
  rw [s1, bp_some, if_neg nz1, t1, bp_some, if_neg nz1, if_pos (inb_nI hk10 (by decide)), ix_nI (by omega), e0, lt_eq, lt_eq]
  refine ⟨_, _, _, rfl, ?_, g.set1 (k := 40) (i := k) (j := 34 + 3 * k) (v := nI w) ⟨by omega, by omega, by omega⟩ (Or.inl (by omega)) (u_kind g.1.1.1 hk10 _) (g.1.1.2.2.2.free (Or.inr (Or.inr (Or.inr (Or.inr (Or.inr (Or.inr ⟨k, hk10, rfl⟩)))))) _) ⟨by omega, by omega, by omega, by omega⟩⟩
  rw [s2 _ (by rw [mst_ck (by decide)]), bp_some, if_neg nz1, t2, bp_some, if_neg nz1, ex, M_becomes (by omega), bd_some, mst_ck (k2 := 92) (by decide)]
theorem ok_set {m : Mm} (g : Good m) (a b c : Int32) : Ok2 (f_S_set a b c) (f_M_set a b c) m := by
  unfold Ok2 f_S_set f_M_set
  rcases mk_cases g a with ⟨k, M, hk, hM, eM, rfl, s1, s2⟩ | ⟨s1, s2⟩
  case inr => exact ⟨_, m, m, by rw [s1, bp_some, if_pos rfl], by rw [s2 m rfl, bp_some, if_pos rfl], g⟩
  rw [s1, bp_some, if_neg nz1]
  have hk10 : k < 10 := by omega
  rcases wi_cases b (lo := 1) (hi := 2) (by decide) (by decide) with ⟨w, h1, h2, rfl, t1, t2⟩ | ⟨t1, t2⟩
  · match w, h1, h2 with
    | 1, _, _ =>
      rw [if_pos (show nI 1 = 1 from rfl)]
      have hm : ∀ m2 : Mm, m2 92 1 = m 92 1 → (bp (f_M_isMonk (nI k) m2) fun r_2 => if r_2 = 0 then some ((-1000000001 : Int32), m2) else bp (f_M_in (nI 1) 1 2) fun r_11 => if r_11 = 0 then some ((-1000000001), m2) else bp (f_M_in c (if nI 1 = 1 then (1 : Int32) else 0) (if nI 1 = 1 then (99 : Int32) else 5)) fun r_39 => if r_39 = 0 then some ((-1000000001), m2) else bd (f_M_becomes ((34 + (3 * nI k)) + nI 1) c m2) fun r_58 m_58 => some (r_58, m_58)) = bp (f_M_in c 1 99) fun r_39 => if r_39 = 0 then some ((-1000000001), m2) else bd (f_M_becomes (nI (35 + 3 * k)) c m2) fun r_58 m_58 => some (r_58, m_58) := by
        intro m2 q
        rw [s2 m2 q, bp_some, if_neg nz1, show f_M_in (nI 1) 1 2 = some 1 from t2, bp_some, if_neg nz1, if_pos (show nI 1 = 1 from rfl), if_pos (show nI 1 = 1 from rfl), show (34 : Int32) + 3 * nI k + nI 1 = _ from ixM1 k]
      rcases wi_cases c (lo := 1) (hi := 99) (by decide) (by decide) with ⟨v, v1, v2, rfl, u1, u2⟩ | ⟨u1, u2⟩
      · rw [show f_S_within (nI v) 1 99 = _ from u1, bp_some, if_neg nz1, if_pos (inb_nI hk10 (by decide)), ix_nI (by omega), lt_eq, lt_eq]
        refine ⟨_, _, _, rfl, ?_, g.set1 (k := 41) (i := k) (j := 35 + 3 * k) (v := nI v) ⟨by omega, by omega, by omega⟩ (Or.inl (by omega)) (u_pace g.1.1.1 hk10 _) (g.1.1.2.2.2.pace hk10 v2) ⟨by omega, by omega, by omega, by omega⟩⟩
        rw [hm _ (by rw [mst_ck (by decide)]), show f_M_in (nI v) 1 99 = _ from u2, bp_some, if_neg nz1, M_becomes (by omega), bd_some, mst_ck (k2 := 92) (by decide), show m 41 k = m 92 (35 + 3 * k) from e_pace g.1.1.1 hk10]
      · rw [show f_S_within c 1 99 = _ from u1, bp_some, if_pos rfl, if_neg (by decide)]
        exact ⟨_, m, m, rfl, by rw [hm _ rfl, show f_M_in c 1 99 = _ from u2, bp_some, if_pos rfl], g⟩
    | 2, _, _ =>
      rw [if_neg (by decide), if_pos (show nI 2 = 2 from rfl)]
      have hm : ∀ m2 : Mm, m2 92 1 = m 92 1 → (bp (f_M_isMonk (nI k) m2) fun r_2 => if r_2 = 0 then some ((-1000000001 : Int32), m2) else bp (f_M_in (nI 2) 1 2) fun r_11 => if r_11 = 0 then some ((-1000000001), m2) else bp (f_M_in c (if nI 2 = 1 then (1 : Int32) else 0) (if nI 2 = 1 then (99 : Int32) else 5)) fun r_39 => if r_39 = 0 then some ((-1000000001), m2) else bd (f_M_becomes ((34 + (3 * nI k)) + nI 2) c m2) fun r_58 m_58 => some (r_58, m_58)) = bp (f_M_in c 0 5) fun r_39 => if r_39 = 0 then some ((-1000000001), m2) else bd (f_M_becomes (nI (36 + 3 * k)) c m2) fun r_58 m_58 => some (r_58, m_58) := by
        intro m2 q
        rw [s2 m2 q, bp_some, if_neg nz1, show f_M_in (nI 2) 1 2 = some 1 from t2, bp_some, if_neg nz1, if_neg (by decide), if_neg (by decide), show (34 : Int32) + 3 * nI k + nI 2 = _ from ixM2 k]
      rcases wi_cases c (lo := 0) (hi := 5) (by decide) (by decide) with ⟨v, v1, v2, rfl, u1, u2⟩ | ⟨u1, u2⟩
      · have u3 : f_S_isTable (nI v) = some 1 := by unfold f_S_isTable; rw [show f_S_within (nI v) 0 5 = _ from u1]; rfl
        rw [u3, bp_some, if_neg nz1, if_pos (inb_nI hk10 (by decide)), ix_nI (by omega), lt_eq, lt_eq]
        refine ⟨_, _, _, rfl, ?_, g.set1 (k := 42) (i := k) (j := 36 + 3 * k) (v := nI v) ⟨by omega, by omega, by omega⟩ (Or.inl (by omega)) (u_at g.1.1.1 hk10 _) (g.1.1.2.2.2.at hk10 (by omega)) ⟨by omega, by omega, by omega, by omega⟩⟩
        rw [hm _ (by rw [mst_ck (by decide)]), show f_M_in (nI v) 0 5 = _ from u2, bp_some, if_neg nz1, M_becomes (by omega), bd_some, mst_ck (k2 := 92) (by decide), show m 42 k = m 92 (36 + 3 * k) from e_at g.1.1.1 hk10]
      · have u3 : f_S_isTable c = some 0 := by unfold f_S_isTable; rw [show f_S_within c 0 5 = _ from u1]; rfl
        rw [u3, bp_some, if_pos rfl]
        exact ⟨_, m, m, rfl, by rw [hm _ rfl, show f_M_in c 0 5 = _ from u2, bp_some, if_pos rfl], g⟩
    | 0, h, _ => omega
    | w + 3, _, h => omega
  · rw [if_neg (out_lit (w := 1) t2 (by omega) (by omega) (by decide)), if_neg (out_lit (w := 2) t2 (by omega) (by omega) (by decide))]
    exact ⟨_, m, m, rfl, by rw [s2 m rfl, bp_some, if_neg nz1, show f_M_in b 1 2 = _ from t2, bp_some, if_pos rfl], g⟩
