/-! PURE: feed -/
def byt (x : Int32) (i : Nat) : Nat := x.toBitVec.toNat / 2 ^ (24 - 8 * i) % 256
theorem byt_lt (x : Int32) (i : Nat) : byt x i < 256 := Nat.mod_lt _ (by decide)
theorem and255 (x : Int32) : x &&& 255 = nI (x.toBitVec.toNat % 256) := pk_and x 8 (by decide)
theorem ushr_b (x s : Int32) (k : Nat) (hs : ((s.toUInt32 &&& Int32.toUInt32 31).toBitVec % 32).toNat = k) : (x.toUInt32 >>> (s.toUInt32 &&& Int32.toUInt32 31)).toInt32 &&& 255 = nI (x.toBitVec.toNat / 2 ^ k % 256) := by
  rw [and255, pk_ushr x s k hs]
theorem shr_b (x s : Int32) (k : Nat) (hk : k = 0 ∨ k = 8 ∨ k = 16 ∨ k = 24) (hs : (s.toBitVec.smod 32).toNat = k) : (x >>> s) &&& 255 = nI (x.toBitVec.toNat / 2 ^ k % 256) := by
  rw [and255]
  congr 1
  have h := pk_shr x s k hs
  have h1 : (x >>> s).toInt = (x >>> s).toBitVec.toInt := rfl
  have h2 : x.toInt = x.toBitVec.toInt := rfl
  rw [h1, h2, BitVec.toInt_eq_toNat_cond, BitVec.toInt_eq_toNat_cond, Int.shiftRight_eq_div_pow] at h
  have l1 := (x >>> s).toBitVec.isLt
  have l2 := x.toBitVec.isLt
  generalize (x >>> s).toBitVec.toNat = A at *
  generalize x.toBitVec.toNat = B at *
  rcases hk with e | e | e | e <;> subst e <;> split at h <;> split at h <;> omega
theorem sh_ok : ∀ i, i < 4 → (((nI (24 - 8 * i)).toUInt32 &&& Int32.toUInt32 31).toBitVec % 32).toNat = 24 - 8 * i := by decide +kernel
theorem T_abL {x : Int32} {n0 : Nat} (h0 : n0 + 4 ≤ 96) : ∀ (d i F : Nat) (m : Mm), i + d = 4 → d < F → m 2 0 = nI (n0 + i) → ∃ m2 y, f_T_addBytes_L3 F x (nI (24 - 8 * i) - (if i = 4 then 8 else 0)) m = some (y, m2) ∧ m2 2 0 = nI (n0 + 4) ∧ (∀ j, i ≤ j → j < 4 → m2 3 (n0 + j) = nI (byt x j)) ∧ (∀ q, q < n0 + i ∨ n0 + 4 ≤ q → m2 3 q = m 3 q) ∧ (∀ j, j ≠ 0 → m2 2 j = m 2 j) ∧ ∀ q, q ≠ 2 → q ≠ 3 → m2 q = m q
  | 0, i, F, m, h, hF, e => by
    obtain ⟨F, rfl⟩ : ∃ f, F = f + 1 := ⟨F - 1, by omega⟩
    have : i = 4 := by omega
    subst this
    refine ⟨m, nI (24 - 8 * 4) - (if 4 = 4 then 8 else 0), ?_, e, fun j h1 h2 => by omega, fun _ _ => rfl, fun _ _ => rfl, fun _ _ _ => rfl⟩
    rw [f_T_addBytes_L3, if_pos (by decide +kernel)]
  | d + 1, i, F, m, h, hF, e => by
    obtain ⟨F, rfl⟩ : ∃ f, F = f + 1 := ⟨F - 1, by omega⟩
    have hi : i < 4 := by omega
    have eb : nI (24 - 8 * i) - (if i = 4 then 8 else 0) = nI (24 - 8 * i) := by rw [if_neg (by omega)]; exact Int32.sub_zero _
    have en : nI (24 - 8 * i) + (-8) = nI (24 - 8 * (i + 1)) - (if i + 1 = 4 then 8 else 0) := by
      match i, hi with
      | 0, _ => decide +kernel
      | 1, _ => decide +kernel
      | 2, _ => decide +kernel
      | 3, _ => decide +kernel
    have ey : (x.toUInt32 >>> ((nI (24 - 8 * i)).toUInt32 &&& Int32.toUInt32 31)).toInt32 &&& 255 = nI (byt x i) := by
      exact ushr_b x (nI (24 - 8 * i)) (24 - 8 * i) (sh_ok i hi)
    rw [eb, f_T_addBytes_L3, if_neg (nI_pos (by omega)), e, if_neg (l_ge (n := 96) (by omega) (by decide)), if_pos (inb_nI (by omega) (by decide)), ix_nI (by omega), ey, lt_eq, mst_ck (k2 := 2) (by omega), e, nI_1, lt_eq, en]
    obtain ⟨m2, y, u1, u2, u3, u4, u5, u6⟩ := T_abL (x := x) h0 d (i + 1) F (mst (mst m 3 (n0 + i) (nI (byt x i))) 2 0 (nI (n0 + i + 1))) (by omega) (by omega) (mst_at _ _ _ _)
    refine ⟨m2, y, u1, u2, fun j h1 h2 => ?_, fun q hq => ?_, fun j hj => ?_, fun q h1 h2 => ?_⟩
    · by_cases ej : j = i
      · subst ej
        rw [u4 (n0 + j) (by omega), mst_ck (by omega), mst_at]
      · exact u3 j (by omega) h2
    · rw [u4 q (by omega), mst_ck (by omega), mst_i (by omega)]
    · rw [u5 j hj, mst_i hj, mst_ck (by omega)]
    · rw [u6 q h1 h2, mst_ck h1, mst_ck h2]
theorem T_add {x : Int32} {n0 : Nat} (h0 : n0 + 4 ≤ 96) {m : Mm} (e : m 2 0 = nI n0) {N : Nat} (hN : 500 ≤ N) : ∃ m2, f_T_addBytes N x m = some m2 ∧ m2 2 0 = nI (n0 + 4) ∧ (∀ j, j < 4 → m2 3 (n0 + j) = nI (byt x j)) ∧ (∀ q, q < n0 → m2 3 q = m 3 q) ∧ ∀ q, q ≠ 2 → q ≠ 3 → m2 q = m q := by
  obtain ⟨m2, y, u1, u2, u3, u4, u5, u6⟩ := T_abL (x := x) h0 4 0 N m (by omega) (by omega) e
  refine ⟨m2, ?_, u2, fun j hj => u3 j (by omega) hj, fun q hq => u4 q (by omega), u6⟩
  unfold f_T_addBytes
  rw [show f_T_addBytes_L3 N x 24 m = _ from u1]
  rfl
def fdw (a b c : Int32) (k : Nat) : Int32 := if k < 4 then a else if k < 8 then b else c
theorem M_fdL {a b c : Int32} {n0 : Nat} (h0 : n0 + 12 ≤ 96) : ∀ (d k F : Nat) (m : Mm), k + d = 12 → d < F → m 91 7 = nI n0 → ∃ m2, f_M_feed_L18 F a b c (nI k) m = some (nI 12, m2) ∧ (∀ j, k ≤ j → j < 12 → m2 96 (n0 + j) = nI (byt (fdw a b c j) (j % 4))) ∧ (∀ q, q < n0 + k → m2 96 q = m 96 q) ∧ ∀ q, q ≠ 96 → m2 q = m q
  | 0, k, F, m, h, hF, e => by
    obtain ⟨F, rfl⟩ : ∃ f, F = f + 1 := ⟨F - 1, by omega⟩
    have : k = 12 := by omega
    subst this
    exact ⟨m, by rw [f_M_feed_L18, if_pos (l_le (n := 12) (by omega) (by decide))], fun j h1 h2 => by omega, fun _ _ => rfl, fun _ _ => rfl⟩
  | d + 1, k, F, m, h, hF, e => by
    obtain ⟨F, rfl⟩ : ∃ f, F = f + 1 := ⟨F - 1, by omega⟩
    have hk : k < 12 := by omega
    have ew : (if (4 : Int32) ≤ nI k then if (8 : Int32) ≤ nI k then c else b else a) = fdw a b c k := by
      unfold fdw
      by_cases q : k < 4
      · rw [if_neg (l_ge (n := 4) q (by decide)), if_pos q]
      · rw [if_pos (l_le (n := 4) (by omega) (by omega)), if_neg q]
        by_cases q2 : k < 8
        · rw [if_neg (l_ge (n := 8) q2 (by decide)), if_pos q2]
        · rw [if_pos (l_le (n := 8) (by omega) (by omega)), if_neg q2]
    have hm4 : k % 4 < 4 := Nat.mod_lt _ (by decide)
    have es : ((fdw a b c k) >>> (((24 : Int32) - (8 * (nI k - nI k / 4 * 4))) &&& 31)) &&& 255 = nI (byt (fdw a b c k) (k % 4)) := by
      rw [rem_nI (d := 4) (by omega) (by decide) (by decide), show (8 : Int32) * nI (k % 4) = nI (8 * (k % 4)) from pk_mul 8 _, show (24 : Int32) - nI (8 * (k % 4)) = nI (24 - 8 * (k % 4)) from pk_sub (a := 24) (by omega)]
      unfold byt
      generalize k % 4 = i at *
      refine shr_b (fdw a b c k) _ (24 - 8 * i) (by omega) ?_
      match i, hm4 with
      | 0, _ => decide +kernel
      | 1, _ => decide +kernel
      | 2, _ => decide +kernel
      | 3, _ => decide +kernel
    rw [f_M_feed_L18, if_neg (l_ge (n := 12) hk (by decide)), ew, lt_eq, e, nI_add, if_pos (inb_nI (by omega) (by decide)), ix_nI (by omega), es, lt_eq, nI_1]
    obtain ⟨m2, u1, u2, u3, u4⟩ := M_fdL (a := a) (b := b) (c := c) h0 d (k + 1) F (mst m 96 (n0 + k) (nI (byt (fdw a b c k) (k % 4)))) (by omega) (by omega) (by rw [mst_ck (by omega)]; exact e)
    refine ⟨m2, u1, fun j h1 h2 => ?_, fun q hq => ?_, fun q hq => (u4 q hq).trans (mst_ck hq)⟩
    · by_cases ej : j = k
      · rw [ej, u3 _ (by omega), mst_at]
      · exact u2 j (by omega) h2
    · rw [u3 q (by omega), mst_i (by omega)]
theorem ok_feed {m : Mm} (g : Good m) (a b c : Int32) {N : Nat} (hN : 500 ≤ N) : Ok2 (f_S_feed N a b c) (f_M_feed N a b c) m := by
  unfold Ok2 f_S_feed f_M_feed
  obtain ⟨n, q1, q2, q3, q4⟩ := g.2.2.1
  have e12 : nI n + 12 = nI (n + 12) := nI_add n 12
  rw [q2, e12]
  by_cases h : n + 12 ≤ 96
  · obtain ⟨c1, w1, w2, w3, w4, w5⟩ := T_add (x := a) (n0 := n) (by omega) q2 hN
    obtain ⟨c2, x1, x2, x3, x4, x5⟩ := T_add (x := b) (n0 := n + 4) (by omega) w2 hN
    obtain ⟨c3, y1, y2, y3, y4, y5⟩ := T_add (x := c) (n0 := n + 4 + 4) (by omega) x2 hN
    rw [if_pos (r_le (n := 96) h (by decide)), w1, bp_some, x1, bp_some, y1, bp_some, y2]
    have f : ∀ q, q ≠ 2 → q ≠ 3 → c3 q = m q := fun q h1 h2 => (y5 q h1 h2).trans ((x5 q h1 h2).trans (w5 q h1 h2))
    obtain ⟨m4, z1, z2, z3, z4⟩ := M_fdL (a := a) (b := b) (c := c) (n0 := n) h 12 0 N c3 (by omega) (by omega) (by rw [f 91 (by omega) (by omega)]; exact q3)
    have e91 : m4 91 7 = nI n := by rw [z4 91 (by omega), f 91 (by omega) (by omega)]; exact q3
    refine ⟨_, c3, mst m4 91 7 (nI (n + 12)), rfl, ?_, ?_⟩
    · rw [f 91 (by omega) (by omega), q3, e12, if_pos (r_le (n := 96) h (by decide)), show f_M_feed_L18 N a b c 0 c3 = _ from z1, bd_some, e91, e12, lt_eq, mst_at]
    · have x : ∀ q, q ≠ 2 → q ≠ 3 → q ≠ 91 → q ≠ 96 → mst m4 91 7 (nI (n + 12)) q = m q := fun q h1 h2 h3 h4 => by rw [mst_ck h3, z4 q h4]; exact f q h1 h2
      have x91 : ∀ i, i ≠ 7 → mst m4 91 7 (nI (n + 12)) 91 i = m 91 i := fun i hi => by rw [mst_i hi, z4 91 (by omega), f 91 (by omega) (by omega)]
      refine g.rep (fun q hq => x q (by omega) (by omega) (by omega) (by omega)) (by rw [x 0 (by omega) (by omega) (by omega) (by omega)]) (x91 3 (by omega)) (x91 4 (by omega)) ⟨n + 12, h, by rw [mst_ck (by omega), z4 2 (by omega)]; exact y2, mst_at _ _ _ _, fun j hj => ?_⟩ (g.2.2.2.1.cg (by rw [x 0 (by omega) (by omega) (by omega) (by omega)]) (x 6 (by omega) (by omega) (by omega) (by omega)) (x91 33 (by omega)) (x 112 (by omega) (by omega) (by omega) (by omega))) (g.2.2.2.2.1.cg (fun q _ _ => x q (by omega) (by omega) (by omega) (by omega)) (x 104 (by omega) (by omega) (by omega) (by omega)) (x 105 (by omega) (by omega) (by omega) (by omega)) (x 106 (by omega) (by omega) (by omega) (by omega))) (g.2.2.2.2.2.1.cg (fun q _ _ => x q (by omega) (by omega) (by omega) (by omega)) (x 107 (by omega) (by omega) (by omega) (by omega)) (x 108 (by omega) (by omega) (by omega) (by omega)) (x 109 (by omega) (by omega) (by omega) (by omega)) (x 110 (by omega) (by omega) (by omega) (by omega)))
      rw [mst_ck (k2 := 3) (by omega), mst_ck (k2 := 96) (by omega), z4 3 (by omega)]
      by_cases j0 : j < n
      · rw [z3 j (by omega), f 96 (by omega) (by omega), y4 j (by omega), x4 j (by omega), w4 j (by omega)]
        exact q4 j j0
      · obtain ⟨i, hi, rfl⟩ : ∃ i, i < 12 ∧ j = n + i := ⟨j - n, by omega, by omega⟩
        rw [z2 i (by omega) hi]
        refine ⟨?_, _, byt_lt _ _, rfl⟩
        unfold fdw
        by_cases i4 : i < 4
        · rw [if_pos i4, y4 _ (by omega), x4 _ (by omega), w3 i i4, show i % 4 = i by omega]
        · rw [if_neg i4]
          by_cases i8 : i < 8
          · rw [if_pos i8, y4 _ (by omega), show n + i = n + 4 + (i - 4) by omega, x3 (i - 4) (by omega), show i % 4 = i - 4 by omega]
          · rw [if_neg i8, show n + i = n + 4 + 4 + (i - 8) by omega, y3 (i - 8) (by omega), show i % 4 = i - 8 by omega]
  · rw [if_neg (r_ge (n := 96) (by omega) (by omega))]
    exact ⟨_, m, m, rfl, by rw [q3, e12, if_neg (r_ge (n := 96) (by omega) (by omega))], g⟩
