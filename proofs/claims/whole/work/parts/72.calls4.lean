/-! PURE: texts told, why, trim, tell, slots read, sheets read and marked -/
theorem Good.rep {a b : Mm} (h : Good a) (f : ∀ k, (7 ≤ k ∧ k < 58 ∧ k ≠ 37) ∨ k = 92 ∨ k = 93 ∨ k = 97 ∨ k = 98 → b k = a k) (f05 : b 0 5 = a 0 5) (f3 : b 91 3 = a 91 3) (f4 : b 91 4 = a 91 4) (t : GTape b) (w : GWait b) (sh : GSheet b) (sl : GSlot b) : Good b :=
  ⟨h.1.cg (fun k _ _ _ => f k (by omega)) (f 92 (by omega)) f4, h.2.1.cg f05 f3 (fun k _ _ => f k (by omega)) (fun k _ _ => f k (by omega)) (f 93 (by omega)) (by rw [f 92 (by omega)]), t, w, sh, sl, h.2.2.2.2.2.2.cg (f 97 (by omega)) (f 98 (by omega))⟩
theorem ok_textTold {m : Mm} (g : Good m) (a b : Int32) : Ok0 (f_S_textTold a b) (f_M_textTold a b) m := by
  unfold Ok0 f_S_textTold f_M_textTold
  obtain ⟨T, hT1, hT2, hT3⟩ := g.1.1.2.2.1
  have e2 : m 38 2 = nI T := (e_tc g.1.1.1).trans hT2
  rw [e2, ixc_6, hT2]
  rcases in_cases a (n := T) (by omega) with ⟨k, hk, rfl, s1, s2⟩ | ⟨s1, s2⟩
  case inr => exact ⟨_, by rw [s1, bp_some, if_pos rfl], by rw [s2, bp_some, if_pos rfl]⟩
  obtain ⟨key, sz, q1, q2, q3, q4, q5, q6, q7⟩ := hT3 k hk
  have ex : (64 : Int32) + 2 * nI k = nI (64 + 2 * k) := by rw [show (64 : Int32) = nI 64 from rfl, show (2 : Int32) = nI 2 from rfl, pk_mul, nI_add]
  have ex1 : nI (64 + 2 * k) + 1 = nI (65 + 2 * k) := by rw [nI_1]; congr 1; omega
  have hs := q7.2.2
  have ek : nI (1000 * key + sz) / 1000 = nI key := (key_of q1 q1 hs).mpr rfl
  rw [s1, bp_some, if_neg nz1, s2, bp_some, if_neg nz1, if_pos (inb_nI (by omega) (by decide)), if_pos (inb_nI (by omega) (by decide)), ix_nI (by omega), q3, q4, ex, ex1, if_pos (inb_nI (by omega) (by decide)), ix_nI (by omega), q2, ek, if_pos (inb_nI (by omega) (by decide)), ix_nI (by omega)]
  rcases wi_cases b (lo := 0) (hi := 1) (by decide) (by decide) with ⟨w, h1, h2, rfl, t1, t2⟩ | ⟨t1, t2⟩
  · rw [show f_M_in (nI w) 0 1 = _ from t2, bp_some, if_neg nz1]
    match w, h2 with
    | 0, _ => rw [if_pos (show nI 0 = 0 from rfl), if_pos (show nI 0 = 0 from rfl)]; exact ⟨_, rfl, rfl⟩
    | 1, _ => rw [if_neg (show ¬ nI 1 = 0 by decide), if_neg (show ¬ nI 1 = 0 by decide), if_pos (show nI 1 = 1 from rfl)]; exact ⟨_, rfl, rfl⟩
  · rw [show f_M_in b 0 1 = _ from t2, bp_some, if_pos rfl, if_neg (out_lit (w := 0) t2 (by omega) (by omega) (by decide)), if_neg (out_lit (w := 1) t2 (by omega) (by omega) (by decide))]
    exact ⟨_, rfl, rfl⟩
theorem ok_why {m : Mm} (g : Good m) (a : Int32) {N : Nat} (hN : 500 ≤ N) : Ok0 (f_S_why a) (f_M_why N a) m := by
  unfold Ok0 f_S_why f_M_why
  rcases wi_cases a (lo := 0) (hi := 2) (by decide) (by decide) with ⟨k, h1, h2, rfl, t1, t2⟩ | ⟨t1, t2⟩
  case inr => exact ⟨_, by rw [show f_S_within a 0 2 = _ from t1, bp_some, if_pos rfl], by rw [show f_M_in a 0 2 = _ from t2, bp_some, if_pos rfl]⟩
  obtain ⟨T, hT1, hT2, hT3⟩ := g.1.1.2.2.1
  have el : m 39 k = lawN (m 92) k := g.1.1.2.1 k (by omega)
  rw [show f_S_within (nI k) 0 2 = _ from t1, bp_some, if_neg nz1, if_pos (inb_nI (by omega) (by decide)), ix_nI (by omega), el, show f_M_in (nI k) 0 2 = _ from t2, bp_some, if_neg nz1, M_counts hT1 hT2 (by omega), bp_some]
  unfold lawN
  rw [hT2, ix_nI (by omega)]
  cases hl : lastT (m 92) k T with
  | none => exact ⟨_, rfl, by rw [if_neg (show ¬ (0 : Int32) ≤ -1 by decide)]⟩
  | some t =>
    obtain ⟨ht, -⟩ := lastT_lt hl
    exact ⟨_, rfl, by rw [if_pos (l_le (n := 0) (by omega) (by omega))]⟩
theorem ok_trim {m : Mm} (g : Good m) (a : Int32) : Ok2 (f_S_trim a) (f_M_trim a) m := by
  unfold Ok2 f_S_trim f_M_trim
  obtain ⟨n, q1, q2, q3, q4⟩ := g.2.2.1
  rw [q2]
  rcases wi_cases a (lo := 0) (hi := n) (by decide) (by omega) with ⟨k, h1, h2, rfl, t1, t2⟩ | ⟨t1, t2⟩
  case inr => exact ⟨_, m, m, by rw [show f_S_within a 0 (nI n) = _ from t1, bp_some, if_pos rfl], by rw [q3, show f_M_in a 0 (nI n) = _ from t2, bp_some, if_pos rfl], g⟩
  rw [show f_S_within (nI k) 0 (nI n) = _ from t1, bp_some, if_neg nz1, lt_eq]
  have z : ∀ q, q ≠ 2 → q ≠ 91 → mst (mst m 2 0 (nI k)) 91 7 (nI k) q = m q := fun q h1 h2 => by rw [mst_ck h2, mst_ck h1]
  have z91 : ∀ i, i ≠ 7 → mst (mst m 2 0 (nI k)) 91 7 (nI k) 91 i = m 91 i := fun i hi => by rw [mst_i hi, mst_ck (by omega)]
  refine ⟨_, mst m 2 0 (nI k), mst (mst m 2 0 (nI k)) 91 7 (nI k), rfl, ?_, ?_⟩
  · rw [mst_ck (k2 := 91) (by omega), q3, show f_M_in (nI k) 0 (nI n) = _ from t2, bp_some, if_neg nz1, lt_eq]
  · refine g.rep (fun q hq => z q (by omega) (by omega)) (by rw [z 0 (by omega) (by omega)]) (z91 3 (by omega)) (z91 4 (by omega)) ⟨k, by omega, by rw [mst_ck (by omega), mst_at], mst_at _ _ _ _, fun j hj => by rw [z 3 (by omega) (by omega), z 96 (by omega) (by omega)]; exact q4 j (by omega)⟩ (g.2.2.2.1.cg (by rw [z 0 (by omega) (by omega)]) (z 6 (by omega) (by omega)) (z91 33 (by omega)) (z 112 (by omega) (by omega))) (g.2.2.2.2.1.cg (fun q _ _ => z q (by omega) (by omega)) (z 104 (by omega) (by omega)) (z 105 (by omega) (by omega)) (z 106 (by omega) (by omega))) (g.2.2.2.2.2.1.cg (fun q _ _ => z q (by omega) (by omega)) (z 107 (by omega) (by omega)) (z 108 (by omega) (by omega)) (z 109 (by omega) (by omega)) (z 110 (by omega) (by omega)))
theorem ok_tell {m : Mm} (g : Good m) (a : Int32) : Ok2 (f_S_tell a) (f_M_tell a) m := by
  unfold Ok2 f_S_tell f_M_tell
  obtain ⟨n, q1, q2, q3, q4⟩ := g.2.2.2.1
  rw [q2]
  rcases Nat.lt_or_ge n 60 with h | h
  · rw [if_pos (r_lt (n := 60) h (by decide)), if_pos (inb_nI h (by decide)), ix_nI (by omega), lt_eq, mst_ck (k2 := 0) (by omega), q2, nI_1, lt_eq, mst_at]
    have z : ∀ q, q ≠ 0 → q ≠ 6 → mst (mst m 6 n a) 0 9 (nI (n + 1)) q = m q := fun q h1 h2 => by rw [mst_ck h1, mst_ck h2]
    have z0 : ∀ i, i ≠ 9 → mst (mst m 6 n a) 0 9 (nI (n + 1)) 0 i = m 0 i := fun i hi => by rw [mst_i hi, mst_ck (by omega)]
    have z09 : mst (mst m 6 n a) 0 9 (nI (n + 1)) 0 9 = nI (n + 1) := mst_at _ _ _ _
    have z6 : mst (mst m 6 n a) 0 9 (nI (n + 1)) 6 = upd (m 6) n a := by rw [mst_ck (by omega), mst_row]
    generalize mst (mst m 6 n a) 0 9 (nI (n + 1)) = c at *
    have y : ∀ q, q ≠ 91 → q ≠ 112 → mst (mst c 112 n a) 91 33 (nI (n + 1)) q = c q := fun q h1 h2 => by rw [mst_ck h1, mst_ck h2]
    have y91 : ∀ i, i ≠ 33 → mst (mst c 112 n a) 91 33 (nI (n + 1)) 91 i = m 91 i := fun i hi => by rw [mst_i hi, mst_ck (by omega), z 91 (by omega) (by omega)]
    have y112 : mst (mst c 112 n a) 91 33 (nI (n + 1)) 112 = upd (m 112) n a := by rw [mst_ck (by omega), mst_row, z 112 (by omega) (by omega)]
    refine ⟨_, c, mst (mst c 112 n a) 91 33 (nI (n + 1)), rfl, ?_, ?_⟩
    · rw [z 91 (by omega) (by omega), q3, if_neg (fun q => by rw [r_eq (n := 60) (by omega) (by decide)] at q; omega), if_pos (inb_nI h (by decide)), ix_nI (by omega), lt_eq, mst_ck (k2 := 91) (by omega), z 91 (by omega) (by omega), q3, nI_1, lt_eq, mst_at]
    · have x : ∀ q, q ≠ 0 → q ≠ 6 → q ≠ 91 → q ≠ 112 → mst (mst c 112 n a) 91 33 (nI (n + 1)) q = m q := fun q h1 h2 h3 h4 => (y q h3 h4).trans (z q h1 h2)
      refine g.rep (fun q hq => x q (by omega) (by omega) (by omega) (by omega)) (by rw [y 0 (by omega) (by omega)]; exact z0 5 (by omega)) (y91 3 (by omega)) (y91 4 (by omega)) (g.2.2.1.cg (by rw [x 2 (by omega) (by omega) (by omega) (by omega)]) (x 3 (by omega) (by omega) (by omega) (by omega)) (y91 7 (by omega)) (x 96 (by omega) (by omega) (by omega) (by omega))) ⟨n + 1, by omega, by rw [y 0 (by omega) (by omega)]; exact z09, mst_at _ _ _ _, fun j hj => ?_⟩ (g.2.2.2.2.1.cg (fun q _ _ => x q (by omega) (by omega) (by omega) (by omega)) (x 104 (by omega) (by omega) (by omega) (by omega)) (x 105 (by omega) (by omega) (by omega) (by omega)) (x 106 (by omega) (by omega) (by omega) (by omega))) (g.2.2.2.2.2.1.cg (fun q _ _ => x q (by omega) (by omega) (by omega) (by omega)) (x 107 (by omega) (by omega) (by omega) (by omega)) (x 108 (by omega) (by omega) (by omega) (by omega)) (x 109 (by omega) (by omega) (by omega) (by omega)) (x 110 (by omega) (by omega) (by omega) (by omega)))
      rw [y 6 (by omega) (by omega), z6, y112]
      by_cases e : j = n
      · rw [e, pk_us, pk_us]
      · rw [pk_un e, pk_un e]; exact q4 j (by omega)
  · have : n = 60 := by omega
    subst this
    rw [if_neg (show ¬ nI 60 < 60 by decide)]
    exact ⟨_, m, m, rfl, by rw [q3, if_pos (show nI 60 = 60 from rfl)], g⟩
theorem ok_ask {m : Mm} (g : Good m) (a b : Int32) : Ok0 (f_S_ask a b) (f_M_ask a b) m := by
  unfold Ok0 f_S_ask f_M_ask
  rcases sl_cases a with ⟨s, hs, rfl, s1, s2⟩ | ⟨s1, s2⟩
  case inr => exact ⟨_, by rw [s1, bp_some, if_pos rfl], by rw [s2, bp_some, if_pos rfl]⟩
  rcases kn_cases b with ⟨w, hw, rfl, t1, t2⟩ | ⟨t1, t2⟩
  case inr => exact ⟨_, by rw [s1, bp_some, if_neg nz1, t1, bp_some, if_pos rfl], by rw [s2, bp_some, if_neg nz1, t2, bp_some, if_pos rfl]⟩
  obtain ⟨q1, q2, q3, q4⟩ := g.2.2.2.2.2.1 s hs
  rw [s1, bp_some, if_neg nz1, t1, bp_some, if_neg nz1, if_pos (inb_nI hs (by decide)), ix_nI (by omega), q1, s2, bp_some, if_neg nz1, t2, bp_some, if_neg nz1, if_pos (inb_nI hs (by decide))]
  by_cases h0 : m 107 s = 0
  · rw [if_pos h0, if_pos h0]; exact ⟨_, rfl, rfl⟩
  rw [if_neg h0, if_neg h0]
  by_cases h1 : m 107 s = 1
  · obtain ⟨p1, p2⟩ := q2 h1
    rw [if_pos h1, if_pos h1, p2, K_under, p1]
    obtain ⟨v, hv⟩ := M_under (m 108 s) (nI w)
    simp only [hv, bp_some]
    by_cases q : v = 0
    · rw [if_pos q, if_pos q]; exact ⟨_, rfl, rfl⟩
    · rw [if_neg q, if_neg q]; exact ⟨_, rfl, rfl⟩
  · rw [if_neg h1, if_neg h1]; exact ⟨_, rfl, rfl⟩
theorem ok_rest {m : Mm} (g : Good m) (a b : Int32) : Ok0 (f_S_rest a b) (f_M_rest a b) m := by
  unfold Ok0 f_S_rest f_M_rest
  rcases sl_cases a with ⟨s, hs, rfl, s1, s2⟩ | ⟨s1, s2⟩
  case inr => exact ⟨_, by rw [s1, bp_some, if_pos rfl], by rw [s2, bp_some, if_pos rfl]⟩
  obtain ⟨q1, q2, q3, q4⟩ := g.2.2.2.2.2.1 s hs
  rw [s1, bp_some, if_neg nz1, if_pos (inb_nI hs (by decide)), ix_nI (by omega), q1, s2, bp_some, if_neg nz1, if_pos (inb_nI hs (by decide))]
  by_cases h0 : m 107 s = 0
  · rw [if_pos h0, if_pos h0]; exact ⟨_, rfl, rfl⟩
  rw [if_neg h0, if_neg h0]
  by_cases h3 : m 107 s = 3
  · rw [if_pos h3, if_pos h3, q4 h3]
    by_cases b0 : b = 0
    · rw [if_pos b0, if_pos b0]; exact ⟨_, rfl, rfl⟩
    rw [if_neg b0, if_neg b0]
    by_cases b1 : b = (-1)
    · rw [if_pos b1, b1]
      refine ⟨_, rfl, ?_⟩
      have e : m 108 s / (-1) * (-1) = m 108 s := by
        have h1 : m 108 s / (-1) = - m 108 s := Int32.toInt_inj.mp (by rw [Int32.toInt_div, show ((-1 : Int32)).toInt = -1 by decide, Int.tdiv_neg, Int.tdiv_one, Int32.toInt_neg])
        rw [h1, Int32.neg_mul, Int32.mul_neg, Int32.mul_one, Int32.neg_neg]
      rw [e, Int32.sub_self]
    · rw [if_neg b1]; exact ⟨_, rfl, rfl⟩
  · rw [if_neg h3, if_neg h3]; exact ⟨_, rfl, rfl⟩
theorem ok_item {m : Mm} (g : Good m) (a b : Int32) : Ok0 (f_S_item a b) (f_M_item a b) m := by
  unfold Ok0 f_S_item f_M_item
  rcases sl_cases a with ⟨s, hs, rfl, s1, s2⟩ | ⟨s1, s2⟩
  case inr => exact ⟨_, by rw [s1, bp_some, if_pos rfl], by rw [s2, bp_some, if_pos rfl]⟩
  obtain ⟨q1, q2, q3, q4⟩ := g.2.2.2.2.2.1 s hs
  rw [s1, bp_some, if_neg nz1, if_pos (inb_nI hs (by decide)), ix_nI (by omega), q1, s2, bp_some, if_neg nz1, if_pos (inb_nI hs (by decide))]
  by_cases h0 : m 107 s = 0
  · rw [if_pos h0, if_pos h0]; exact ⟨_, rfl, rfl⟩
  rw [if_neg h0, if_neg h0]
  by_cases h2 : m 107 s = 2
  · obtain ⟨⟨n, p1, p2, p3⟩, p4⟩ := q3 h2
    rw [if_pos h2, if_pos h2, p2, p3]
    rcases in_cases b (n := n) (by omega) with ⟨k, hk, rfl, t1, t2⟩ | ⟨t1, t2⟩
    case inr => exact ⟨_, by rw [t1, bp_some, if_pos rfl], by rw [t2, bp_some, if_pos rfl]⟩
    have ex : (24 : Int32) * nI s + nI k = nI (24 * s + k) := by rw [show (24 : Int32) = nI 24 from rfl, pk_mul, nI_add]
    unfold f_H_hasNumber
    rw [t1, bp_some, if_neg nz1, t2, bp_some, if_neg nz1, if_neg (nI_pos (by omega)), p2, if_neg (nI_ge hk (by omega)), if_pos (inb_nI (by omega) (by decide)), ix_nI (by omega), bp_some, if_pos (inb_nI (by omega) (by decide)), ex, if_pos (inb_nI (by omega) (by decide)), ix_nI (by omega), lt_eq, p4 k (by omega)]
    by_cases q : m 110 (24 * s + k) = (-1000000005)
    · rw [if_pos q, if_pos q, if_pos rfl]; exact ⟨_, rfl, rfl⟩
    · rw [if_neg q, if_neg q, if_neg nz1]; exact ⟨_, rfl, rfl⟩
  · rw [if_neg h2, if_neg h2]; exact ⟨_, rfl, rfl⟩
theorem H_has {c : Mm} {p n k : Nat} (e1 : c p 1 = nI n) (hn : n ≤ 24) (hk : k < n) : f_H_hasNumber p (nI k) c = some (if c (p + 1) k = (-1000000005) then (0 : Int32) else 1) := by
  unfold f_H_hasNumber
  rw [if_neg (nI_pos (by omega)), e1, if_neg (nI_ge hk (by omega)), if_pos (inb_nI (by omega) (by decide)), ix_nI (by omega)]
theorem rdL {m : Mm} (g : Good m) {s n : Nat} (hs : s < 4) (hn : n ≤ 24) (e1 : m (68 + 2 * s) 1 = nI n) (e2 : m 105 s = nI n) : ∀ (d k F : Nat), k + d = n → d < F → ∃ v, f_S_reads_L30 (68 + 2 * s) F (nI s) (nI k) m = some v ∧ f_M_reads_L24 F (nI s) (nI k) m = some v
  | 0, k, F, h, hF => by
    obtain ⟨F, rfl⟩ : ∃ f, F = f + 1 := ⟨F - 1, by omega⟩
    have : k = n := by omega
    subst this
    refine ⟨(-1000000005), ?_, ?_⟩
    · rw [f_S_reads_L30, e1, if_pos (nI_le (Nat.le_refl _) (by omega))]
    · rw [f_M_reads_L24, if_pos (inb_nI hs (by decide)), ix_nI (by omega), e2, if_pos (nI_le (Nat.le_refl _) (by omega))]
  | d + 1, k, F, h, hF => by
    obtain ⟨F, rfl⟩ : ∃ f, F = f + 1 := ⟨F - 1, by omega⟩
    obtain ⟨v, i1, i2⟩ := rdL g hs hn e1 e2 d (k + 1) F (by omega) (by omega)
    have hk : k < 24 := by omega
    have ep := ((g.2.2.2.2.1 s hs).2.2.2 k hk).1
    have ex : (24 : Int32) * nI s + nI k = nI (24 * s + k) := by rw [show (24 : Int32) = nI 24 from rfl, pk_mul, nI_add]
    have hS : f_S_reads_L30 (68 + 2 * s) (F + 1) (nI s) (nI k) m = if m 106 (24 * s + k) = (-1000000005) then f_S_reads_L30 (68 + 2 * s) F (nI s) (nI (k + 1)) m else if 6 ≤ k then some (nI k) else if m 106 (24 * s + k) = m 44 k then f_S_reads_L30 (68 + 2 * s) F (nI s) (nI (k + 1)) m else some (nI k) := by
      rw [f_S_reads_L30, e1, if_neg (nI_ge (by omega) (by omega)), H_has e1 hn (by omega), bp_some, ep, nI_1, if_pos (inb_nI hk (by decide)), ix_nI (by omega), ep]
      by_cases q : m 106 (24 * s + k) = (-1000000005)
      · rw [if_pos q, if_pos rfl, if_pos q]
      · rw [if_neg q, if_neg nz1, if_neg q]
        by_cases k6 : k < 6
        · rw [if_neg (l_ge (n := 6) k6 (by decide)), if_pos (inb_nI k6 (by decide)), if_neg (show ¬ 6 ≤ k by omega)]
        · rw [if_pos (l_le (n := 6) (by omega) (by omega)), if_pos (show 6 ≤ k by omega)]
    have hM : f_M_reads_L24 (F + 1) (nI s) (nI k) m = if m 106 (24 * s + k) = (-1000000005) then f_M_reads_L24 F (nI s) (nI (k + 1)) m else if 6 ≤ k then some (nI k) else if m 106 (24 * s + k) = m 92 (11 + 4 * k) then f_M_reads_L24 F (nI s) (nI (k + 1)) m else some (nI k) := by
      rw [f_M_reads_L24, if_pos (inb_nI hs (by decide)), ix_nI (by omega), e2, if_neg (nI_ge (by omega) (by omega)), ex, if_pos (inb_nI (by omega) (by decide)), ix_nI (by omega), lt_eq, nI_1]
      by_cases q : m 106 (24 * s + k) = (-1000000005)
      · rw [if_pos q, if_pos q]
      · rw [if_neg q, if_neg q]
        by_cases k6 : k < 6
        · have t1 : f_M_isTable (nI k) = some 1 := by
            unfold f_M_isTable f_M_in
            rw [if_neg (nI_pos (by omega)), if_neg (l_nlt (n := 5) (by omega) (by decide))]
            rfl
          rw [t1, bp_some, if_neg nz1, M_at01 k6, bp_some, if_neg (show ¬ 6 ≤ k by omega)]
        · have t1 : f_M_isTable (nI k) = some 0 := by
            unfold f_M_isTable f_M_in
            rw [if_neg (nI_pos (by omega)), if_pos (l_lt (n := 5) (by omega) (by omega))]
            rfl
          rw [t1, bp_some, if_pos rfl, if_pos (show 6 ≤ k by omega)]
    rw [hS, hM]
    by_cases q : m 106 (24 * s + k) = (-1000000005)
    · rw [if_pos q, if_pos q]; exact ⟨v, i1, i2⟩
    rw [if_neg q, if_neg q]
    by_cases k6 : k < 6
    · rw [if_neg (show ¬ 6 ≤ k by omega), if_neg (show ¬ 6 ≤ k by omega), show m 44 k = _ from e_done g.1.1.1 k6]
      by_cases z : m 106 (24 * s + k) = m 92 (11 + 4 * k)
      · rw [if_pos z, if_pos z]; exact ⟨v, i1, i2⟩
      · rw [if_neg z, if_neg z]; exact ⟨_, rfl, rfl⟩
    · rw [if_pos (show 6 ≤ k by omega), if_pos (show 6 ≤ k by omega)]; exact ⟨_, rfl, rfl⟩
/-- a sheet that is missing, or not: what both sides see -/
theorem sort_cases {m : Mm} (g : Good m) {s : Nat} (hs : s < 4) : (m 104 s = (-1) ∧ ¬ 0 ≤ m 104 s ∧ m 104 s < 0) ∨ (¬ m 104 s = (-1) ∧ 0 ≤ m 104 s ∧ ¬ m 104 s < 0) := by
  rcases (g.2.2.2.2.1 s hs).2.1 with e | e | e <;> rw [e]
  · exact Or.inl (by decide)
  · exact Or.inr (by decide)
  · exact Or.inr (by decide)
theorem ok_reads {m : Mm} (g : Good m) (a : Int32) {N : Nat} (hN : 500 ≤ N) : Ok0 (f_S_reads N a) (f_M_reads N a) m := by
  unfold Ok0 f_S_reads f_M_reads
  rcases sh_cases a with ⟨s, hs, rfl, s1, s2⟩ | ⟨s1, s2⟩
  case inr => exact ⟨_, by rw [s1, bp_some, if_pos rfl], by rw [s2, bp_some, if_pos rfl]⟩
  obtain ⟨q1, q2, ⟨n, q3, q4, q5, -⟩, q6⟩ := g.2.2.2.2.1 s hs
  rw [s1, bp_some, if_neg nz1, if_pos (inb_nI hs (by decide)), ix_nI (by omega), q1, s2, bp_some, if_neg nz1, if_pos (inb_nI hs (by decide))]
  rcases sort_cases g hs with ⟨z1, z2, z3⟩ | ⟨z1, z2, z3⟩
  · rw [if_pos z1, if_neg z2]; exact ⟨_, rfl, rfl⟩
  · rw [if_neg z1, if_pos z2]
    exact rdL g hs q3 q4 q5 n 0 N (by omega) (by omega)
