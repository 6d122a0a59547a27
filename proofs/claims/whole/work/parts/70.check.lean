/-! PURE: check -/
def dsm (R : Row) : Int32 := sm (fun t => R (10 + 4 * t + 1)) 6
def ssm (R : Row) : Int32 := (R 7 + R 8) + R 9
theorem sum_sand {p : Nat} {c : Mm} {r : Row} (hE : Eqv p c r) : sm (c (p + 9)) 3 = ssm r := by
  show ((0 + c (p + 9) 0) + c (p + 9) 1) + c (p + 9) 2 = _
  rw [Int32.zero_add, e_sand hE (i := 0) (by decide), e_sand hE (i := 1) (by decide), e_sand hE (i := 2) (by decide)]
  rfl
/-- what check answers: k hours have been right, d are left; T were told, w are they -/
def chv (R : Nat → Row) (T : Nat) (w : Nat → Int32) : Nat → Nat → Int32
  | 0, k => if T ≤ 2 * k then 0 else nI (1 + 2 * k)
  | d + 1, k => if T ≤ 2 * k then nI (1 + 2 * k) else if w (2 * k) = dsm (R (k + 1)) then (if T ≤ 2 * k + 1 then nI (1 + (2 * k + 1)) else if w (2 * k + 1) = ssm (R (k + 1)) then chv R T w d (k + 1) else nI (1 + (2 * k + 1))) else nI (1 + 2 * k)
theorem par0 (k : Nat) (h : k < 1000) : nI (2 * k) - nI (2 * k) / 2 * 2 = 0 := by
  rw [rem_nI (d := 2) (by omega) (by decide) (by decide), show 2 * k % 2 = 0 by omega]; rfl
theorem par1 (k : Nat) (h : k < 1000) : ¬ nI (2 * k + 1) - nI (2 * k + 1) / 2 * 2 = 0 := by
  rw [rem_nI (d := 2) (by omega) (by decide) (by decide), show (2 * k + 1) % 2 = 1 by omega]; decide
theorem add1 (n : Nat) : 1 + nI n = nI (1 + n) := nI_add 1 n
theorem S_chL {r0 : Row} {w : Nat → Int32} {T n N : Nat} (hr : RW r0 r0) (hT : T ≤ 60) (hn : n ≤ 30) (hN : 500 ≤ N) (b1 : Int32) : ∀ (d k F : Nat) (c : Mm), k + d = n → 2 * d < F → c 6 = w → c 58 18 = (-1) → Pc 999 58 c (aHours (tvOf r0) (-1) r0 k) → ∃ c2, f_S_check_L66 N F b1 (nI T) (nI (2 * n)) (nI (2 * k)) c = some (chv (aHours (tvOf r0) (-1) r0) T w d k, c2) ∧ PF 58 c c2
  | 0, k, F, c, h, hF, h6, hi, hP => by
    obtain ⟨F, rfl⟩ : ∃ f, F = f + 1 := ⟨F - 1, by omega⟩
    have : k = n := by omega
    subst this
    refine ⟨c, ?_, PF.rf⟩
    rw [f_S_check_L66, if_pos (nI_le (Nat.le_refl _) (by omega)), add1]
    unfold chv
    by_cases q : T ≤ 2 * k
    · rw [if_pos (nI_le q (by omega)), if_pos q]
    · rw [if_neg (nI_ge (by omega) (by omega)), if_neg q]
  | d + 1, k, F, c, h, hF, h6, hi, hP => by
    obtain ⟨F, rfl⟩ : ∃ f, F = f + 1 := ⟨F - 1, by omega⟩
    have hk := hr.hours (tvOf r0) (-1) k
    obtain ⟨c1, w1, w2, w3⟩ := P_hour (Or.inr (Or.inr rfl)) hP (N := N) (by omega)
    rw [hk.tv, hi] at w2
    have e6 : c1 6 = w := (w3.1 6 (by omega) (by omega)).trans h6
    rw [f_S_check_L66, if_neg (nI_ge (by omega) (by omega)), if_pos (par0 k (by omega)), w1, bd_some, if_pos (par0 k (by omega)), S_sum (by decide) (by omega), bp_some, show sm (c1 64) 6 = dsm (aHours (tvOf r0) (-1) r0 (k + 1)) from sum_done w2.1, add1]
    unfold chv
    by_cases q1 : T ≤ 2 * k
    · rw [if_pos (nI_le q1 (by omega)), if_pos q1]; exact ⟨c1, rfl, w3⟩
    rw [if_neg (nI_ge (by omega) (by omega)), if_neg q1, if_pos (inb_nI (by omega) (by decide)), ix_nI (by omega), e6]
    by_cases q2 : w (2 * k) = dsm (aHours (tvOf r0) (-1) r0 (k + 1))
    · rw [if_pos q2, if_pos q2, nI_1]
      obtain ⟨F, rfl⟩ : ∃ f, F = f + 1 := ⟨F - 1, by omega⟩
      rw [f_S_check_L66, if_neg (nI_ge (by omega) (by omega)), if_neg (par1 k (by omega)), if_neg (par1 k (by omega)), S_sum (by decide) (by omega), bp_some, show sm (c1 67) 3 = ssm (aHours (tvOf r0) (-1) r0 (k + 1)) from sum_sand w2.1, add1]
      by_cases q3 : T ≤ 2 * k + 1
      · rw [if_pos (nI_le q3 (by omega)), if_pos q3]; exact ⟨c1, rfl, w3⟩
      rw [if_neg (nI_ge (by omega) (by omega)), if_neg q3, if_pos (inb_nI (by omega) (by decide)), ix_nI (by omega), e6]
      by_cases q4 : w (2 * k + 1) = ssm (aHours (tvOf r0) (-1) r0 (k + 1))
      · rw [if_pos q4, if_pos q4, nI_1, show 2 * k + 1 + 1 = 2 * (k + 1) by omega]
        obtain ⟨c2, u1, u2⟩ := S_chL hr hT hn hN b1 d (k + 1) F c1 (by omega) (by omega) e6 (w3.2.trans hi) w2
        exact ⟨c2, u1, w3.tr u2⟩
      · rw [if_neg q4, if_neg q4]; exact ⟨c1, rfl, w3⟩
    · rw [if_neg q2, if_neg q2]; exact ⟨c1, rfl, w3⟩
theorem addz (x : Int32) : x + 0 = x := Int32.add_zero x
/-- the reference's answer out of what was right -/
def ans (T n : Nat) (y : Int32) : Int32 := if y = nI T then if y = nI (2 * n) then (0 : Int32) else 1 + y else 1 + y
theorem ans_no {T n y : Nat} (hT : T ≤ 60) (hn : n ≤ 30) (hy : y < 2 * n) : ans T n (nI y) = nI (1 + y) := by
  unfold ans
  have h2 : ¬ nI y = nI (2 * n) := fun q => by rw [nI_eq (by omega) (by omega)] at q; omega
  by_cases q : nI y = nI T
  · rw [if_pos q, if_neg h2, add1]
  · rw [if_neg q, add1]
theorem M_stop {T n N y k F : Nat} {m : Mm} (b1 : Int32) (hn : n ≤ 30) (hy : y < 2 * k) (hk : k ≤ 30) (hF : 0 < F) : f_M_check_L79 N F b1 (nI T) (nI (2 * n)) (nI y) (nI k) m = some ((nI y, nI k), m) := by
  obtain ⟨F, rfl⟩ : ∃ f, F = f + 1 := ⟨F - 1, by omega⟩
  rw [f_M_check_L79, show (2 : Int32) * nI k = nI (2 * k) from pk_mul 2 k]
  by_cases q : 2 * n ≤ 2 * k
  · rw [if_pos (nI_le q (by omega))]
  · rw [if_neg (nI_ge (by omega) (by omega)), if_neg (fun z => by rw [nI_eq (by omega) (by omega)] at z; omega)]
theorem M_chL {c : Mm} {r0 : Row} {w : Nat → Int32} {T n N : Nat} (hx : Txt c r0) (hr : RW r0 r0) (hT : T ≤ 60) (hn : n ≤ 30) (hN : 500 ≤ N) (b1 : Int32) : ∀ (d k F : Nat) (m : Mm), k + d = n → d + 1 < F → 2 * k ≤ T → (∀ j, j < T → w j = m 112 j) → m 91 4 = (-1) → m 92 = aHours (tvOf r0) (-1) r0 k → ∃ y z m2, f_M_check_L79 N F b1 (nI T) (nI (2 * n)) (nI (2 * k)) (nI k) m = some ((y, z), m2) ∧ ans T n y = chv (aHours (tvOf r0) (-1) r0) T w d k ∧ MF m m2
  | 0, k, F, m, h, hF, hk2, h6, hi, h9 => by
    obtain ⟨F, rfl⟩ : ∃ f, F = f + 1 := ⟨F - 1, by omega⟩
    have : k = n := by omega
    subst this
    refine ⟨nI (2 * k), nI k, m, ?_, ?_, MF.rf⟩
    · rw [f_M_check_L79, show (2 : Int32) * nI k = nI (2 * k) from pk_mul 2 k, if_pos (nI_le (Nat.le_refl _) (by omega))]
    · unfold ans chv
      rw [add1]
      by_cases q : T ≤ 2 * k
      · have q2 : T = 2 * k := by omega
        rw [if_pos q, if_pos (by rw [q2]), if_pos rfl]
      · rw [if_neg q, if_neg (fun z => by rw [nI_eq (by omega) (by omega)] at z; omega)]
  | d + 1, k, F, m, h, hF, hk2, h6, hi, h9 => by
    obtain ⟨F, rfl⟩ : ∃ f, F = f + 1 := ⟨F - 1, by omega⟩
    have hk := hr.hours (tvOf r0) (-1) k
    obtain ⟨m1, w1, w2, w3⟩ := M_hour (c := c) (mem := m) (by rw [h9]; exact hx.cong hk.2.1 hk.2.2 (fun _ _ _ => rfl)) (by rw [h9]; exact hk.1) (N := N) (by omega)
    rw [h9, hk.tv, hi] at w2
    have e112 : m1 112 = m 112 := w3 112 (by omega) (by omega) (by omega)
    have ed : sm (fun t => m1 92 (10 + 4 * t + 1)) 6 = dsm (aHours (tvOf r0) (-1) r0 (k + 1)) := by rw [w2]; rfl
    have es : f_M_sandAll m1 = some (ssm (aHours (tvOf r0) (-1) r0 (k + 1))) := by
      unfold f_M_sandAll
      rw [ixc_7, ixc_8, ixc_9, w2]
      rfl
    have e2k : (2 : Int32) * nI k = nI (2 * k) := pk_mul 2 k
    rw [f_M_check_L79, e2k, if_neg (nI_ge (by omega) (by omega)), if_pos rfl, w1, bd_some]
    unfold chv
    by_cases q1 : T ≤ 2 * k
    · rw [if_pos (nI_le q1 (by omega)), if_pos q1, addz, lt_eq, nI_1, if_neg (fun z => by rw [nI_eq (by omega) (by omega)] at z; omega), addz, lt_eq, nI_1]
      exact ⟨_, _, m1, M_stop b1 hn (by omega) (by omega) (by omega), ans_no hT hn (by omega), w3⟩
    rw [if_neg (nI_ge (by omega) (by omega)), if_neg q1, if_pos (inb_nI (by omega) (by decide)), show f_M_sumOf N 1 m1 = _ from M_sumOf (w := 1) (by decide) (by omega), bp_some, ed, ix_nI (by omega), e112, ← h6 (2 * k) (by omega)]
    by_cases q2 : w (2 * k) = dsm (aHours (tvOf r0) (-1) r0 (k + 1))
    · rw [if_pos q2, if_pos q2, lt_eq, nI_1, if_pos rfl]
      by_cases q3 : T ≤ 2 * k + 1
      · rw [if_pos (nI_le q3 (by omega)), if_pos q3, addz, lt_eq, nI_1]
        exact ⟨_, _, m1, M_stop b1 hn (by omega) (by omega) (by omega), ans_no hT hn (by omega), w3⟩
      rw [if_neg (nI_ge (by omega) (by omega)), if_neg q3, if_pos (inb_nI (by omega) (by decide)), es, bp_some, ix_nI (by omega), ← h6 (2 * k + 1) (by omega), lt_eq, nI_1]
      by_cases q4 : w (2 * k + 1) = ssm (aHours (tvOf r0) (-1) r0 (k + 1))
      · rw [if_pos q4, if_pos q4, nI_1, show 2 * k + 1 + 1 = 2 * (k + 1) by omega]
        obtain ⟨y, z, m2, u1, u2, u3⟩ := M_chL (w := w) hx hr hT hn hN b1 d (k + 1) F m1 (by omega) (by omega) (by omega) (fun j hj => by rw [e112]; exact h6 j hj) (by rw [w3 91 (by omega) (by omega) (by omega)]; exact hi) w2
        exact ⟨y, z, m2, u1, u2, w3.tr u3⟩
      · rw [if_neg q4, if_neg q4, addz]
        exact ⟨_, _, m1, M_stop b1 hn (by omega) (by omega) (by omega), ans_no hT hn (by omega), w3⟩
    · rw [if_neg q2, if_neg q2, addz, lt_eq, nI_1, if_neg (fun z => by rw [nI_eq (by omega) (by omega)] at z; omega), addz, lt_eq, nI_1]
      exact ⟨_, _, m1, M_stop b1 hn (by omega) (by omega) (by omega), ans_no hT hn (by omega), w3⟩
theorem ok_check {m : Mm} (g : Good m) (a : Int32) {N : Nat} (hN : 1500 ≤ N) : Ok2 (f_S_check N a) (f_M_check N a) m := by
  unfold Ok2 f_S_check f_M_check
  obtain ⟨T, hT, t1, t2, t3⟩ := g.2.2.2.1
  rw [t1, lt_eq, lt_eq]
  have c7 : ∀ k, k ≠ 0 → mst m 0 9 0 k = m k := fun k hk => mst_ck hk
  have c0 : ∀ i, i ≠ 9 → mst m 0 9 0 0 i = m 0 i := fun i hi => mst_i hi
  have c09 : mst m 0 9 0 0 9 = 0 := mst_at _ _ _ _
  generalize mst m 0 9 0 = c at *
  -- the end: what waits is nothing
  have fin : ∀ b : Mm, agr (m 92) (b 92) → (∀ k, ¬ scrC k → k ≠ 92 → k ≠ 91 → b k = c k) → (∀ i, i ≠ 33 → b 91 i = m 91 i) → b 91 33 = 0 → Good b := by
    intro b h92 f f91 f33
    refine g.fin h92 (fun k h1 h2 h3 h4 => by rw [f k h1 h2 h4]; exact c7 k h3) (fun i hi => by rw [f 0 (by unfold scrC; omega) (by omega) (by omega)]; exact c0 i hi) f91 ⟨0, by omega, ?_, f33, fun j hj => absurd hj (Nat.not_lt_zero j)⟩
    rw [f 0 (by unfold scrC; omega) (by omega) (by omega)]; exact c09
  have m7 : ∀ d : Mm, (∀ k, ¬ scrC k → d k = c k) → (agr (m 92) (mst d 91 33 0 92) ∧ (∀ k, ¬ scrC k → k ≠ 91 → mst d 91 33 0 k = c k) ∧ (∀ i, i ≠ 33 → mst d 91 33 0 91 i = m 91 i) ∧ mst d 91 33 0 91 33 = 0) := by
    intro d hd
    refine ⟨fun j _ => by rw [mst_ck (by omega), hd 92 (by unfold scrC; omega), c7 92 (by omega)], fun k h1 h2 => by rw [mst_ck h2]; exact hd k h1, fun i hi => by rw [mst_i hi, hd 91 (by unfold scrC; omega), c7 91 (by omega)], mst_at _ _ _ _⟩
  rcases wi_cases a (lo := 1) (hi := 30) (by decide) (by decide) with ⟨n, h1, h2, rfl, u1, u2⟩ | ⟨u1, u2⟩
  case inr =>
    obtain ⟨z1, z2, z3, z4⟩ := m7 c (fun _ _ => rfl)
    refine ⟨_, c, mst c 91 33 0, by rw [show f_S_within a 1 30 = _ from u1, bp_some, if_pos rfl], ?_, fin _ z1 (fun k q1 q2 q3 => z2 k q1 q3) z3 z4⟩
    rw [lt_eq, lt_eq, show f_M_in a 1 30 = _ from u2, bp_some, if_pos rfl]
  rw [show f_S_within (nI n) 1 30 = _ from u1, bp_some, if_neg nz1, c0 5 (by omega)]
  have hM : ∀ (d : Mm), d 91 33 = nI T → f_M_check N (nI n) d = (if mst d 91 33 0 91 3 = 0 then some ((-1000000002), mst d 91 33 0) else bp (f_M_copyAll N 92 94 (mst d 91 33 0)) fun m_41 => bp (f_M_copyAll N 93 92 m_41) fun m_52 => bp (f_M_within (9999 - (m_52 92 (ix 2))) 0 (nI n)) fun r_68 => lt (2 * r_68) fun x_72 => bd (f_M_check_L79 N N (nI n) (nI T) x_72 0 0 m_52) fun y_79 m_79 => bp (f_M_copyAll N 94 92 m_79) fun m_188 => some (if y_79.1 = nI T then if y_79.1 = x_72 then (0 : Int32) else 1 + y_79.1 else 1 + y_79.1, m_188)) := by
    intro d hd
    unfold f_M_check
    rw [hd, lt_eq, lt_eq, show f_M_in (nI n) 1 30 = _ from u2, bp_some, if_neg nz1]
  rcases g.2.1 with ⟨i1, i2⟩ | ⟨i1, i2, i3, i4, i5⟩
  · rw [i1, if_pos rfl]
    obtain ⟨z1, z2, z3, z4⟩ := m7 c (fun _ _ => rfl)
    refine ⟨_, c, mst c 91 33 0, rfl, ?_, fin _ z1 (fun k q1 q2 q3 => z2 k q1 q3) z3 z4⟩
    have hc := hM c (by rw [c7 91 (by omega)]; exact t2)
    unfold f_M_check at hc
    rw [hc, if_pos ((z3 3 (by omega)).trans i2)]
  rw [i1, if_neg nz1]
  obtain ⟨hh, he, q1, q2, q3, q4⟩ := i4
  obtain ⟨c1, w1, w2, w3, w4, w5⟩ := P_become (p := 58) (o := 48) (c := c) (r := m 93) (by omega) (i3.1.cg (fun k _ _ => c7 k (by omega))) (fun key hk => by rw [c7 49 (by omega)]; exact i3.2.1 key hk)
  have hp1 : Pc 999 58 c1 (mix (m 93) (m 92)) := Pc.agr ⟨w2, w3, i3.2.2.1.cong rfl (fun _ _ => rfl) (fun k _ _ => by rw [w5 k (by omega)]; exact c7 k (by omega)), i3.2.2.2⟩ (mix_agr _ _)
  have hr : RW (mix (m 93) (m 92)) (mix (m 93) (m 92)) := ⟨hp1.2.2.2, rfl, fun _ _ => rfl⟩
  have e48 : c1 48 15 = nI hh := by rw [w5 48 (by omega), c7 48 (by omega)]; exact (e_hour i3.1).trans q3
  have hs : (9999 : Int32) - nI hh = nI (9999 - hh) := pk_sub (a := 9999) q1
  have em : (if nI (9999 - hh) < nI n then nI (9999 - hh) else nI n) = nI (min (9999 - hh) n) := by
    by_cases q : 9999 - hh < n
    · rw [if_pos (nI_lt q (by omega))]; congr 1; omega
    · rw [if_neg (nI_nlt (by omega) (by omega))]; congr 1; omega
  have ew : cl3 (nI (9999 - hh)) 0 (nI n) = nI (min (9999 - hh) n) := cl3_nI (lo := 0) (by omega) (by omega) (by omega)
  have hnn : min (9999 - hh) n ≤ 30 := by omega
  rw [w1, bp_some, e48, hs, em, show (2 : Int32) * nI (min (9999 - hh) n) = _ from pk_mul 2 _, lt_eq]
  generalize min (9999 - hh) n = nn at *
  have e6 : c1 6 = m 6 := (w5 6 (by omega)).trans (c7 6 (by omega))
  obtain ⟨c2, x1, x2⟩ := S_chL (w := m 6) hr hT hnn (N := N) (by omega) (nI n) nn 0 N c1 (by omega) (by omega) e6 w4 hp1
  have ct : ∀ k, ¬ scrC k → c2 k = c k := fun k hk => (x2.ct k hk).trans (w5 k (by unfold scrC at hk; omega))
  obtain ⟨z1, z2, z3, z4⟩ := m7 c2 ct
  have hc := hM c2 (by rw [ct 91 (by unfold scrC; omega), c7 91 (by omega)]; exact t2)
  obtain ⟨m3, y1, y2, y3⟩ := M_copyAll (o1 := 92) (o2 := 94) (by omega) (mst c2 91 33 0) hN
  obtain ⟨m4, y4, y5, y6⟩ := M_copyAll (o1 := 93) (o2 := 92) (by omega) m3 hN
  have e92 : m4 92 = mix (m 93) (m 92) := by
    rw [y5, y3 93 (by omega), y3 92 (by omega), mst_ck (by omega), mst_ck (by omega), ct 93 (by unfold scrC; omega), ct 92 (by unfold scrC; omega), c7 93 (by omega), c7 92 (by omega)]
  have e112 : m4 112 = m 112 := by rw [y6 112 (by omega), y3 112 (by omega), mst_ck (by omega), ct 112 (by unfold scrC; omega), c7 112 (by omega)]
  have e914 : m4 91 4 = (-1) := by rw [y6 91 (by omega), y3 91 (by omega), z3 4 (by omega)]; exact g.1.2.2.2
  obtain ⟨y, z, m5, v1, v2, v3⟩ := M_chL (c := c1) (w := m 6) hp1.2.2.1 hr hT hnn (N := N) (by omega) (nI n) nn 0 N m4 (by omega) (by omega) (by omega) (fun j hj => by rw [e112]; exact t3 j hj) e914 e92
  obtain ⟨m6, p1, p2, p3⟩ := M_copyAll (o1 := 94) (o2 := 92) (by omega) m5 hN
  rw [show f_S_check_L66 N N (nI n) (nI T) (nI (2 * nn)) 0 c1 = _ from x1]
  refine ⟨_, c2, m6, rfl, ?_, ?_⟩
  · unfold f_M_check at hc
    rw [hc, if_neg (by rw [z3 3 (by omega), i2]; decide), y1, bp_some, y4, bp_some, ixc_2, e92, mix_in (by omega), q3, hs, M_within, bp_some, ew, show (2 : Int32) * nI nn = _ from pk_mul 2 _, lt_eq, show f_M_check_L79 N N (nI n) (nI T) (nI (2 * nn)) 0 0 m4 = _ from v1, bd_some, p1, bp_some, ← v2]
    rfl
  · refine fin m6 ?_ ?_ ?_ ?_
    · intro j hj
      rw [p2, mix_in hj, v3 94 (by omega) (by omega) (by omega), y6 94 (by omega), y2, mix_in hj]
      exact z1 j hj
    · intro k k1 k2 k3
      rw [p3 k k2, v3 k k2 (fun e => k1 (by unfold scrC; omega)) (fun e => k1 (by unfold scrC; omega)), y6 k k2, y3 k (fun e => k1 (by unfold scrC; omega))]
      exact z2 k k1 k3
    · intro i hi
      rw [p3 91 (by omega), v3 91 (by omega) (by omega) (by omega), y6 91 (by omega), y3 91 (by omega)]
      exact z3 i hi
    · rw [p3 91 (by omega), v3 91 (by omega) (by omega) (by omega), y6 91 (by omega), y3 91 (by omega)]
      exact z4
