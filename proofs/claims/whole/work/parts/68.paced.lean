/-! PURE: paced -/
theorem lcmp_ge (x y : Int64) : 0 ≤ lg_cmp x y ↔ y ≤ x := by
  unfold lg_cmp
  rw [Int64.le_iff_toInt_le]
  by_cases h : x > y
  · have h1 : y.toInt < x.toInt := Int64.lt_iff_toInt_lt.mp h
    rw [if_pos h]
    exact ⟨fun _ => by omega, fun _ => by decide⟩
  · have h1 : ¬ y.toInt < x.toInt := fun q => h (Int64.lt_iff_toInt_lt.mpr q)
    rw [if_neg h]
    by_cases e : x = y
    · rw [if_pos e, e]
      exact ⟨fun _ => Int.le_refl _, fun _ => by decide⟩
    · have h2 : ¬ x.toInt = y.toInt := fun q => e (Int64.toInt_inj.mp q)
      rw [if_neg e]
      exact ⟨fun q => absurd q (by decide), fun q => by omega⟩
/-- how far a place is off, as a natural number -/
def ofN (v : Int32) (R : Row) (j : Nat) : Nat := if v = (-1000000005) then 0 else (v.toInt - (if j < 6 then (R (11 + 4 * j)).toInt else 0)).natAbs
def osm (f : Nat → Int32) (R : Row) : Nat → Nat
  | 0 => 0
  | k + 1 => osm f R k + ofN (f k) R k
theorem ofN_le {v : Int32} (hv : vok v) {R : Row} (hI : Inv 999 R) (j : Nat) : ofN v R j ≤ 101000 := by
  unfold ofN
  split
  · omega
  · rename_i h
    obtain ⟨a, b⟩ := hv.resolve_left h
    split
    · rename_i hj
      obtain ⟨-, ⟨dn, hd, ed⟩⟩ := hI.2.2.1 j hj
      rw [ed, ti_nI (by omega)]
      omega
    · omega
theorem osm_le {f : Nat → Int32} (hv : ∀ j, j < 24 → vok (f j)) {R : Row} (hI : Inv 999 R) : ∀ k, k ≤ 24 → osm f R k ≤ 101000 * k
  | 0, _ => Nat.le_refl _
  | k + 1, hk => by
    have h1 := osm_le hv hI k (by omega)
    have h2 := ofN_le (hv k (by omega)) hI k
    unfold osm
    omega
theorem abs_nI {x : Int32} (h : -1000000 ≤ x.toInt ∧ x.toInt ≤ 1000000) : (if 0 ≤ x then x else 0 - x) = nI x.toInt.natAbs := by
  have z0 : (0 : Int32).toInt = 0 := rfl
  by_cases q : (0 : Int32) ≤ x
  · have a := le_ti.mp q
    rw [if_pos q, eq_ti, ti_nI (by omega)]
    omega
  · rw [if_neg q]
    rw [le_ti] at q
    rw [eq_ti, ti_nI (by omega), sub_ti (by omega) (by omega)]
    omega
theorem S_difL {c : Mm} {R : Row} {s n : Nat} {f : Nat → Int32} (hn : n ≤ 24) (hE : Eqv 58 c R) (hI : Inv 999 R) (e1 : c (68 + 2 * s) 1 = nI n) (ef : ∀ j, j < 24 → c (68 + 2 * s + 1) j = f j) (hv : ∀ j, j < 24 → vok (f j)) : ∀ (d k F : Nat), k + d = n → d < F → f_H_differsFrom_L4 (68 + 2 * s) 64 F (nI (osm f R k)) (nI k) c = some (nI (osm f R n), nI n)
  | 0, k, F, h, hF => by
    obtain ⟨F, rfl⟩ : ∃ f, F = f + 1 := ⟨F - 1, by omega⟩
    have : k = n := by omega
    subst this
    rw [f_H_differsFrom_L4, e1, if_pos (nI_le (Nat.le_refl _) (by omega))]
  | d + 1, k, F, h, hF => by
    obtain ⟨F, rfl⟩ : ∃ f, F = f + 1 := ⟨F - 1, by omega⟩
    have hk : k < 24 := by omega
    have ih := S_difL hn hE hI e1 ef hv d (k + 1) F (by omega) (by omega)
    have eo : osm f R (k + 1) = osm f R k + ofN (f k) R k := rfl
    have hh : f_H_hasNumber (68 + 2 * s) (nI k) c = some (if f k = (-1000000005) then (0 : Int32) else 1) := by
      unfold f_H_hasNumber
      rw [if_neg (nI_pos (by omega)), e1, if_neg (nI_ge (by omega) (by omega)), if_pos (inb_nI hk (by decide)), ix_nI (by omega), ef k hk]
    rw [f_H_differsFrom_L4, e1, if_neg (nI_ge (by omega) (by omega)), hh, bp_some, nI_1]
    by_cases q : f k = (-1000000005)
    · rw [if_pos q, if_pos rfl]
      unfold ofN at eo
      rw [if_pos q] at eo
      have eo2 : osm f R (k + 1) = osm f R k := eo
      rw [← eo2]
      exact ih
    · obtain ⟨va, vb⟩ := (hv k hk).resolve_left q
      rw [if_neg q, if_neg nz1]
      by_cases k6 : 6 ≤ k
      · have z0 : (0 : Int32).toInt = 0 := rfl
        have es : ((0 : Int32) - f k).toInt = - (f k).toInt := by rw [sub_ti (by omega) (by omega)]; omega
        rw [if_pos (l_le (n := 6) k6 (by omega)), if_pos (inb_nI hk (by decide)), ix_nI (by omega), ef k hk, abs_nI (by omega), lt_eq, nI_add]
        have e2 : osm f R k + ((0 : Int32) - f k).toInt.natAbs = osm f R (k + 1) := by
          rw [eo]
          unfold ofN
          rw [if_neg q, if_neg (by omega), es]
          omega
        rw [e2]
        exact ih
      · have hk6 : k < 6 := by omega
        obtain ⟨-, ⟨dn, hd, ed⟩⟩ := hI.2.2.1 k hk6
        have ti := ti_nI (n := dn) (by omega)
        have es : (nI dn - f k).toInt = dn - (f k).toInt := by rw [sub_ti (by omega) (by omega)]; omega
        rw [if_neg (l_ge (n := 6) hk6 (by decide)), if_pos (inb_nI hk6 (by decide)), ix_nI (by omega), lt_eq, if_pos (inb_nI hk (by decide)), ef k hk, show c 64 k = _ from (e_done hE hk6).trans ed, abs_nI (by omega), lt_eq, nI_add]
        have e2 : osm f R k + (nI dn - f k).toInt.natAbs = osm f R (k + 1) := by
          rw [eo]
          unfold ofN
          rw [if_neg q, if_pos hk6, ed, es]
          omega
        rw [e2]
        exact ih
theorem l_abs {x : Int64} {z : Int} (hx : x.toInt = z) (hz : -1000000 ≤ z ∧ z ≤ 1000000) : (0 ≤ lg_cmp x 0 → x = lN z.natAbs) ∧ (¬ 0 ≤ lg_cmp x 0 → -x = lN z.natAbs) := by
  have z0 : (0 : Int64).toInt = 0 := rfl
  constructor
  · intro h
    rw [lcmp_ge, Int64.le_iff_toInt_le] at h
    apply Int64.toInt_inj.mp
    rw [lN_toInt (by omega)]
    omega
  · intro h
    rw [lcmp_ge, Int64.le_iff_toInt_le] at h
    apply Int64.toInt_inj.mp
    rw [lN_toInt (by omega), Int64.toInt_neg, hx]
    rw [Int.bmod_eq_of_le (by omega) (by omega)]
    omega
theorem sub64 {a b : Int32} (h : -1000000 ≤ a.toInt - b.toInt ∧ a.toInt - b.toInt ≤ 1000000) : (a.toInt64 - b.toInt64).toInt = a.toInt - b.toInt := by
  rw [Int64.toInt_sub, Int32.toInt_toInt64, Int32.toInt_toInt64]
  exact Int.bmod_eq_of_le (by omega) (by omega)
theorem M_offL {m : Mm} {s n : Nat} {f : Nat → Int32} (hs : s < 4) (hn : n ≤ 24) (hI : Inv 999 (m 92)) (e1 : m 105 s = nI n) (ef : ∀ j, j < 24 → m 106 (24 * s + j) = f j) (hv : ∀ j, j < 24 → vok (f j)) (b2 b3 b4 : Int32) : ∀ (d k F : Nat), k + d = n → d < F → f_M_offBy_L26 F (nI s) b2 b3 b4 (lN (osm f (m 92) k)) (nI k) m = some (lN (osm f (m 92) n), nI n)
  | 0, k, F, h, hF => by
    obtain ⟨F, rfl⟩ : ∃ f, F = f + 1 := ⟨F - 1, by omega⟩
    have : k = n := by omega
    subst this
    rw [f_M_offBy_L26, if_pos (inb_nI hs (by decide)), ix_nI (by omega), e1, if_pos (nI_le (Nat.le_refl _) (by omega))]
  | d + 1, k, F, h, hF => by
    obtain ⟨F, rfl⟩ : ∃ f, F = f + 1 := ⟨F - 1, by omega⟩
    have hk : k < 24 := by omega
    have ih := M_offL hs hn hI e1 ef hv b2 b3 b4 d (k + 1) F (by omega) (by omega)
    have eo : osm f (m 92) (k + 1) = osm f (m 92) k + ofN (f k) (m 92) k := rfl
    have ex : (24 : Int32) * nI s + nI k = nI (24 * s + k) := by rw [show (24 : Int32) = nI 24 from rfl, pk_mul, nI_add]
    rw [f_M_offBy_L26, if_pos (inb_nI hs (by decide)), ix_nI (by omega), e1, if_neg (nI_ge (by omega) (by omega)), ex, if_pos (inb_nI (by omega) (by decide)), ix_nI (by omega), ef k hk, lt_eq, nI_1]
    have fin : ∀ (w : Int32), (f k ≠ (-1000000005) → -1000000 ≤ (f k).toInt - w.toInt ∧ (f k).toInt - w.toInt ≤ 1000000 ∧ ofN (f k) (m 92) k = ((f k).toInt - w.toInt).natAbs) → (lt ((f k).toInt64 - w.toInt64) fun x_75 => if f k = (-1000000005) then lt (lN (osm f (m 92) k) + 0) fun x_106 => f_M_offBy_L26 F (nI s) b2 b3 b4 x_106 (nI (k + 1)) m else if 0 ≤ lg_cmp x_75 0 then lt (lN (osm f (m 92) k) + x_75) fun x_106 => f_M_offBy_L26 F (nI s) b2 b3 b4 x_106 (nI (k + 1)) m else lt (lN (osm f (m 92) k) + (-x_75)) fun x_106 => f_M_offBy_L26 F (nI s) b2 b3 b4 x_106 (nI (k + 1)) m) = some (lN (osm f (m 92) n), nI n) := by
      intro w hw
      rw [lt_eq]
      by_cases q : f k = (-1000000005)
      · have e0 : lN (osm f (m 92) k) + 0 = lN (osm f (m 92) (k + 1)) := by
          rw [eo]
          unfold ofN
          rw [if_pos q]
          exact lN_add _ 0
        rw [if_pos q, lt_eq, e0]
        exact ih
      · obtain ⟨h1, h2, h3⟩ := hw q
        obtain ⟨p1, p2⟩ := l_abs (sub64 ⟨h1, h2⟩) ⟨h1, h2⟩
        rw [if_neg q]
        by_cases c0 : 0 ≤ lg_cmp ((f k).toInt64 - w.toInt64) 0
        · rw [if_pos c0, lt_eq, p1 c0, lN_add, ← h3, ← eo]; exact ih
        · rw [if_neg c0, lt_eq, p2 c0, lN_add, ← h3, ← eo]; exact ih
    by_cases k6 : k < 6
    · have t1 : f_M_isTable (nI k) = some 1 := by
        rcases tb_cases (nI k) with ⟨j, hj, ej, -, q⟩ | ⟨-, q⟩
        · exact q
        · unfold f_M_isTable f_M_in at q
          rw [if_neg (nI_pos (by omega)), if_neg (l_nlt (n := 5) (by omega) (by decide))] at q
          exact absurd (Option.some.inj q) (by decide)
      obtain ⟨-, ⟨dn, hd, ed⟩⟩ := hI.2.2.1 k k6
      rw [t1, bp_some, if_neg nz1, M_at01 k6, bp_some, ed]
      refine fin (nI dn) (fun q => ?_)
      obtain ⟨va, vb⟩ := (hv k hk).resolve_left q
      have ti := ti_nI (n := dn) (by omega)
      refine ⟨by omega, by omega, ?_⟩
      unfold ofN
      rw [if_neg q, if_pos k6, ed]
    · have t1 : f_M_isTable (nI k) = some 0 := by
        unfold f_M_isTable f_M_in
        rw [if_neg (nI_pos (by omega)), if_pos (l_lt (n := 5) (by omega) (by omega))]
        rfl
      rw [t1, bp_some, if_pos rfl]
      refine fin 0 (fun q => ?_)
      obtain ⟨va, vb⟩ := (hv k hk).resolve_left q
      have z0 : (0 : Int32).toInt = 0 := rfl
      refine ⟨by omega, by omega, ?_⟩
      unfold ofN
      rw [if_neg q, if_neg k6, z0]
def pcR (a : Mm) (k p : Nat) : Row := aHour (tvOf (a 92)) (-1) (upd (a 92) (35 + 3 * k) (nI p))
def pcv (w : Nat → Nat) : Nat → Nat → Nat → Nat → Nat × Nat
  | 0, _, b, s => (b, s)
  | d + 1, p, b, s => if s ≤ w p then pcv w d (p + 1) b s else pcv w d (p + 1) p (w p)
theorem pcR_inv {a : Mm} (g : Good a) {k p : Nat} (hk : k < 10) (hp : p ≤ 99) : Inv 999 (pcR a k p) := ((RW.pc g hk hp).hour _ _).1
/-- one pace, in the class -/
theorem S_pc1 {a c : Mm} (g : Good a) {s k p n : Nat} (hs : s < 4) (hk : k < 10) (hp : p ≤ 99) (hn : n ≤ 24) (en : a 105 s = nI n) {N : Nat} (hN : 500 ≤ N) (hc : CT a c) {α : Type} (K : Int32 → Mm → Option α) : ∃ c2, (bp (f_P_become 58 38 c) fun m_68 => if inb (nI k) 10 = true then lt (mst m_68 61 (ix (nI k)) (nI p)) fun m_81 => bd (f_P_passHour N 58 m_81) fun r_86 m_86 => if inb (nI s) 4 = true then bp (f_H_differsFrom N (68 + 2 * ix (nI s)) 64 m_86) fun r_103 => K r_103 m_86 else none else none) = K (nI (osm (fun j => a 106 (24 * s + j)) (pcR a k p) n)) c2 ∧ CT a c2 := by
  obtain ⟨c1, w1, w2, w3, w4⟩ := think_S g hc
  obtain ⟨p1, p2, p3, p4⟩ := put_S w4 w2 (RW.rf g) (k := 61) (i := k) (j := 35 + 3 * k) (v := nI p) ⟨by omega, by omega, by omega⟩ (Or.inl (by omega)) (u_pace w2.1 hk _) (g.1.1.2.2.2.pace hk hp) ⟨by omega, by omega⟩
  obtain ⟨c2, x1, x2, x3⟩ := P_hour (Or.inr (Or.inr rfl)) p1 (N := N) (by omega)
  rw [p3.tv, p4, w3] at x2
  have ct2 : CT a c2 := p2.tr x3.ct
  obtain ⟨q1, q2, ⟨n2, q3, q4, q5, -⟩, q6⟩ := g.2.2.2.2.1 s hs
  have hnn : n2 = n := (nI_eq (by omega) (by omega)).mp (q5.symm.trans en)
  subst hnn
  refine ⟨c2, ?_, ct2⟩
  rw [w1, bp_some, if_pos (inb_nI hk (by decide)), ix_nI (by omega), lt_eq, x1, bd_some, if_pos (inb_nI hs (by decide)), ix_nI (by omega)]
  unfold f_H_differsFrom
  rw [show f_H_differsFrom_L4 (68 + 2 * s) 64 N 0 0 c2 = _ from S_difL (s := s) (f := fun j => a 106 (24 * s + j)) hn x2.1 x2.2.2.2 (by rw [ct2 _ (by unfold scrC; omega)]; exact q4) (fun j hj => by rw [ct2 _ (by unfold scrC; omega)]; exact (q6 j hj).1) (fun j hj => (q6 j hj).2) n2 0 N (by omega) (by omega)]
  rfl
/-- one pace, in the reference -/
theorem M_pc1 {a m : Mm} (g : Good a) {s k p n : Nat} (hs : s < 4) (hk : k < 10) (hp : p ≤ 99) (hn : n ≤ 24) (en : a 105 s = nI n) {N : Nat} (hN : 500 ≤ N) (hc : TH a m) (h9 : m 92 = a 92) (hi : m 91 4 = (-1)) : ∃ m2, f_M_offBy N (nI s) (nI k) (nI p) m = some (lN (osm (fun j => a 106 (24 * s + j)) (pcR a k p) n), m2) ∧ TH a m2 ∧ m2 92 = a 92 ∧ m2 91 4 = (-1) ∧ CT a m2 := by
  obtain ⟨p1, p2, p3⟩ := hc.of (j := 35 + 3 * k) (v := nI p) (by rw [h9]; exact RW.pc g hk hp)
  obtain ⟨m1, w1, w2, w3, w4⟩ := hour_M g p1 hN
  rw [p3, hi, p2, h9] at w2
  obtain ⟨m2, v1, v2, v3, v4, v5⟩ := back_M g w3 hN
  obtain ⟨q1, q2, ⟨n2, q3, q4, q5, -⟩, q6⟩ := g.2.2.2.2.1 s hs
  have hnn : n2 = n := (nI_eq (by omega) (by omega)).mp (q5.symm.trans en)
  subst hnn
  refine ⟨m2, ?_, v2, v3, v4, v5⟩
  have e92 : m1 92 = pcR a k p := w2
  unfold f_M_offBy
  rw [ixM1, if_pos (inb_nI (by omega) (by decide)), ix_nI (by omega), lt_eq, w1, bd_some]
  have hL := M_offL (m := m1) (s := s) (f := fun j => a 106 (24 * s + j)) hs hn (by rw [e92]; exact pcR_inv g hk hp) (by rw [w3.2.2.2 105 (by unfold scrC; omega) (by omega) (by omega)]; exact q5) (fun j hj => by rw [w3.2.2.2 106 (by unfold scrC; omega) (by omega) (by omega)]) (fun j hj => (q6 j hj).2) (nI k) (nI p) (nI (aCount (tvOf (a 92)) (mst m 92 (35 + 3 * k) (nI p) 91 4) (mst m 92 (35 + 3 * k) (nI p) 92))) n2 0 N (by omega) (by omega)
  rw [e92] at hL
  rw [show f_M_offBy_L26 N (nI s) (nI k) (nI p) (nI (aCount (tvOf (a 92)) (mst m 92 (35 + 3 * k) (nI p) 91 4) (mst m 92 (35 + 3 * k) (nI p) 92))) 0 0 m1 = _ from hL, bp_some, v1]
  rfl
theorem S_pcL {a : Mm} (g : Good a) {s k n : Nat} (hs : s < 4) (hk : k < 10) (hn : n ≤ 24) (en : a 105 s = nI n) (b3 : Int32) {N : Nat} (hN : 500 ≤ N) : ∀ (d p F b l : Nat) (c : Mm), p + d = 41 → d < F → b ≤ 40 → l ≤ 101000 * 24 → CT a c → ∃ c2, f_S_paced_L53 N F (nI s) (nI k) b3 (nI b) (nI l) (nI p) c = some ((nI (pcv (fun p => osm (fun j => a 106 (24 * s + j)) (pcR a k p) n) d p b l).1, nI (pcv (fun p => osm (fun j => a 106 (24 * s + j)) (pcR a k p) n) d p b l).2, nI 41), c2) ∧ CT a c2
  | 0, p, F, b, l, c, h, hF, hb, hl, hc => by
    obtain ⟨F, rfl⟩ : ∃ f, F = f + 1 := ⟨F - 1, by omega⟩
    have : p = 41 := by omega
    subst this
    exact ⟨c, by rw [f_S_paced_L53, if_pos (l_lt (n := 40) (by omega) (by decide))]; rfl, hc⟩
  | d + 1, p, F, b, l, c, h, hF, hb, hl, hc => by
    obtain ⟨F, rfl⟩ : ∃ f, F = f + 1 := ⟨F - 1, by omega⟩
    have hv : ∀ j, j < 24 → vok (a 106 (24 * s + j)) := fun j hj => ((g.2.2.2.2.1 s hs).2.2.2 j hj).2
    have ho := osm_le hv (pcR_inv g hk (p := p) (by omega)) n hn
    obtain ⟨c2, x1, x2⟩ := S_pc1 g hs hk (p := p) (by omega) hn en hN hc (fun r_103 m_86 => if nI b = (-1000000005) then f_S_paced_L53 N F (nI s) (nI k) b3 (nI p) r_103 (nI p + 1) m_86 else if nI l ≤ r_103 then f_S_paced_L53 N F (nI s) (nI k) b3 (nI b) (nI l) (nI p + 1) m_86 else f_S_paced_L53 N F (nI s) (nI k) b3 (nI p) r_103 (nI p + 1) m_86)
    rw [f_S_paced_L53, if_neg (l_nlt (n := 40) (by omega) (by decide)), x1]
    have nb : ¬ nI b = (-1000000005) := by
      intro q
      rw [eq_ti, ti_nI (by omega)] at q
      have : ((-1000000005 : Int32)).toInt = -1000000005 := by decide
      omega
    rw [if_neg nb, nI_1]
    unfold pcv
    by_cases q : l ≤ osm (fun j => a 106 (24 * s + j)) (pcR a k p) n
    · rw [if_pos (nI_le q (by omega)), if_pos q]
      exact S_pcL g hs hk hn en b3 hN d (p + 1) F b l c2 (by omega) (by omega) hb hl x2
    · rw [if_neg (nI_ge (by omega) (by omega)), if_neg q]
      exact S_pcL g hs hk hn en b3 hN d (p + 1) F p _ c2 (by omega) (by omega) (by omega) (by omega) x2
theorem M_pcL {a : Mm} (g : Good a) {s k n : Nat} (hs : s < 4) (hk : k < 10) (hn : n ≤ 24) (en : a 105 s = nI n) (b3 : Int32) {N : Nat} (hN : 500 ≤ N) : ∀ (d p F b l : Nat) (m : Mm), p + d = 41 → d < F → l ≤ 101000 * 24 → TH a m → m 92 = a 92 → m 91 4 = (-1) → CT a m → ∃ m2, f_M_paced_L58 N F (nI s) (nI k) b3 (nI b) (lN l) (nI p) m = some ((nI (pcv (fun p => osm (fun j => a 106 (24 * s + j)) (pcR a k p) n) d p b l).1, lN (pcv (fun p => osm (fun j => a 106 (24 * s + j)) (pcR a k p) n) d p b l).2, nI 41), m2) ∧ CT a m2
  | 0, p, F, b, l, m, h, hF, hl, hc, h9, hi, hct => by
    obtain ⟨F, rfl⟩ : ∃ f, F = f + 1 := ⟨F - 1, by omega⟩
    have : p = 41 := by omega
    subst this
    exact ⟨m, by rw [f_M_paced_L58, if_pos (l_lt (n := 40) (by omega) (by decide))]; rfl, hct⟩
  | d + 1, p, F, b, l, m, h, hF, hl, hc, h9, hi, hct => by
    obtain ⟨F, rfl⟩ : ∃ f, F = f + 1 := ⟨F - 1, by omega⟩
    have hv : ∀ j, j < 24 → vok (a 106 (24 * s + j)) := fun j hj => ((g.2.2.2.2.1 s hs).2.2.2 j hj).2
    have ho := osm_le hv (pcR_inv g hk (p := p) (by omega)) n hn
    obtain ⟨m2, x1, x2, x3, x4, x5⟩ := M_pc1 g hs hk (p := p) (by omega) hn en hN hc h9 hi
    rw [f_M_paced_L58, if_neg (l_nlt (n := 40) (by omega) (by decide)), x1, bd_some, lt_eq, nI_1]
    unfold pcv
    by_cases q : l ≤ osm (fun j => a 106 (24 * s + j)) (pcR a k p) n
    · have q2 : 0 ≤ lg_cmp (lN (osm (fun j => a 106 (24 * s + j)) (pcR a k p) n)) (lN l) := (lcmp_ge _ _).mpr ((lN_le (by omega) (by omega)).mpr q)
      rw [if_pos q2, if_pos q2, if_pos q]
      exact M_pcL g hs hk hn en b3 hN d (p + 1) F b l m2 (by omega) (by omega) hl x2 x3 x4 x5
    · have q2 : ¬ 0 ≤ lg_cmp (lN (osm (fun j => a 106 (24 * s + j)) (pcR a k p) n)) (lN l) := fun z => q ((lN_le (by omega) (by omega)).mp ((lcmp_ge _ _).mp z))
      rw [if_neg q2, if_neg q2, if_neg q]
      exact M_pcL g hs hk hn en b3 hN d (p + 1) F p _ m2 (by omega) (by omega) (by omega) x2 x3 x4 x5
theorem ok_paced {m : Mm} (g : Good m) (a b c : Int32) {N : Nat} (hN : 500 ≤ N) : Ok2 (f_S_paced N a b c) (f_M_paced N a b c) m := by
  unfold Ok2 f_S_paced f_M_paced
  rcases sh_cases a with ⟨s, hs, rfl, s1, s2⟩ | ⟨s1, s2⟩
  case inr => exact ⟨_, m, m, by rw [s1, bp_some, if_pos rfl], by rw [s2, bp_some, if_pos rfl], g⟩
  rcases mk_cases g b with ⟨k, M, hk, hM, eM, rfl, t1, t2⟩ | ⟨t1, t2⟩
  case inr => exact ⟨_, m, m, by rw [s1, bp_some, if_neg nz1, t1, bp_some, if_pos rfl], by rw [s2, bp_some, if_neg nz1, t2 m rfl, bp_some, if_pos rfl], g⟩
  rcases wi_cases c (lo := 0) (hi := 1) (by decide) (by decide) with ⟨w, k1, k2, rfl, u1, u2⟩ | ⟨u1, u2⟩
  case inr => exact ⟨_, m, m, by rw [s1, bp_some, if_neg nz1, t1, bp_some, if_neg nz1, show f_S_within c 0 1 = _ from u1, bp_some, if_pos rfl], by rw [s2, bp_some, if_neg nz1, t2 m rfl, bp_some, if_neg nz1, show f_M_in c 0 1 = _ from u2, bp_some, if_pos rfl], g⟩
  have hk10 : k < 10 := by omega
  obtain ⟨q1, q2, ⟨n, q3, q4, q5, -⟩, q6⟩ := g.2.2.2.2.1 s hs
  rw [s1, bp_some, if_neg nz1, t1, bp_some, if_neg nz1, show f_S_within (nI w) 0 1 = _ from u1, bp_some, if_neg nz1, if_pos (inb_nI hs (by decide)), ix_nI (by omega), q1]
  by_cases hm : m 104 s = (-1)
  · rw [if_pos hm]
    refine ⟨_, m, m, rfl, ?_, g⟩
    rw [s2, bp_some, if_neg nz1, t2 m rfl, bp_some, if_neg nz1, show f_M_in (nI w) 0 1 = _ from u2, bp_some, if_neg nz1, if_pos (inb_nI hs (by decide)), hm, if_neg (by decide)]
  rw [if_neg hm]
  have hv : ∀ j, j < 24 → vok (m 106 (24 * s + j)) := fun j hj => (q6 j hj).2
  have ho := osm_le hv (pcR_inv g hk10 (p := 1) (by omega)) n q3
  obtain ⟨F, eF⟩ : ∃ f, N = f + 1 := ⟨N - 1, by omega⟩
  obtain ⟨c1, x1, x2⟩ := S_pc1 g hs hk10 (p := 1) (by omega) q3 q5 hN CT.rf (fun r_103 m_86 => if (-1000000005 : Int32) = (-1000000005) then f_S_paced_L53 N F (nI s) (nI k) (nI w) (nI 1) r_103 (nI 1 + 1) m_86 else if 0 ≤ r_103 then f_S_paced_L53 N F (nI s) (nI k) (nI w) (-1000000005) 0 (nI 1 + 1) m_86 else f_S_paced_L53 N F (nI s) (nI k) (nI w) (nI 1) r_103 (nI 1 + 1) m_86)
  obtain ⟨c2, x3, x4⟩ := S_pcL g hs hk10 q3 q5 (nI w) hN 39 2 F 1 (osm (fun j => m 106 (24 * s + j)) (pcR m k 1) n) c1 (by omega) (by omega) (by omega) (by omega) x2
  have hS : f_S_paced_L53 N N (nI s) (nI k) (nI w) (-1000000005) 0 1 m = some ((nI (pcv (fun p => osm (fun j => m 106 (24 * s + j)) (pcR m k p) n) 39 2 1 (osm (fun j => m 106 (24 * s + j)) (pcR m k 1) n)).1, nI (pcv (fun p => osm (fun j => m 106 (24 * s + j)) (pcR m k p) n) 39 2 1 (osm (fun j => m 106 (24 * s + j)) (pcR m k 1) n)).2, nI 41), c2) := by
    have e1 : f_S_paced_L53 N N (nI s) (nI k) (nI w) (-1000000005) 0 1 m = f_S_paced_L53 N (F + 1) (nI s) (nI k) (nI w) (-1000000005) 0 1 m := by rw [← eF]
    rw [e1, f_S_paced_L53, if_neg (by decide)]
    refine Eq.trans x1 ?_
    rw [if_pos rfl]
    exact x3
  obtain ⟨m3, y1, y2, y3, y4⟩ := think_M g x4 hN
  obtain ⟨m4, z1, z2, z3, z4, z5⟩ := M_pc1 g hs hk10 (p := 1) (by omega) q3 q5 hN y2 y3 y4
  obtain ⟨m5, v1, v2⟩ := M_pcL g hs hk10 q3 q5 (nI w) hN 39 2 N 1 (osm (fun j => m 106 (24 * s + j)) (pcR m k 1) n) m4 (by omega) (by omega) (by omega) z2 z3 z4 z5
  rw [hS, bd_some]
  refine ⟨_, c2, m5, rfl, ?_, g.scr v2⟩
  have e104 : 0 ≤ c2 104 s := by
    rw [x4 104 (by unfold scrC; omega)]
    rcases q2 with e | e | e
    · exact absurd e hm
    · rw [e]; decide
    · rw [e]; decide
  rw [s2, bp_some, if_neg nz1, t2 c2 (by rw [x4 92 (by unfold scrC; omega)]), bp_some, if_neg nz1, show f_M_in (nI w) 0 1 = _ from u2, bp_some, if_neg nz1, if_pos (inb_nI hs (by decide)), if_pos e104, y1, bp_some, show f_M_offBy N (nI s) (nI k) 1 m3 = _ from z1, bd_some, show f_M_paced_L58 N N (nI s) (nI k) (nI w) 1 (lN (osm (fun j => m 106 (24 * s + j)) (pcR m k 1) n)) 2 m4 = _ from v1, bd_some]
  show some (if nI w = 0 then _ else (lN _).toInt32, m5) = some (if nI w = 0 then _ else _, m5)
  rw [lN_i]
