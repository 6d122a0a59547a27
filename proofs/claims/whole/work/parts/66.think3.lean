/-! PURE: behind, lacks, dry, never, goes, blamed, slower -/
theorem put_S {a c : Mm} {r : Row} (h : CT a c) (hP : Pc 999 58 c r) (hr : RW (a 92) r) {k i j : Nat} {v : Int32} (hk : 58 ≤ k ∧ k ≤ 67 ∧ k ≠ 59) (hi : k ≠ 58 ∨ i ≠ 18) (hE : Eqv 58 (mst c k i v) (upd r j v)) (hI : Inv 999 (upd r j v)) (hj : j < 64 ∧ j ≠ 6) : Pc 999 58 (mst c k i v) (upd r j v) ∧ CT a (mst c k i v) ∧ RW (a 92) (upd r j v) ∧ mst c k i v 58 18 = c 58 18 := by
  have hF : PF 58 c (mst c k i v) := PF.rf.put k i v ⟨by omega, by omega, by omega⟩ hi
  have e6 : upd r j v 6 = r 6 := pk_un (by omega)
  have eh : ∀ q, 64 ≤ q → upd r j v q = r q := fun q hq => pk_un (by omega)
  exact ⟨hP.nx (Or.inr (Or.inr rfl)) hE hF hI e6 eh, h.tr hF.ct, ⟨hI, e6.trans hr.2.1, fun q hq => (eh q hq).trans (hr.2.2 q hq)⟩, hF.2⟩
theorem RW.rf {m : Mm} (g : Good m) : RW (m 92) (m 92) := ⟨g.1.1.2.2.2, rfl, fun _ _ => rfl⟩
theorem ok_behind {m : Mm} (g : Good m) (a b : Int32) {N : Nat} (hN : 500 ≤ N) : Ok2 (f_S_behind N a b) (f_M_behind N a b) m := by
  unfold Ok2 f_S_behind f_M_behind
  rcases wi_cases a (lo := 0) (hi := 100) (by decide) (by decide) with ⟨n, h1, h2, rfl, t1, t2⟩ | ⟨t1, t2⟩
  case inr => exact ⟨_, m, m, by rw [show f_S_within a 0 100 = _ from t1, bp_some, if_pos rfl], by rw [show f_M_in a 0 100 = _ from t2, bp_some, if_pos rfl], g⟩
  rcases wi_cases b (lo := 0) (hi := 3) (by decide) (by decide) with ⟨w, k1, k2, rfl, u1, u2⟩ | ⟨u1, u2⟩
  case inr => exact ⟨_, m, m, by rw [show f_S_within (nI n) 0 100 = _ from t1, bp_some, if_neg nz1, show f_S_within b 0 3 = _ from u1, bp_some, if_pos rfl], by rw [show f_M_in (nI n) 0 100 = _ from t2, bp_some, if_neg nz1, show f_M_in b 0 3 = _ from u2, bp_some, if_pos rfl], g⟩
  obtain ⟨c1, w1, w2, w3, w4⟩ := think_S g CT.rf
  obtain ⟨c2, x1, x2, x3, x4⟩ := run_S (RW.rf g) w4 w2 (n := n) (N := N) (by omega) hN
  rw [w3] at x1 x2
  rw [show f_S_within (nI n) 0 100 = _ from t1, bp_some, if_neg nz1, show f_S_within (nI w) 0 3 = _ from u1, bp_some, if_neg nz1, w1, bp_some, x1, bd_some]
  obtain ⟨m3, y1, y2, y3, y4⟩ := think_M g x3 hN
  obtain ⟨m4, z1, z2, z3, z4⟩ := run_M g y2 (n := n) (N := N) (by omega) hN
  rw [y4, y3] at z1 z2
  obtain ⟨m5, v1, v2, v3, v4, v5⟩ := back_M g z3 hN
  have hM : ∀ {α : Type} (k : Mm → Option α), (bp (f_M_in (nI n) 0 100) fun r_4 => if r_4 = 0 then none else bp (f_M_in (nI w) 0 3) fun r_13 => if r_13 = 0 then none else bp (f_M_thinks N c2) fun m_23 => bd (f_M_goesOn N (nI n) m_23) fun r_28 m_28 => k m_28) = k m4 := by
    intro α k
    rw [show f_M_in (nI n) 0 100 = _ from t2, bp_some, if_neg nz1, show f_M_in (nI w) 0 3 = _ from u2, bp_some, if_neg nz1, y1, bp_some, z1, bd_some]
  have hg : Good m5 := g.scr v5
  match w, k2 with
  | 0, _ =>
    rw [if_pos (show nI 0 = 0 from rfl), S_sum (by decide) (by omega), bp_some, show sm (c2 66) 6 = _ from sum_wiped x2.1]
    refine ⟨_, c2, m5, rfl, ?_, hg⟩
    rw [show f_M_in (nI n) 0 100 = _ from t2, bp_some, if_neg nz1, show f_M_in (nI 0) 0 3 = _ from u2, bp_some, if_neg nz1, y1, bp_some, z1, bd_some, if_pos (show nI 0 = 0 from rfl), show f_M_sumOf N 3 m4 = _ from M_sumOf (w := 3) (by decide) (by omega), bp_some, v1, bp_some, z2]
  | 1, _ =>
    rw [if_neg (by decide), if_pos (show nI 1 = 1 from rfl), S_sum (by decide) (by omega), bp_some, show sm (c2 65) 6 = _ from sum_faults x2.1]
    refine ⟨_, c2, m5, rfl, ?_, hg⟩
    rw [show f_M_in (nI n) 0 100 = _ from t2, bp_some, if_neg nz1, show f_M_in (nI 1) 0 3 = _ from u2, bp_some, if_neg nz1, y1, bp_some, z1, bd_some, if_neg (by decide), if_pos (show nI 1 = 1 from rfl), show f_M_sumOf N 2 m4 = _ from M_sumOf (w := 2) (by decide) (by omega), bp_some, v1, bp_some, z2]
  | 2, _ =>
    rw [if_neg (by decide), if_neg (by decide), if_pos (show nI 2 = 2 from rfl), e_spilt x2.1]
    refine ⟨_, c2, m5, rfl, ?_, hg⟩
    rw [show f_M_in (nI n) 0 100 = _ from t2, bp_some, if_neg nz1, show f_M_in (nI 2) 0 3 = _ from u2, bp_some, if_neg nz1, y1, bp_some, z1, bd_some, if_neg (by decide), if_neg (by decide), if_pos (show nI 2 = 2 from rfl), lt_eq, v1, bp_some, ixc_4, z2]
  | 3, _ =>
    rw [if_neg (by decide), if_neg (by decide), if_neg (by decide), e_ends x2.1]
    refine ⟨_, c2, m5, rfl, ?_, hg⟩
    rw [show f_M_in (nI n) 0 100 = _ from t2, bp_some, if_neg nz1, show f_M_in (nI 3) 0 3 = _ from u2, bp_some, if_neg nz1, y1, bp_some, z1, bd_some, if_neg (by decide), if_neg (by decide), if_neg (by decide), lt_eq, v1, bp_some, ixc_5, z2]
-- lacks
def lck (r : Row) : Nat → Int32
  | 0 => 0
  | t + 1 => if r (10 + 4 * t) / 2 ≤ r (11 + 4 * t) then lck r t else lck r t ||| (1 <<< (nI t &&& 31))
theorem S_lackL {c : Mm} {r : Row} (hE : Eqv 58 c r) (b1 : Int32) : ∀ (d t F : Nat), t + d = 6 → d < F → f_S_lacks_L37 F b1 (lck r t) (nI t) c = some (lck r 6, nI 6)
  | 0, t, F, h, hF => by
    obtain ⟨F, rfl⟩ : ∃ f, F = f + 1 := ⟨F - 1, by omega⟩
    have : t = 6 := by omega
    subst this
    rw [f_S_lacks_L37, if_pos (l_le (n := 6) (by omega) (by decide))]
  | d + 1, t, F, h, hF => by
    obtain ⟨F, rfl⟩ : ∃ f, F = f + 1 := ⟨F - 1, by omega⟩
    have ht : t < 6 := by omega
    have ih := S_lackL hE b1 d (t + 1) F (by omega) (by omega)
    rw [f_S_lacks_L37, if_neg (l_ge (n := 6) ht (by decide)), if_pos (inb_nI ht (by decide)), ix_nI (by omega), show c 63 t = _ from e_need hE ht, show c 64 t = _ from e_done hE ht, nI_1]
    unfold lck at ih
    by_cases q : r (10 + 4 * t) / 2 ≤ r (11 + 4 * t)
    · rw [if_pos q] at ih ⊢; exact ih
    · rw [if_neg q] at ih ⊢; rw [lt_eq]; exact ih
theorem M_lackL {m : Mm} (b1 b2 : Int32) : ∀ (d t F : Nat), t + d = 6 → d < F → f_M_lacks_L28 F b1 b2 (lck (m 92) t) (nI t) m = some (lck (m 92) 6, nI 6)
  | 0, t, F, h, hF => by
    obtain ⟨F, rfl⟩ : ∃ f, F = f + 1 := ⟨F - 1, by omega⟩
    have : t = 6 := by omega
    subst this
    rw [f_M_lacks_L28, if_pos (l_le (n := 6) (by omega) (by decide))]
  | d + 1, t, F, h, hF => by
    obtain ⟨F, rfl⟩ : ∃ f, F = f + 1 := ⟨F - 1, by omega⟩
    have ht : t < 6 := by omega
    have ih := M_lackL (m := m) b1 b2 d (t + 1) F (by omega) (by omega)
    rw [f_M_lacks_L28, if_neg (l_ge (n := 6) ht (by decide)), M_at01 ht, bp_some, M_at00 ht, bp_some, lt_eq, nI_1]
    unfold lck at ih
    by_cases q : m 92 (10 + 4 * t) / 2 ≤ m 92 (11 + 4 * t)
    · rw [if_pos q] at ih ⊢; rw [Int32.or_zero]; exact ih
    · rw [if_neg q] at ih ⊢; exact ih
theorem ok_lacks {m : Mm} (g : Good m) (a : Int32) {N : Nat} (hN : 500 ≤ N) : Ok2 (f_S_lacks N a) (f_M_lacks N a) m := by
  unfold Ok2 f_S_lacks f_M_lacks
  rcases wi_cases a (lo := 0) (hi := 100) (by decide) (by decide) with ⟨n, h1, h2, rfl, t1, t2⟩ | ⟨t1, t2⟩
  case inr => exact ⟨_, m, m, by rw [show f_S_within a 0 100 = _ from t1, bp_some, if_pos rfl], by rw [show f_M_in a 0 100 = _ from t2, bp_some, if_pos rfl], g⟩
  obtain ⟨c1, w1, w2, w3, w4⟩ := think_S g CT.rf
  obtain ⟨c2, x1, x2, x3, x4⟩ := run_S (RW.rf g) w4 w2 (n := n) (N := N) (by omega) hN
  rw [w3] at x1 x2
  obtain ⟨m3, y1, y2, y3, y4⟩ := think_M g x3 hN
  obtain ⟨m4, z1, z2, z3, z4⟩ := run_M g y2 (n := n) (N := N) (by omega) hN
  rw [y4, y3] at z1 z2
  obtain ⟨m5, v1, v2, v3, v4, v5⟩ := back_M g z3 hN
  rw [show f_S_within (nI n) 0 100 = _ from t1, bp_some, if_neg nz1, w1, bp_some, x1, bd_some, show f_S_lacks_L37 N (nI n) 0 0 c2 = _ from S_lackL x2.1 (nI n) 6 0 N (by omega) (by omega), bp_some]
  refine ⟨_, c2, m5, rfl, ?_, g.scr v5⟩
  rw [show f_M_in (nI n) 0 100 = _ from t2, bp_some, if_neg nz1, y1, bp_some, z1, bd_some, show f_M_lacks_L28 N (nI n) (nI (aWs (tvOf (m 92)) (-1) (m 92) n)) 0 0 m4 = _ from M_lackL (m := m4) (nI n) _ 6 0 N (by omega) (by omega), bp_some, v1, bp_some, z2]
-- dry
def dryv (R : Nat → Row) (t k : Nat) : Nat → Int32
  | 0 => if R k (7 + t) = 0 then 300 else (-1000000005)
  | d + 1 => if R k (7 + t) = 0 then nI k else dryv R t (k + 1) d
theorem S_dryL {a : Mm} (g : Good a) {t : Nat} (ht : t < 3) {N : Nat} (hN : 500 ≤ N) : ∀ (d k F : Nat) (c : Mm), k + d = 300 → d < F → CT a c → c 58 18 = (-1) → Pc 999 58 c (aHours (tvOf (a 92)) (-1) (a 92) k) → ∃ c2, f_S_dry_L23 N F (nI t) (nI k) c = some (dryv (aHours (tvOf (a 92)) (-1) (a 92)) t k d, c2) ∧ CT a c2
  | 0, k, F, c, h, hF, hc, hi, hP => by
    obtain ⟨F, rfl⟩ : ∃ f, F = f + 1 := ⟨F - 1, by omega⟩
    have : k = 300 := by omega
    subst this
    refine ⟨c, ?_, hc⟩
    rw [f_S_dry_L23, if_pos (l_le (n := 300) (by omega) (by decide)), if_pos (inb_nI ht (by decide)), ix_nI (by omega), show c 67 t = _ from e_sand hP.1 ht]
    rfl
  | d + 1, k, F, c, h, hF, hc, hi, hP => by
    obtain ⟨F, rfl⟩ : ∃ f, F = f + 1 := ⟨F - 1, by omega⟩
    have hk := (RW.rf g).hours (tvOf (a 92)) (-1) k
    rw [f_S_dry_L23, if_neg (l_ge (n := 300) (by omega) (by decide)), if_pos (inb_nI ht (by decide)), ix_nI (by omega), show c 67 t = _ from e_sand hP.1 ht]
    unfold dryv
    by_cases q : aHours (tvOf (a 92)) (-1) (a 92) k (7 + t) = 0
    · rw [if_pos q, if_pos q]; exact ⟨c, rfl, hc⟩
    · rw [if_neg q, if_neg q]
      obtain ⟨c1, w1, w2, w3⟩ := P_hour (Or.inr (Or.inr rfl)) hP (N := N) (by omega)
      rw [hk.tv, hi] at w2
      rw [w1, bd_some, nI_1]
      exact S_dryL g ht hN d (k + 1) F c1 (by omega) (by omega) (hc.tr w3.ct) (w3.2.trans hi) w2
theorem M_dryL {a : Mm} (g : Good a) {t : Nat} (ht : t < 3) {N : Nat} (hN : 500 ≤ N) : ∀ (d k F : Nat) (m : Mm), k + d = 300 → d + 1 < F → TH a m → m 91 4 = (-1) → m 92 = aHours (tvOf (a 92)) (-1) (a 92) k → ∃ y m2, f_M_dry_L18 N F (nI t) (nI k) m = some (y, m2) ∧ (if 300 < y then ((-1000000005) : Int32) else y) = dryv (aHours (tvOf (a 92)) (-1) (a 92)) t k d ∧ TH a m2
  | d, k, F, m, h, hF, hc, hi, h9 => by
    obtain ⟨F, rfl⟩ : ∃ f, F = f + 1 := ⟨F - 1, by omega⟩
    have hk := (RW.rf g).hours (tvOf (a 92)) (-1) k
    obtain ⟨s, hs, es⟩ := hk.1.2.1 t ht
    rw [f_M_dry_L18, if_neg (l_nlt (n := 300) (by omega) (by decide)), ixR, if_pos (inb_nI (by omega) (by decide)), ix_nI (by omega), h9, es]
    by_cases q : s = 0
    · subst q
      rw [if_pos (by decide)]
      refine ⟨nI k, m, rfl, ?_, hc⟩
      rw [if_neg (l_nlt (n := 300) (by omega) (by decide))]
      cases d with
      | zero => unfold dryv; rw [es, if_pos (show nI 0 = 0 from rfl)]; have : k = 300 := by omega
                subst this; rfl
      | succ d => unfold dryv; rw [es, if_pos (show nI 0 = 0 from rfl)]
    · rw [if_neg (nI_nle (by omega) (by omega))]
      obtain ⟨m1, w1, w2, w3, w4⟩ := hour_M g hc hN
      rw [hi, h9] at w2
      rw [w1, bd_some, nI_1]
      cases d with
      | zero =>
        have : k = 300 := by omega
        subst this
        obtain ⟨F, rfl⟩ : ∃ f, F = f + 1 := ⟨F - 1, by omega⟩
        refine ⟨nI 301, m1, ?_, ?_, w3⟩
        · rw [f_M_dry_L18, if_pos (l_lt (n := 300) (by omega) (by decide))]
        · unfold dryv
          rw [es, if_neg (nI_ne0 (by omega) (by omega))]
          decide
      | succ d =>
        obtain ⟨y, m2, u1, u2, u3⟩ := M_dryL g ht hN d (k + 1) F m1 (by omega) (by omega) w3 (w4.trans hi) w2
        refine ⟨y, m2, u1, ?_, u3⟩
        rw [u2]
        show _ = if aHours (tvOf (a 92)) (-1) (a 92) k (7 + t) = 0 then nI k else dryv (aHours (tvOf (a 92)) (-1) (a 92)) t (k + 1) d
        rw [es, if_neg (nI_ne0 (by omega) (by omega))]
theorem ok_dry {m : Mm} (g : Good m) (a : Int32) {N : Nat} (hN : 500 ≤ N) : Ok2 (f_S_dry N a) (f_M_dry N a) m := by
  unfold Ok2 f_S_dry f_M_dry
  rcases rv_cases a with ⟨t, ht, rfl, s1, s2⟩ | ⟨s1, s2⟩
  case inr => exact ⟨_, m, m, by rw [s1, bp_some, if_pos rfl], by rw [s2, bp_some, if_pos rfl], g⟩
  obtain ⟨c1, w1, w2, w3, w4⟩ := think_S g CT.rf
  obtain ⟨c2, x1, x2⟩ := S_dryL g ht hN 300 0 N c1 (by omega) (by omega) w4 w3 w2
  obtain ⟨m3, y1, y2, y3, y4⟩ := think_M g x2 hN
  obtain ⟨y, m4, z1, z2, z3⟩ := M_dryL g ht hN 300 0 N m3 (by omega) (by omega) y2 y4 y3
  obtain ⟨m5, v1, v2, v3, v4, v5⟩ := back_M g z3 hN
  rw [s1, bp_some, if_neg nz1, w1, bp_some, show f_S_dry_L23 N N (nI t) 0 c1 = _ from x1]
  refine ⟨_, c2, m5, rfl, ?_, g.scr v5⟩
  rw [s2, bp_some, if_neg nz1, y1, bp_some, show f_M_dry_L18 N N (nI t) 0 m3 = _ from z1, bd_some, v1, bp_some, z2]
-- never
def nvr (R : Nat → Row) (e0 : Int32) (k : Nat) : Nat → Int32
  | 0 => (-1000000005)
  | d + 1 => if R k 5 = e0 then nvr R e0 (k + 1) d else nI k
theorem S_nevL {a : Mm} (g : Good a) {e : Nat} (he : e ≤ 9999) (e5 : a 92 5 = nI e) {N : Nat} (hN : 500 ≤ N) : ∀ (d k F h : Nat) (c : Mm), k + 1 + d = 301 → d < F → CT a c → c 58 18 = (-1) → Pc 999 58 c (aHours (tvOf (a 92)) (-1) (a 92) k) → aHours (tvOf (a 92)) (-1) (a 92) k 2 = nI h → aHours (tvOf (a 92)) (-1) (a 92) k 5 = nI e → ∃ c2, f_S_never_L13 N F (nI (k + 1)) c = some (nvr (aHours (tvOf (a 92)) (-1) (a 92)) (nI e) (k + 1) d, c2) ∧ CT a c2
  | 0, k, F, hh, c, h, hF, hc, hi, hP, q2, q5 => by
    obtain ⟨F, rfl⟩ : ∃ f, F = f + 1 := ⟨F - 1, by omega⟩
    refine ⟨c, ?_, hc⟩
    rw [f_S_never_L13, if_pos (l_lt (n := 300) (by omega) (by omega))]
    rfl
  | d + 1, k, F, hh, c, h, hF, hc, hi, hP, q2, q5 => by
    obtain ⟨F, rfl⟩ : ∃ f, F = f + 1 := ⟨F - 1, by omega⟩
    have hk := (RW.rf g).hours (tvOf (a 92)) (-1) k
    obtain ⟨c1, w1, w2, w3⟩ := P_hour (Or.inr (Or.inr rfl)) hP (N := N) (by omega)
    rw [hk.tv, hi] at w2
    have e38 : c1 38 16 = nI e := by
      rw [(hc.tr w3.ct) 38 (by unfold scrC; omega)]
      exact (e_ends g.1.1.1).trans e5
    obtain ⟨e2, j1, j2, j3⟩ := aHour_25 hk.1 (tvOf (a 92)) (-1) q2 q5
    have e58 : c1 58 16 = nI e2 := (e_ends w2.1).trans j3
    rw [f_S_never_L13, if_neg (l_nlt (n := 300) (by omega) (by decide)), w1, bd_some, e38, e58]
    have en : aHours (tvOf (a 92)) (-1) (a 92) (k + 1) 5 = nI e2 := j3
    unfold nvr
    rw [en]
    by_cases q : e2 = e
    · subst q
      rw [if_pos (nI_le (Nat.le_refl _) (by omega)), if_pos rfl, nI_1]
      exact S_nevL g he e5 hN d (k + 1) F _ c1 (by omega) (by omega) (hc.tr w3.ct) (w3.2.trans hi) w2 j2 j3
    · rw [if_neg (nI_ge (by omega) (by omega)), if_neg (fun z => q ((nI_eq (by omega) (by omega)).mp z))]
      exact ⟨c1, rfl, hc.tr w3.ct⟩
theorem M_nevL {a : Mm} (g : Good a) {e : Nat} (e5 : a 92 5 = nI e) {N : Nat} (hN : 500 ≤ N) : ∀ (d k F : Nat) (m : Mm), k + d = 301 → d < F → TH a m → m 91 4 = (-1) → m 92 = aHours (tvOf (a 92)) (-1) (a 92) k → ∃ y m2, f_M_never_L6 N F (nI k) m = some (y, m2) ∧ (if 300 < y then ((-1000000005) : Int32) else y) = nvr (aHours (tvOf (a 92)) (-1) (a 92)) (nI e) k d ∧ TH a m2
  | 0, k, F, m, h, hF, hc, hi, h9 => by
    obtain ⟨F, rfl⟩ : ∃ f, F = f + 1 := ⟨F - 1, by omega⟩
    have : k = 301 := by omega
    subst this
    refine ⟨nI 301, m, ?_, ?_, hc⟩
    · rw [f_M_never_L6, if_pos (l_lt (n := 300) (by omega) (by decide))]
    · rw [if_pos (l_lt (n := 300) (by omega) (by decide))]; rfl
  | d + 1, k, F, m, h, hF, hc, hi, h9 => by
    obtain ⟨F, rfl⟩ : ∃ f, F = f + 1 := ⟨F - 1, by omega⟩
    rw [f_M_never_L6, if_neg (l_nlt (n := 300) (by omega) (by decide)), ixc_5, hc.1 5 (by decide), e5, h9]
    unfold nvr
    by_cases q : aHours (tvOf (a 92)) (-1) (a 92) k 5 = nI e
    · rw [if_pos q, if_pos q]
      obtain ⟨m1, w1, w2, w3, w4⟩ := hour_M g hc hN
      rw [hi, h9] at w2
      rw [w1, bd_some, nI_1]
      exact M_nevL g e5 hN d (k + 1) F m1 (by omega) (by omega) w3 (w4.trans hi) w2
    · rw [if_neg q, if_neg q]
      exact ⟨nI k, m, rfl, by rw [if_neg (l_nlt (n := 300) (by omega) (by decide))], hc⟩
theorem ok_never {m : Mm} (g : Good m) {N : Nat} (hN : 500 ≤ N) : Ok2 (f_S_never N) (f_M_never N) m := by
  unfold Ok2 f_S_never f_M_never
  obtain ⟨h, e, q1, q2, q3, q4⟩ := g.1.2.1
  obtain ⟨c1, w1, w2, w3, w4⟩ := think_S g CT.rf
  obtain ⟨c2, x1, x2⟩ := S_nevL g (by omega) q4 hN 300 0 N h c1 (by omega) (by omega) w4 w3 w2 q3 q4
  obtain ⟨m3, y1, y2, y3, y4⟩ := think_M g x2 hN
  obtain ⟨y, m4, z1, z2, z3⟩ := M_nevL g q4 hN 301 0 N m3 (by omega) (by omega) y2 y4 y3
  obtain ⟨m5, v1, v2, v3, v4, v5⟩ := back_M g z3 hN
  rw [w1, bp_some, show f_S_never_L13 N N 1 c1 = _ from x1]
  refine ⟨_, c2, m5, rfl, ?_, g.scr v5⟩
  rw [y1, bp_some, show f_M_never_L6 N N 0 m3 = _ from z1, bd_some, v1, bp_some, z2]
  have : nvr (aHours (tvOf (m 92)) (-1) (m 92)) (nI e) 0 301 = if aHours (tvOf (m 92)) (-1) (m 92) 0 5 = nI e then nvr (aHours (tvOf (m 92)) (-1) (m 92)) (nI e) 1 300 else nI 0 := rfl
  rw [this, if_pos (show aHours (tvOf (m 92)) (-1) (m 92) 0 5 = nI e from q4)]
