/-! PURE: goes, blamed, slower -/
def wps (R : Row) : Int32 := sm (fun t => R (10 + 4 * t + 3)) 6
def hrm (R : Row) : Int32 := sm (fun t => R (10 + 4 * t + 2)) 6 + R 4
-- goes
def gov (w : Nat → Int32) : Nat → Nat → Int32 → Int32 → Int32 × Int32
  | 0, _, b, s => (b, s)
  | d + 1, t, b, s => if w t ≤ s then gov w d (t + 1) b s else gov w d (t + 1) (nI t) (w t)
def goR (a : Mm) (k n t : Nat) : Row := aHours (tvOf (a 92)) (-1) (upd (a 92) (36 + 3 * k) (nI t)) n
theorem RW.at {a : Mm} (g : Good a) {k t : Nat} (hk : k < 10) (ht : t < 6) : RW (a 92) (upd (a 92) (36 + 3 * k) (nI t)) := ⟨g.1.1.2.2.2.at hk ht, pk_un (by omega), fun j hj => pk_un (by omega)⟩
theorem RW.pc {a : Mm} (g : Good a) {k t : Nat} (hk : k < 10) (ht : t ≤ 99) : RW (a 92) (upd (a 92) (35 + 3 * k) (nI t)) := ⟨g.1.1.2.2.2.pace hk ht, pk_un (by omega), fun j hj => pk_un (by omega)⟩
theorem S_goL {a : Mm} (g : Good a) {k n : Nat} (hk : k < 10) (hn : n ≤ 60) (b3 : Int32) {N : Nat} (hN : 500 ≤ N) : ∀ (d t F : Nat) (b s : Int32) (c : Mm), t + d = 6 → d < F → CT a c → ∃ c2, f_S_goes_L39 N F (nI k) (nI n) b3 b s (nI t) c = some (((gov (fun t => wps (goR a k n t)) d t b s).1, (gov (fun t => wps (goR a k n t)) d t b s).2, nI 6), c2) ∧ CT a c2
  | 0, t, F, b, s, c, h, hF, hc => by
    obtain ⟨F, rfl⟩ : ∃ f, F = f + 1 := ⟨F - 1, by omega⟩
    have : t = 6 := by omega
    subst this
    exact ⟨c, by rw [f_S_goes_L39, if_pos (l_le (n := 6) (by omega) (by decide))]; rfl, hc⟩
  | d + 1, t, F, b, s, c, h, hF, hc => by
    obtain ⟨F, rfl⟩ : ∃ f, F = f + 1 := ⟨F - 1, by omega⟩
    have ht : t < 6 := by omega
    obtain ⟨c1, w1, w2, w3, w4⟩ := think_S g hc
    obtain ⟨p1, p2, p3, p4⟩ := put_S w4 w2 (RW.rf g) (k := 62) (i := k) (j := 36 + 3 * k) (v := nI t) ⟨by omega, by omega, by omega⟩ (Or.inl (by omega)) (u_at w2.1 hk _) (g.1.1.2.2.2.at hk ht) ⟨by omega, by omega⟩
    obtain ⟨c2, x1, x2, x3, x4⟩ := run_S p3 p2 p1 (n := n) (N := N) (by omega) hN
    rw [p4, w3] at x1 x2
    rw [f_S_goes_L39, if_neg (l_ge (n := 6) ht (by decide)), w1, bp_some, if_pos (inb_nI hk (by decide)), ix_nI (by omega), lt_eq, x1, bd_some, S_sum (by decide) (by omega), bp_some, show sm (c2 66) 6 = wps (goR a k n t) from sum_wiped x2.1, nI_1]
    unfold gov
    by_cases q : wps (goR a k n t) ≤ s
    · rw [if_pos q, if_pos q]; exact S_goL g hk hn b3 hN d (t + 1) F b s c2 (by omega) (by omega) x3
    · rw [if_neg q, if_neg q]; exact S_goL g hk hn b3 hN d (t + 1) F (nI t) (wps (goR a k n t)) c2 (by omega) (by omega) x3
theorem M_goL {a : Mm} (g : Good a) {k n : Nat} (hk : k < 10) (hn : n ≤ 60) (b3 : Int32) {N : Nat} (hN : 500 ≤ N) : ∀ (d t F : Nat) (b s : Int32) (m : Mm), t + d = 6 → d < F → TH a m → m 92 = a 92 → m 91 4 = (-1) → CT a m → ∃ m2, f_M_goes_L43 N F (nI k) (nI n) b3 b s (nI t) m = some (((gov (fun t => wps (goR a k n t)) d t b s).1, (gov (fun t => wps (goR a k n t)) d t b s).2, nI 6), m2) ∧ CT a m2
  | 0, t, F, b, s, m, h, hF, hc, h9, hi, hct => by
    obtain ⟨F, rfl⟩ : ∃ f, F = f + 1 := ⟨F - 1, by omega⟩
    have : t = 6 := by omega
    subst this
    exact ⟨m, by rw [f_M_goes_L43, if_pos (l_le (n := 6) (by omega) (by decide))]; rfl, hct⟩
  | d + 1, t, F, b, s, m, h, hF, hc, h9, hi, hct => by
    obtain ⟨F, rfl⟩ : ∃ f, F = f + 1 := ⟨F - 1, by omega⟩
    have ht : t < 6 := by omega
    obtain ⟨p1, p2, p3⟩ := hc.of (j := 36 + 3 * k) (v := nI t) (by rw [h9]; exact RW.at g hk ht)
    obtain ⟨m1, w1, w2, w3, w4⟩ := run_M g p1 (n := n) (N := N) (by omega) hN
    rw [p3, hi, p2, h9] at w2
    obtain ⟨m2, v1, v2, v3, v4, v5⟩ := back_M g w3 hN
    have es : sm (fun t => m1 92 (10 + 4 * t + 3)) 6 = wps (goR a k n t) := by rw [w2]; rfl
    rw [f_M_goes_L43, if_neg (l_ge (n := 6) ht (by decide)), ixM2, if_pos (inb_nI (by omega) (by decide)), ix_nI (by omega), lt_eq, w1, bd_some, show f_M_sumOf N 3 m1 = _ from M_sumOf (w := 3) (by decide) (by omega), bp_some, v1, bp_some, es, lt_eq, lt_eq, nI_1]
    unfold gov
    by_cases q : wps (goR a k n t) ≤ s
    · rw [if_pos q, if_pos q, if_pos q]; exact M_goL g hk hn b3 hN d (t + 1) F b s m2 (by omega) (by omega) v2 v3 v4 v5
    · rw [if_neg q, if_neg q, if_neg q]; exact M_goL g hk hn b3 hN d (t + 1) F (nI t) (wps (goR a k n t)) m2 (by omega) (by omega) v2 v3 v4 v5
theorem TH.ct {a m : Mm} (h : TH a m) (h9 : m 92 = a 92) (hi : m 91 4 = a 91 4) : CT a m := by
  intro k hk
  by_cases k1 : k = 91
  · rw [k1]
    funext i
    by_cases e : i = 4
    · rw [e]; exact hi
    · exact h.2.2.1 i e
  by_cases k2 : k = 92
  · rw [k2]; exact h9
  exact h.2.2.2 k hk k1 k2
theorem ok_goes {m : Mm} (g : Good m) (a b c : Int32) {N : Nat} (hN : 500 ≤ N) : Ok2 (f_S_goes N a b c) (f_M_goes N a b c) m := by
  unfold Ok2 f_S_goes f_M_goes
  rcases mk_cases g a with ⟨k, M, hk, hM, eM, rfl, s1, s2⟩ | ⟨s1, s2⟩
  case inr => exact ⟨_, m, m, by rw [s1, bp_some, if_pos rfl], by rw [s2 m rfl, bp_some, if_pos rfl], g⟩
  rcases wi_cases b (lo := 1) (hi := 60) (by decide) (by decide) with ⟨n, h1, h2, rfl, t1, t2⟩ | ⟨t1, t2⟩
  case inr => exact ⟨_, m, m, by rw [s1, bp_some, if_neg nz1, show f_S_within b 1 60 = _ from t1, bp_some, if_pos rfl], by rw [s2 m rfl, bp_some, if_neg nz1, show f_M_in b 1 60 = _ from t2, bp_some, if_pos rfl], g⟩
  rcases wi_cases c (lo := 0) (hi := 1) (by decide) (by decide) with ⟨w, k1, k2, rfl, u1, u2⟩ | ⟨u1, u2⟩
  case inr => exact ⟨_, m, m, by rw [s1, bp_some, if_neg nz1, show f_S_within (nI n) 1 60 = _ from t1, bp_some, if_neg nz1, show f_S_within c 0 1 = _ from u1, bp_some, if_pos rfl], by rw [s2 m rfl, bp_some, if_neg nz1, show f_M_in (nI n) 1 60 = _ from t2, bp_some, if_neg nz1, show f_M_in c 0 1 = _ from u2, bp_some, if_pos rfl], g⟩
  have hk10 : k < 10 := by omega
  obtain ⟨c2, x1, x2⟩ := S_goL g hk10 h2 (nI w) hN 6 0 N 0 (-1) m (by omega) (by omega) CT.rf
  obtain ⟨m3, y1, y2, y3, y4⟩ := think_M g x2 hN
  obtain ⟨m4, z1, z2⟩ := M_goL g hk10 h2 (nI w) hN 6 0 N 0 (-1) m3 (by omega) (by omega) y2 y3 y4 (y2.ct y3 (y4.trans g.1.2.2.2.symm))
  rw [s1, bp_some, if_neg nz1, show f_S_within (nI n) 1 60 = _ from t1, bp_some, if_neg nz1, show f_S_within (nI w) 0 1 = _ from u1, bp_some, if_neg nz1, show f_S_goes_L39 N N (nI k) (nI n) (nI w) 0 (-1) 0 m = _ from x1, bd_some]
  refine ⟨_, c2, m4, rfl, ?_, g.scr z2⟩
  rw [s2 c2 (by rw [x2 92 (by unfold scrC; omega)]), bp_some, if_neg nz1, show f_M_in (nI n) 1 60 = _ from t2, bp_some, if_neg nz1, show f_M_in (nI w) 0 1 = _ from u2, bp_some, if_neg nz1, y1, bp_some, show f_M_goes_L43 N N (nI k) (nI n) (nI w) 0 (-1) 0 m3 = _ from z1, bd_some]
-- blamed
def blv (w : Nat → Int32) : Nat → Nat → Int32 → Int32 → Int32 × Int32
  | 0, _, b, s => (b, s)
  | d + 1, t, b, s => if b = (-1000000005) then blv w d (t + 1) (nI t) (w t) else if s ≤ w t then blv w d (t + 1) b s else blv w d (t + 1) (nI t) (w t)
def blR (a : Mm) (n t : Nat) : Row := aHours (tvOf (a 92)) (nI t) (a 92) n
theorem S_blL {a : Mm} (g : Good a) {M n : Nat} (hM : M ≤ 10) (eM : a 92 1 = nI M) (hn : n ≤ 60) {N : Nat} (hN : 500 ≤ N) : ∀ (d t F : Nat) (b s : Int32) (c : Mm), t + d = M → d < F → CT a c → ∃ c2, f_S_blamed_L21 N F (nI n) b s (nI t) c = some (((blv (fun t => hrm (blR a n t)) d t b s).1, (blv (fun t => hrm (blR a n t)) d t b s).2, nI M), c2) ∧ CT a c2
  | 0, t, F, b, s, c, h, hF, hc => by
    obtain ⟨F, rfl⟩ : ∃ f, F = f + 1 := ⟨F - 1, by omega⟩
    have : t = M := by omega
    subst this
    have e4 : c 38 4 = nI t := by rw [hc 38 (by unfold scrC; omega)]; exact (e_monks g.1.1.1).trans eM
    exact ⟨c, by rw [f_S_blamed_L21, e4, if_pos (nI_le (Nat.le_refl _) (by omega))]; rfl, hc⟩
  | d + 1, t, F, b, s, c, h, hF, hc => by
    obtain ⟨F, rfl⟩ : ∃ f, F = f + 1 := ⟨F - 1, by omega⟩
    have e4 : c 38 4 = nI M := by rw [hc 38 (by unfold scrC; omega)]; exact (e_monks g.1.1.1).trans eM
    obtain ⟨c1, w1, w2, w3, w4⟩ := think_S g hc
    have ct2 : CT a (mst c1 58 18 (nI t)) := fun q hq => by rw [mst_ck (fun e => hq (by unfold scrC; omega))]; exact w4 q hq
    have pc2 : Pc 999 58 (mst c1 58 18 (nI t)) (a 92) := by
      refine ⟨w2.1.keep (fun q h1 h2 i hi => ?_), fun key hk => by rw [mst_ck (by omega)]; exact w2.2.1 key hk, w2.2.2.1.cong rfl (fun _ _ => rfl) (fun q h1 h2 => mst_ck (by omega)), w2.2.2.2⟩
      by_cases e : 58 + q = 58
      · rw [e, mst_i hi]
      · rw [mst_ck e]
    obtain ⟨c2, x1, x2, x3, x4⟩ := run_S (RW.rf g) ct2 pc2 (n := n) (N := N) (by omega) hN
    rw [mst_at] at x1 x2
    have eh : sm (c2 65) 6 + c2 58 14 = hrm (blR a n t) := by rw [show sm (c2 65) 6 = _ from sum_faults x2.1, e_spilt x2.1]; rfl
    rw [f_S_blamed_L21, e4, if_neg (nI_ge (by omega) (by omega)), w1, bp_some, lt_eq, x1, bd_some, S_sum (by decide) (by omega), bp_some, eh, lt_eq, nI_1]
    unfold blv
    by_cases q0 : b = (-1000000005)
    · rw [if_pos q0, if_pos q0]; exact S_blL g hM eM hn hN d (t + 1) F _ _ c2 (by omega) (by omega) x3
    rw [if_neg q0, if_neg q0]
    by_cases q : s ≤ hrm (blR a n t)
    · rw [if_pos q, if_pos q]; exact S_blL g hM eM hn hN d (t + 1) F b s c2 (by omega) (by omega) x3
    · rw [if_neg q, if_neg q]; exact S_blL g hM eM hn hN d (t + 1) F _ _ c2 (by omega) (by omega) x3
theorem M_blL {a : Mm} (g : Good a) {M n : Nat} (hM : M ≤ 10) (eM : a 92 1 = nI M) (hn : n ≤ 60) {N : Nat} (hN : 500 ≤ N) : ∀ (d t F : Nat) (b s : Int32) (m : Mm), t + d = M → d < F → (b = (-1000000005) ∨ ∃ j, j < t ∧ b = nI j) → TH a m → m 92 = a 92 → CT a m → ∃ m2, f_M_blamed_L25 N F (nI n) b s (nI t) m = some (((blv (fun t => hrm (blR a n t)) d t b s).1, (blv (fun t => hrm (blR a n t)) d t b s).2, nI M), m2) ∧ CT a m2
  | 0, t, F, b, s, m, h, hF, hb, hc, h9, hct => by
    obtain ⟨F, rfl⟩ : ∃ f, F = f + 1 := ⟨F - 1, by omega⟩
    have : t = M := by omega
    subst this
    exact ⟨m, by rw [f_M_blamed_L25, ixc_1, h9, eM, if_pos (nI_le (Nat.le_refl _) (by omega))]; rfl, hct⟩
  | d + 1, t, F, b, s, m, h, hF, hb, hc, h9, hct => by
    obtain ⟨F, rfl⟩ : ∃ f, F = f + 1 := ⟨F - 1, by omega⟩
    obtain ⟨h1, h2, h3, h4⟩ := hc
    have th2 : TH a (mst m 91 4 (nI t)) := ⟨fun j hj => by rw [mst_ck (by omega)]; exact h1 j hj, by rw [mst_ck (by omega)]; exact h2, fun i hi => by rw [mst_i hi]; exact h3 i hi, fun k hk k1 k2 => by rw [mst_ck k1]; exact h4 k hk k1 k2⟩
    obtain ⟨m1, w1, w2, w3, w4⟩ := run_M g th2 (n := n) (N := N) (by omega) hN
    rw [mst_at, mst_ck (k2 := 92) (by omega), h9] at w2
    obtain ⟨m2, v1, v2, v3, v4, v5⟩ := back_M g w3 hN
    have es : sm (fun t => m1 92 (10 + 4 * t + 2)) 6 + m1 92 4 = hrm (blR a n t) := by rw [w2]; rfl
    rw [f_M_blamed_L25, ixc_1, h9, eM, if_neg (nI_ge (by omega) (by omega)), lt_eq, w1, bd_some, show f_M_sumOf N 2 m1 = _ from M_sumOf (w := 2) (by decide) (by omega), bp_some, ixc_4, es, lt_eq, v1, bp_some, lt_eq, lt_eq, nI_1]
    unfold blv
    by_cases q0 : b = (-1000000005)
    · rw [if_pos q0, if_pos q0, if_pos rfl]
      exact M_blL g hM eM hn hN d (t + 1) F _ _ m2 (by omega) (by omega) (Or.inr ⟨t, by omega, rfl⟩) v2 v3 v5
    rw [if_neg q0, if_neg q0]
    by_cases q : s ≤ hrm (blR a n t)
    · rw [if_pos q, if_pos q]
      obtain ⟨j, hj, ej⟩ := hb.resolve_left q0
      rw [if_neg (fun z => by rw [ej, nI_eq (by omega) (by omega)] at z; omega)]
      exact M_blL g hM eM hn hN d (t + 1) F b s m2 (by omega) (by omega) (Or.inr ⟨j, by omega, ej⟩) v2 v3 v5
    · rw [if_neg q, if_neg q, if_pos rfl]
      exact M_blL g hM eM hn hN d (t + 1) F _ _ m2 (by omega) (by omega) (Or.inr ⟨t, by omega, rfl⟩) v2 v3 v5
theorem ok_blamed {m : Mm} (g : Good m) (a : Int32) {N : Nat} (hN : 500 ≤ N) : Ok2 (f_S_blamed N a) (f_M_blamed N a) m := by
  unfold Ok2 f_S_blamed f_M_blamed
  rcases wi_cases a (lo := 1) (hi := 60) (by decide) (by decide) with ⟨n, h1, h2, rfl, t1, t2⟩ | ⟨t1, t2⟩
  case inr => exact ⟨_, m, m, by rw [show f_S_within a 1 60 = _ from t1, bp_some, if_pos rfl], by rw [show f_M_in a 1 60 = _ from t2, bp_some, if_pos rfl], g⟩
  obtain ⟨M, hM, eM⟩ := g.1.1.2.2.2.1
  obtain ⟨c2, x1, x2⟩ := S_blL g hM eM h2 hN M 0 N (-1000000005) 0 m (by omega) (by omega) CT.rf
  obtain ⟨m3, y1, y2, y3, y4⟩ := think_M g x2 hN
  obtain ⟨m4, z1, z2⟩ := M_blL g hM eM h2 hN M 0 N (-1000000005) 0 m3 (by omega) (by omega) (Or.inl rfl) y2 y3 (y2.ct y3 (y4.trans g.1.2.2.2.symm))
  rw [show f_S_within (nI n) 1 60 = _ from t1, bp_some, if_neg nz1, show f_S_blamed_L21 N N (nI n) (-1000000005) 0 0 m = _ from x1, bd_some]
  refine ⟨_, c2, m4, rfl, ?_, g.scr z2⟩
  rw [show f_M_in (nI n) 1 60 = _ from t2, bp_some, if_neg nz1, y1, bp_some, show f_M_blamed_L25 N N (nI n) (-1000000005) 0 0 m3 = _ from z1, bd_some]
-- slower
def slR (a : Mm) (k n p : Nat) : Row := aHours (tvOf (a 92)) (-1) (upd (a 92) (35 + 3 * k) (nI p)) n
def slv2 (R : Nat → Row) (e0 : Int32) : Nat → Int32
  | 0 => (-1000000005)
  | p + 1 => if R (p + 1) 5 = e0 then nI (p + 1) else slv2 R e0 p
theorem S_slL {a : Mm} (g : Good a) {k n : Nat} (hk : k < 10) (hn : n ≤ 20) {N : Nat} (hN : 500 ≤ N) : ∀ (p F : Nat) (c : Mm), p ≤ 99 → p < F → CT a c → ∃ c2, f_S_slower_L24 N F (nI k) (nI n) (nI p) c = some (slv2 (slR a k n) (a 92 5) p, c2) ∧ CT a c2
  | 0, F, c, h, hF, hc => by
    obtain ⟨F, rfl⟩ : ∃ f, F = f + 1 := ⟨F - 1, by omega⟩
    exact ⟨c, by rw [f_S_slower_L24, if_pos (by decide)]; rfl, hc⟩
  | p + 1, F, c, h, hF, hc => by
    obtain ⟨F, rfl⟩ : ∃ f, F = f + 1 := ⟨F - 1, by omega⟩
    obtain ⟨c1, w1, w2, w3, w4⟩ := think_S g hc
    obtain ⟨p1, p2, p3, p4⟩ := put_S w4 w2 (RW.rf g) (k := 61) (i := k) (j := 35 + 3 * k) (v := nI (p + 1)) ⟨by omega, by omega, by omega⟩ (Or.inl (by omega)) (u_pace w2.1 hk _) (g.1.1.2.2.2.pace hk h) ⟨by omega, by omega⟩
    obtain ⟨c2, x1, x2, x3, x4⟩ := run_S p3 p2 p1 (n := n) (N := N) (by omega) hN
    rw [p4, w3] at x1 x2
    have e58 : c2 58 16 = slR a k n (p + 1) 5 := e_ends x2.1
    have e38 : c2 38 16 = a 92 5 := by rw [x3 38 (by unfold scrC; omega)]; exact e_ends g.1.1.1
    rw [f_S_slower_L24, if_neg (r_nlt (n := 1) (by omega) (by omega)), w1, bp_some, if_pos (inb_nI hk (by decide)), ix_nI (by omega), lt_eq, x1, bd_some, e58, e38, pk_m1]
    unfold slv2
    by_cases q : slR a k n (p + 1) 5 = a 92 5
    · rw [if_pos q, if_pos q]; exact ⟨c2, rfl, x3⟩
    · rw [if_neg q, if_neg q]; exact S_slL g hk hn hN p F c2 (by omega) (by omega) x3
theorem M_slL {a : Mm} (g : Good a) {k n : Nat} (hk : k < 10) (hn : n ≤ 20) {N : Nat} (hN : 500 ≤ N) : ∀ (p F : Nat) (m : Mm), p ≤ 99 → p < F → TH a m → m 92 = a 92 → m 91 4 = (-1) → CT a m → ∃ m2, f_M_slower_L28 N F (nI k) (nI n) (nI p) m = some (slv2 (slR a k n) (a 92 5) p, m2) ∧ CT a m2
  | 0, F, m, h, hF, hc, h9, hi, hct => by
    obtain ⟨F, rfl⟩ : ∃ f, F = f + 1 := ⟨F - 1, by omega⟩
    exact ⟨m, by rw [f_M_slower_L28, if_pos (by decide)]; rfl, hct⟩
  | p + 1, F, m, h, hF, hc, h9, hi, hct => by
    obtain ⟨F, rfl⟩ : ∃ f, F = f + 1 := ⟨F - 1, by omega⟩
    obtain ⟨p1, p2, p3⟩ := hc.of (j := 35 + 3 * k) (v := nI (p + 1)) (by rw [h9]; exact RW.pc g hk h)
    obtain ⟨m1, w1, w2, w3, w4⟩ := run_M g p1 (n := n) (N := N) (by omega) hN
    rw [p3, hi, p2, h9] at w2
    obtain ⟨m2, v1, v2, v3, v4, v5⟩ := back_M g w3 hN
    have e5 : m1 92 5 = slR a k n (p + 1) 5 := by rw [w2]; rfl
    rw [f_M_slower_L28, if_neg (nI_nle (by omega) (by omega)), ixM1, if_pos (inb_nI (by omega) (by decide)), ix_nI (by omega), lt_eq, w1, bd_some, ixc_5, w3.1 5 (by decide), e5, lt_eq, v1, bp_some, pk_m1]
    unfold slv2
    by_cases q : slR a k n (p + 1) 5 = a 92 5
    · rw [if_pos q, if_pos q, if_neg nz1]; exact ⟨m2, rfl, v5⟩
    · rw [if_neg q, if_neg q, if_pos rfl]; exact M_slL g hk hn hN p F m2 (by omega) (by omega) v2 v3 v4 v5
theorem ok_slower {m : Mm} (g : Good m) (a b : Int32) {N : Nat} (hN : 500 ≤ N) : Ok2 (f_S_slower N a b) (f_M_slower N a b) m := by
  unfold Ok2 f_S_slower f_M_slower
  rcases mk_cases g a with ⟨k, M, hk, hM, eM, rfl, s1, s2⟩ | ⟨s1, s2⟩
  case inr => exact ⟨_, m, m, by rw [s1, bp_some, if_pos rfl], by rw [s2 m rfl, bp_some, if_pos rfl], g⟩
  rcases wi_cases b (lo := 1) (hi := 20) (by decide) (by decide) with ⟨n, h1, h2, rfl, t1, t2⟩ | ⟨t1, t2⟩
  case inr => exact ⟨_, m, m, by rw [s1, bp_some, if_neg nz1, show f_S_within b 1 20 = _ from t1, bp_some, if_pos rfl], by rw [s2 m rfl, bp_some, if_neg nz1, show f_M_in b 1 20 = _ from t2, bp_some, if_pos rfl], g⟩
  have hk10 : k < 10 := by omega
  obtain ⟨c2, x1, x2⟩ := S_slL g hk10 h2 hN 99 N m (by omega) (by omega) CT.rf
  obtain ⟨m3, y1, y2, y3, y4⟩ := think_M g x2 hN
  obtain ⟨m4, z1, z2⟩ := M_slL g hk10 h2 hN 99 N m3 (by omega) (by omega) y2 y3 y4 (y2.ct y3 (y4.trans g.1.2.2.2.symm))
  rw [s1, bp_some, if_neg nz1, show f_S_within (nI n) 1 20 = _ from t1, bp_some, if_neg nz1, show f_S_slower_L24 N N (nI k) (nI n) 99 m = _ from x1]
  refine ⟨_, c2, m4, rfl, ?_, g.scr z2⟩
  rw [s2 c2 (by rw [x2 92 (by unfold scrC; omega)]), bp_some, if_neg nz1, show f_M_in (nI n) 1 20 = _ from t2, bp_some, if_neg nz1, y1, bp_some, show f_M_slower_L28 N N (nI k) (nI n) 99 m3 = _ from z1]
