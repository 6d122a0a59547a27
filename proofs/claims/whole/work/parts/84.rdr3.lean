/-! PURE: the pieces of the two readers -/
section RDC
variable {B : Nat → Nat} {L o key N : Nat}
/-- a fault of both at the same place -/
theorem P_bad (hL : L ≤ 96) {c m : Mm} {F T : Nat} {st : Bool} {C R W : List Int32} {a : Nat} (ho : 7 ≤ o) (hj : Jn B L o key c m F T st C R W a) {r : Option Mm} {q : Option (Int32 × Mm)} (hr : r = some (mst c 2 5 (nI F))) (hq : q = some (0, m)) : FA o L c m r q := by
  have h1 := hj.lc
  have h2 := hj.F
  exact ⟨_, m, F, C.length, hr, hq, ⟨mst_at _ _ _ _, by rw [mst_i (by decide)]; exact hj.cs.1⟩, hj.rs.1, h2, by omega, by rw [mst_ck (by omega)]; exact hj.xs.2.2.1, ⟨fun k k1 _ _ => mst_ck k1, mst_i (by decide)⟩, MFr.rf⟩
/-- the reference refuses a part -/
theorem R_bad {m : Mm} {n : Nat} {b1 b2 : Int32} (h : ¬ m 91 10 = 3 ∨ (¬ m 91 11 = 33 ∧ ¬ m 91 11 = 40) ∨ (m 91 11 = 33 ∧ 8 ≤ b2) ∨ (m 91 11 = 40 ∧ 8 ≤ b1)) {x : Int32} (hr : f_M_nameOf (m 91 11) m = some x) (h2 : ¬ m 91 10 = 2 ∧ (¬ m 91 10 = 1 ∨ ¬ (m 91 8) - (m 91 9) = 1 ∨ x < 0)) : f_M_takesE_L28 N (n + 1) b1 b2 1 m = some (0, m) := by
  rw [U_part h, TP0 hr h2, bd_some, if_pos rfl]
theorem R_bad3 {m : Mm} {n : Nat} {b1 b2 : Int32} (h : ¬ m 91 10 = 3 ∨ (¬ m 91 11 = 33 ∧ ¬ m 91 11 = 40) ∨ (m 91 11 = 33 ∧ 8 ≤ b2) ∨ (m 91 11 = 40 ∧ 8 ≤ b1)) (h2 : ¬ m 91 10 = 2 ∧ ¬ m 91 10 = 1) : f_M_takesE_L28 N (n + 1) b1 b2 1 m = some (0, m) := by
  obtain ⟨x, hx⟩ := nm_some (m 91 11) m
  exact R_bad h hx ⟨h2.1, Or.inl h2.2⟩
/-- a part taken by both -/
theorem P_part (hL : L ≤ 96) (hB : ∀ j, j < L → B j < 256) (hN : 500 ≤ N) (ho : 7 ≤ o) {c m c1 : Mm} {F T : Nat} {st : Bool} {C W0 : List Int32} {j a pp fu : Nat} (hj : Jn B L o key c m F T st C C (W0 ++ List.replicate j (-10)) a) (hst : stops W0 6) (hF : F < L) (hfu : L + 2 ≤ fu + F) {x : Int32} (hx : cok key x) (h0 : ¬ x < 0) (hc : XS c1 o (C ++ [x]) (a + 1) key) (hcf : ∀ k, k ≠ o → k ≠ o + 1 → c1 k = c k) {r : Option Mm} (hr : r = f_T_step N c1) {q : Option (Int32 × Mm)} (hq : q = bd (if inb (m 91 17) 96 = true then lt (mst m 99 (ix (m 91 17)) x) fun m_87 => lt (mst m_87 91 17 ((m_87 91 17) + 1)) fun m_95 => lt (mst m_95 91 18 ((m_95 91 18) + 1)) fun m_105 => bp (f_M_settle N 6 m_105) fun m_111 => bp (f_M_go N m_111) fun m_115 => some ((1 : Int32), m_115) else none) fun r_159 m_159 => if r_159 = 0 then some (0, m_159) else bp (f_M_notsOpen N m_159) fun r_173 => f_M_takesE_L28 N (fu - 1) (nI pp) r_173 0 m_159) : OKP B L o key N c m F pp j C W0 r q := by
  have ln := hj.ln
  have hlr : (List.replicate j (-10 : Int32)).length = j := List.length_replicate
  rw [List.length_append, hlr] at ln
  obtain ⟨m2, u1, u2, u3, u4⟩ := M_ptail hN hj.mz hst (by omega) x
  rw [u1] at hq
  have hl1 : (C ++ [x] ++ List.replicate j (-10)).length = C.length + 1 + j := by rw [List.length_append, List.length_append, hlr]; rfl
  have hl2 : (C ++ [x]).length = C.length + 1 := by rw [List.length_append]; rfl
  obtain ⟨c4, m4, F2, T2, st2, g1, g2, g3, g4, g5, g6⟩ := Jn.go hL hB hN ho hj hF (hcf 2 (by omega) (by omega)) (hcf 3 (by omega) (by omega)) (u3 96 (by decide) (by decide)) (fun i h1 h2 => u4 i (by omega) (by omega) (by omega)) hc u2 (by rw [hl1]; omega) (by rw [hl2]; omega)
  have f2 := g3.F
  have ln3 := g3.ln
  rw [g2, bp_some, bd_some, if_neg nz1, M_nots hN g3.mz (by omega), bp_some] at hq
  refine ⟨c4, m4, F2, T2, st2, [x], a + 1, fu - 1, by rw [hr, g1], hq, g3, by omega, g4, fun i hi => by rw [g6.1 101 (by decide), u3 101 (by decide) (by decide)], CFr.tr ⟨fun k _ k2 k3 => hcf k k2 k3, by rw [hcf 2 (by omega) (by omega)]⟩ g5.cf, MFr.tr ⟨fun k k1 k2 _ _ => u3 k k1 k2, fun i _ _ _ _ _ a6 a7 a8 => u4 i a6 a7 a8⟩ g6.mf, VX.one hx h0⟩
/-- a letter -/
theorem P_name (hL : L ≤ 96) (hB : ∀ j, j < L → B j < 256) (hN : 500 ≤ N) (ho : 7 ≤ o) (hk : key < 3) {c m : Mm} {F T : Nat} {st : Bool} {C W0 : List Int32} {j a pp fu : Nat} {b2 : Int32} (hj : Jn B L o key c m F T st C C (W0 ++ List.replicate j (-10)) a) (hst : stops W0 6) (hF : F < L) (hl : isLb (B F) = true) (hfu : L + 2 ≤ fu + F) : OKP B L o key N c m F pp j C W0 (f_T_readName N o c) (f_M_takesE_L28 N fu (nI pp) b2 1 m) ∨ FA o L c m (f_T_readName N o c) (f_M_takesE_L28 N fu (nI pp) b2 1 m) := by
  obtain ⟨fu, rfl⟩ : ∃ f, fu = f + 1 := ⟨fu - 1, by omega⟩
  obtain ⟨p, tk⟩ := hj.tk
  have htk := tk.T
  have hb := isLb_iff.mp hl
  have rs := hj.rs
  have r4 := rs.2.2.2.1 hF hl
  have hlc := hj.lc
  have hnm : f_M_nameOf (m 91 11) m = some (nmI key (B F)) := by rw [r4.2]; exact M_nameOf hk (by omega) hj.mz.2.2.2.2.2
  have hT : (m 91 8) - (m 91 9) = nI (T - F) := by rw [rs.1, rs.2.1]; exact pk_sub (by omega)
  have h1T : (nI (T - F) = 1) ↔ T - F = 1 := r_eq (n := 1) (by omega) (by decide)
  have hno : f_T_namesOf (c o 0) = some (3 + key) := by
    rw [hj.xs.1]
    unfold f_T_namesOf
    match key, hk with
    | 0, _ => rfl
    | 1, _ => rfl
    | 2, _ => rfl
  have hfl : f_T_fail c = some (mst c 2 5 (nI F)) := T_fail hj.c5 hj.cs.1
  unfold f_T_readName
  rw [hno, bp_some, T_here hj.cb hL (by omega) hj.cs.1, if_pos hF, bp_some, ch_small (by omega), J_index hk (by omega) hN, bp_some, hj.cs.2.2, hj.cs.2.1, hj.cs.1, pk_sub (by omega)]
  have n3 : ¬ m 91 10 = 3 := by rw [r4.1]; cases st <;> decide
  have n2 : ¬ m 91 10 = 2 := by rw [r4.1]; cases st <;> decide
  cases st with
  | true =>
    right
    rw [if_neg (by decide), hfl, bp_some]
    exact P_bad hL ho hj rfl (R_bad3 (Or.inl n3) ⟨n2, by rw [r4.1]; decide⟩)
  | false =>
    rw [if_pos (show (if false = true then (1 : Int32) else 0) = 0 from rfl)]
    by_cases h1 : T - F = 1
    · rw [if_pos (h1T.mpr h1)]
      rcases nmI_c (b := B F) hk with z | ⟨i, hi, hi2, e⟩
      · right
        rw [if_neg (show ¬ 0 ≤ nmI key (B F) from Int32.not_le.mpr z), hfl, bp_some]
        exact P_bad hL ho hj rfl (R_bad (Or.inl n3) hnm ⟨n2, Or.inr (Or.inr z)⟩)
      · left
        rw [e, if_pos (nI_pos' (by omega))]
        obtain ⟨c1, x1, x2, x3⟩ := X_name ho hj.xs (by omega) hi
        rw [x1, bp_some]
        refine P_part hL hB hN ho hj hst hF hfu (x := nI (10000 + i)) (Or.inr (Or.inl ⟨i, hi, hi2, rfl⟩)) (nI_pos (by omega)) x2 x3 (by cases f_T_step N c1 <;> rfl) ?_
        rw [U_part (Or.inl n3), TP1 r4.1 (by rw [hT]; exact h1T.mpr h1) hnm (by rw [e]; exact nI_pos (by omega)), e, show (10000 : Int32) + nI i = nI (10000 + i) from nI_add 10000 i]
        rfl
    · right
      rw [if_neg (fun z => h1 (h1T.mp z)), hfl, bp_some]
      exact P_bad hL ho hj rfl (R_bad (Or.inl n3) hnm ⟨n2, Or.inr (Or.inl (by rw [hT]; exact fun z => h1 (h1T.mp z)))⟩)
/-- a figure -/
theorem P_num (hL : L ≤ 96) (hB : ∀ j, j < L → B j < 256) (hN : 500 ≤ N) (ho : 7 ≤ o) {c m : Mm} {F T : Nat} {st : Bool} {C W0 : List Int32} {j a pp fu : Nat} {b2 : Int32} (hj : Jn B L o key c m F T st C C (W0 ++ List.replicate j (-10)) a) (hst : stops W0 6) (hF : F < L) (hd : isDb (B F) = true) (hfu : L + 2 ≤ fu + F) : OKP B L o key N c m F pp j C W0 (f_T_readNumber N o c) (f_M_takesE_L28 N fu (nI pp) b2 1 m) ∨ FA o L c m (f_T_readNumber N o c) (f_M_takesE_L28 N fu (nI pp) b2 1 m) := by
  obtain ⟨fu, rfl⟩ : ∃ f, fu = f + 1 := ⟨fu - 1, by omega⟩
  obtain ⟨p, tk⟩ := hj.tk
  have htk := tk.T
  have hw := tk.2.2.2.1 hF hd
  have rs := hj.rs
  have r5 := rs.2.2.2.2.1 hF hd
  have hlc := hj.lc
  have hFT := htk.2.2.2 hF
  have hfl : f_T_fail c = some (mst c 2 5 (nI F)) := T_fail hj.c5 hj.cs.1
  unfold f_T_readNumber
  rw [hj.cs.2.2, hj.cs.2.1, hj.cs.1, pk_sub (by omega)]
  have n3 : ¬ m 91 10 = 3 := by rw [r5.1]; split <;> decide
  have n1 : ¬ m 91 10 = 1 := by rw [r5.1]; split <;> decide
  cases st with
  | true =>
    right
    rw [if_neg (by decide), hfl, bp_some]
    exact P_bad hL ho hj rfl (R_bad3 (Or.inl n3) ⟨by rw [r5.1, if_pos (Or.inl rfl)]; decide, n1⟩)
  | false =>
    rw [if_pos (show (if false = true then (1 : Int32) else 0) = 0 from rfl)]
    by_cases h4 : T - F ≤ 4
    · left
      have hdj : ∀ i, i < T - F → isDb (B (F + i)) = true := fun i hi => hw.2.2.1 (F + i) (by omega) (by omega)
      have hv := (nv_lt (B := B) (F := F) (T - F) hdj).2
      rw [if_pos (r_le (n := 4) h4 (by decide)), lt_eq, show f_T_readNumber_L32 o N 0 (nI F) c = _ from T_numL hL hB hj.cb o (n := T - F) (by omega) h4 (by rw [hj.cs.2.1]; congr 1; omega) hdj (T - F) 0 N (by omega) (by omega), bp_some]
      obtain ⟨c1, x1, x2, x3⟩ := X_num ho hj.xs (by omega) hv
      rw [x1, bp_some]
      have e10 : m 91 10 = 2 := by rw [r5.1, if_neg (by rintro (z | z); exact absurd z (by decide); omega)]
      refine P_part hL hB hN ho hj hst hF hfu (x := nI (nv B F (T - F))) (Or.inl ⟨_, hv, rfl⟩) (nI_pos (by omega)) x2 x3 (by cases f_T_step N c1 <;> rfl) ?_
      rw [U_part (Or.inl n3), TP2 e10, r5.2 h4]
      rfl
    · right
      rw [if_neg (r_ge (n := 4) (by omega) (by omega)), hfl, bp_some]
      exact P_bad hL ho hj rfl (R_bad3 (Or.inl n3) ⟨by rw [r5.1, if_pos (Or.inr (by omega))]; decide, n1⟩)
end RDC
