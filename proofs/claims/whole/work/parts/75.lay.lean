/-! PURE: lay -/
theorem Good.sl1 {m m2 : Mm} (g : Good m) {q : Nat} (hq : q < 5) (h1 : ∀ k, (k < 76 + 3 * q ∨ 76 + 3 * q + 2 < k) → (k < 107 ∨ 110 < k) → m2 k = m k) (h7 : ∀ i, i ≠ q → m2 107 i = m 107 i) (h8 : ∀ i, i ≠ q → m2 108 i = m 108 i) (h9 : ∀ i, i ≠ q → m2 109 i = m 109 i) (h10 : ∀ i, i < 24 * q ∨ 24 * q + 24 ≤ i → m2 110 i = m 110 i) (new : GSlot1 m2 q) : Good m2 := by
  refine g.rep (fun k hk => h1 k (by omega) (by omega)) (by rw [h1 0 (by omega) (by omega)]) (by rw [h1 91 (by omega) (by omega)]) (by rw [h1 91 (by omega) (by omega)]) (g.2.2.1.cg (by rw [h1 2 (by omega) (by omega)]) (h1 3 (by omega) (by omega)) (by rw [h1 91 (by omega) (by omega)]) (h1 96 (by omega) (by omega))) (g.2.2.2.1.cg (by rw [h1 0 (by omega) (by omega)]) (h1 6 (by omega) (by omega)) (by rw [h1 91 (by omega) (by omega)]) (h1 112 (by omega) (by omega))) (g.2.2.2.2.1.cg (fun k _ _ => h1 k (by omega) (by omega)) (h1 104 (by omega) (by omega)) (h1 105 (by omega) (by omega)) (h1 106 (by omega) (by omega))) ?_
  intro u hu
  by_cases e : u = q
  · rw [e]; exact new
  · exact (g.2.2.2.2.2.1 u hu).cg (h1 _ (by omega) (by omega)) (h1 _ (by omega) (by omega)) (h1 _ (by omega) (by omega)) (h7 u e) (h8 u e) (h9 u e) (fun j hj => h10 _ (by omega))
theorem M_layL {m0 : Mm} {q s : Nat} (hq : q < 5) (hs : s < 4) (b4 : Int32) : ∀ (d k F : Nat) (m : Mm), k + d = 24 → d < F → (∀ i, i ≠ 110 → m i = m0 i) → (∀ j, j < k → m 110 (24 * q + j) = m0 106 (24 * s + j)) → (∀ i, i < 24 * q ∨ 24 * q + 24 ≤ i → m 110 i = m0 110 i) → ∃ m2, f_M_lay_L134 F (nI q) (nI 2) (nI s) b4 (nI k) m = some (nI 24, m2) ∧ (∀ j, j < 24 → m2 110 (24 * q + j) = m0 106 (24 * s + j)) ∧ (∀ i, i < 24 * q ∨ 24 * q + 24 ≤ i → m2 110 i = m0 110 i) ∧ ∀ i, i ≠ 110 → m2 i = m0 i
  | 0, k, F, m, h, hF, h1, h2, h3 => by
    obtain ⟨F, rfl⟩ : ∃ f, F = f + 1 := ⟨F - 1, by omega⟩
    have : k = 24 := by omega
    subst this
    exact ⟨m, by rw [f_M_lay_L134, if_pos (l_le (n := 24) (by omega) (by decide))], h2, h3, h1⟩
  | d + 1, k, F, m, h, hF, h1, h2, h3 => by
    obtain ⟨F, rfl⟩ : ∃ f, F = f + 1 := ⟨F - 1, by omega⟩
    have ex : (24 : Int32) * nI s + nI k = nI (24 * s + k) := by rw [show (24 : Int32) = nI 24 from rfl, pk_mul, nI_add]
    have ex2 : (24 : Int32) * nI q + nI k = nI (24 * q + k) := by rw [show (24 : Int32) = nI 24 from rfl, pk_mul, nI_add]
    rw [f_M_lay_L134, if_neg (l_ge (n := 24) (by omega) (by decide)), if_pos (show nI 2 = 2 from rfl), ex, ex2, if_pos (inb_nI (by omega) (by decide)), if_pos (inb_nI (by omega) (by decide)), ix_nI (by omega), ix_nI (by omega), lt_eq, nI_1]
    exact M_layL (m0 := m0) hq hs b4 d (k + 1) F _ (by omega) (by omega) (fun i hi => by rw [mst_ck hi]; exact h1 i hi) (fun j hj => by
      by_cases e : j = k
      · rw [e, mst_at, h1 106 (by omega)]
      · rw [mst_i (by omega)]; exact h2 j (by omega)) (fun i hi => by rw [mst_i (by omega)]; exact h3 i hi)
theorem M_lay0 {q w : Nat} (hw : w = 0 ∨ w = 1 ∨ w = 3) (b1 b3 b4 : Int32) (m : Mm) {F : Nat} (hF : 0 < F) : f_M_lay_L134 F b1 (nI w) b3 b4 0 m = some (0, m) := by
  obtain ⟨F, rfl⟩ : ∃ f, F = f + 1 := ⟨F - 1, by omega⟩
  rw [f_M_lay_L134, if_neg (show ¬ (24 : Int32) ≤ 0 by decide), if_neg (by rcases hw with e | e | e <;> rw [e] <;> decide)]
theorem H_become {p o : Nat} (c : Mm) (hpo : p + 1 < o ∨ o + 1 < p) : ∃ c2, f_H_become p o c = some c2 ∧ c2 p 0 = c o 0 ∧ c2 p 1 = c o 1 ∧ (∀ j, j < 24 → c2 (p + 1) j = c (o + 1) j) ∧ ∀ k, k ≠ p → k ≠ p + 1 → c2 k = c k := by
  unfold f_H_become
  simp only [lt_eq, ixc_0, ix24]
  refine ⟨_, rfl, ?_, ?_, fun j hj => ?_, fun k h1 h2 => ?_⟩
  · rw [va_up_ne _ _ (by omega), mst_i (by decide), mst_at]
  · rw [va_up_ne _ _ (by omega), mst_at, mst_ck (by omega)]
  · rw [va_up_self, cpy0 hj, mst_ck (by omega), mst_ck (by omega)]
  · rw [va_up_ne _ _ h2, mst_ck h1, mst_ck h1]
theorem ok_lay {m : Mm} (g : Good m) (a b c : Int32) {N : Nat} (hN : 500 ≤ N) : Ok2 (f_S_lay a b c) (f_M_lay N a b c) m := by
  unfold Ok2
  rcases sl_cases a with ⟨q, hq, rfl, s1, s2⟩ | ⟨s1, s2⟩
  case inr => exact ⟨_, m, m, by unfold f_S_lay; rw [s1, bp_some, if_pos rfl], by unfold f_M_lay; rw [s2, bp_some, if_pos rfl], g⟩
  rcases wi_cases b (lo := 0) (hi := 3) (by decide) (by decide) with ⟨w, h1, h2, rfl, t1, t2⟩ | ⟨t1, t2⟩
  case inr => exact ⟨_, m, m, by unfold f_S_lay; rw [s1, bp_some, if_neg nz1, show f_S_within b 0 3 = _ from t1, bp_some, if_pos rfl], by unfold f_M_lay; rw [s2, bp_some, if_neg nz1, show f_M_in b 0 3 = _ from t2, bp_some, if_pos rfl], g⟩
  obtain ⟨o1, o2, o3, o4⟩ := g.2.2.2.2.2.1 q hq
  have iq : inb (nI q) 5 = true := inb_nI hq (by decide)
  have iq2 : ix (nI q) = q := ix_nI (by omega)
  match w, h2 with
  | 0, _ =>
    have hS : f_S_lay (nI q) (nI 0) c m = some (m 107 q, mst m (76 + 3 * q) 0 (nI 0)) := by
      unfold f_S_lay
      simp only [s1, show f_S_within (nI 0) 0 3 = some 1 from t1, bp_some, if_neg nz1, if_neg (show ¬ nI 0 = 1 by decide), if_neg (show ¬ nI 0 = 2 by decide), if_neg (show ¬ nI 0 = 3 by decide), if_pos iq, iq2, lt_eq, o1]
    have hM : ∀ d : Mm, f_M_lay N (nI q) (nI 0) c d = some (d 107 q, mst (mst (mst d 107 q (nI 0)) 108 q c) 109 q 0) := by
      intro d
      unfold f_M_lay
      simp only [s2, show f_M_in (nI 0) 0 3 = some 1 from t2, bp_some, if_neg nz1, if_neg (show ¬ nI 0 = 1 by decide), if_neg (show ¬ nI 0 = 2 by decide), if_pos iq, iq2, lt_eq, M_lay0 (q := q) (Or.inl rfl) (nI q) c (d 107 q) _ (show 0 < N by omega), bd_some]
    refine ⟨_, _, _, hS, by rw [hM, mst_ck (k2 := 107) (by omega)], g.sl1 hq (fun k h1 h2 => by rw [mst_ck (by omega), mst_ck (by omega), mst_ck (by omega), mst_ck (by omega)]) (fun i hi => by rw [mst_ck (by omega), mst_ck (by omega), mst_i hi, mst_ck (by omega)]) (fun i hi => by rw [mst_ck (by omega), mst_i hi, mst_ck (by omega), mst_ck (by omega)]) (fun i hi => by rw [mst_i hi, mst_ck (by omega), mst_ck (by omega), mst_ck (by omega)]) (fun i hi => by rw [mst_ck (by omega), mst_ck (by omega), mst_ck (by omega), mst_ck (by omega)]) ?_⟩
    have e7 : mst (mst (mst (mst m (76 + 3 * q) 0 (nI 0)) 107 q (nI 0)) 108 q c) 109 q 0 107 q = nI 0 := by rw [mst_ck (by omega), mst_ck (by omega), mst_at]
    exact ⟨by rw [e7, mst_ck (by omega), mst_ck (by omega), mst_ck (by omega), mst_at], fun e => by rw [e7] at e; exact absurd e (by decide), fun e => by rw [e7] at e; exact absurd e (by decide), fun e => by rw [e7] at e; exact absurd e (by decide)⟩
  | 1, _ =>
    rcases mk_cases g c with ⟨k, M, hk, hM0, eM, rfl, u1, u2⟩ | ⟨u1, u2⟩
    case inr => exact ⟨_, m, m, by unfold f_S_lay; rw [s1, bp_some, if_neg nz1, show f_S_within (nI 1) 0 3 = _ from t1, bp_some, if_neg nz1, if_pos (show nI 1 = 1 from rfl), u1, bp_some, if_pos rfl], by unfold f_M_lay; rw [s2, bp_some, if_neg nz1, show f_M_in (nI 1) 0 3 = _ from t2, bp_some, if_neg nz1, if_pos (show nI 1 = 1 from rfl), u2 m rfl, bp_some, if_pos rfl], g⟩
    have hk10 : k < 10 := by omega
    have ik : inb (nI k) 10 = true := inb_nI hk10 (by decide)
    have ik2 : ix (nI k) = k := ix_nI (by omega)
    have hS : f_S_lay (nI q) (nI 1) (nI k) m = some (m 107 q, mst (mst (mst m (76 + 3 * q) 0 (nI 1)) (76 + 3 * q) 1 (m 40 k)) (76 + 3 * q) 2 (m 41 k)) := by
      unfold f_S_lay
      simp only [s1, show f_S_within (nI 1) 0 3 = some 1 from t1, bp_some, if_neg nz1, if_pos (show nI 1 = 1 from rfl), if_neg (show ¬ nI 1 = 2 by decide), u1, if_pos iq, if_pos ik, iq2, ik2, lt_eq, o1]
      rw [mst_ck (k2 := 40) (by omega), mst_ck (k2 := 41) (by omega), mst_ck (k2 := 41) (by omega)]
    obtain ⟨v, hv⟩ := K_worth (m 92 (34 + 3 * k)) (m 92 (35 + 3 * k))
    have hM : ∀ d : Mm, d 92 = m 92 → f_M_lay N (nI q) (nI 1) (nI k) d = some (d 107 q, mst (mst (mst d 107 q (nI 1)) 108 q (m 92 (34 + 3 * k))) 109 q v) := by
      intro d hd
      unfold f_M_lay
      simp only [s2, show f_M_in (nI 1) 0 3 = some 1 from t2, bp_some, if_neg nz1, if_pos (show nI 1 = 1 from rfl), if_neg (show ¬ nI 1 = 2 by decide), u2 d (by rw [hd]), if_pos iq, iq2, lt_eq, M_of0 hk10, M_worth hk10]
      rw [mst_ck (k2 := 92) (by omega), mst_ck (k2 := 92) (by omega), hd, hv, bp_some, M_lay0 (q := q) (Or.inr (Or.inl rfl)) (nI q) (nI k) (d 107 q) _ (show 0 < N by omega), bd_some]
    have eki : m 40 k = m 92 (34 + 3 * k) := e_kind g.1.1.1 hk10
    have epa : m 41 k = m 92 (35 + 3 * k) := e_pace g.1.1.1 hk10
    refine ⟨_, _, _, hS, by rw [hM _ (by rw [mst_ck (by omega), mst_ck (by omega), mst_ck (by omega)]), mst_ck (k2 := 107) (by omega), mst_ck (k2 := 107) (by omega), mst_ck (k2 := 107) (by omega)], g.sl1 hq (fun k h1 h2 => by rw [mst_ck (by omega), mst_ck (by omega), mst_ck (by omega), mst_ck (by omega), mst_ck (by omega), mst_ck (by omega)]) (fun i hi => by rw [mst_ck (by omega), mst_ck (by omega), mst_i hi, mst_ck (by omega), mst_ck (by omega), mst_ck (by omega)]) (fun i hi => by rw [mst_ck (by omega), mst_i hi, mst_ck (by omega), mst_ck (by omega), mst_ck (by omega), mst_ck (by omega)]) (fun i hi => by rw [mst_i hi, mst_ck (by omega), mst_ck (by omega), mst_ck (by omega), mst_ck (by omega), mst_ck (by omega)]) (fun i hi => by rw [mst_ck (by omega), mst_ck (by omega), mst_ck (by omega), mst_ck (by omega), mst_ck (by omega), mst_ck (by omega)]) ?_⟩
    have f0 : ∀ i, mst (mst (mst (mst (mst (mst m (76 + 3 * q) 0 (nI 1)) (76 + 3 * q) 1 (m 40 k)) (76 + 3 * q) 2 (m 41 k)) 107 q (nI 1)) 108 q (m 92 (34 + 3 * k))) 109 q v (76 + 3 * q) i = mst (mst (mst m (76 + 3 * q) 0 (nI 1)) (76 + 3 * q) 1 (m 40 k)) (76 + 3 * q) 2 (m 41 k) (76 + 3 * q) i := fun i => by rw [mst_ck (by omega), mst_ck (by omega), mst_ck (by omega)]
    have e7 : mst (mst (mst (mst (mst (mst m (76 + 3 * q) 0 (nI 1)) (76 + 3 * q) 1 (m 40 k)) (76 + 3 * q) 2 (m 41 k)) 107 q (nI 1)) 108 q (m 92 (34 + 3 * k))) 109 q v 107 q = nI 1 := by rw [mst_ck (by omega), mst_ck (by omega), mst_at]
    refine ⟨by rw [e7, f0, mst_i (by decide), mst_i (by decide), mst_at], fun _ => ⟨by rw [f0, mst_i (by decide), mst_at, mst_ck (k2 := 108) (by omega), mst_at]; exact eki, ?_⟩, fun e => by rw [e7] at e; exact absurd e (by decide), fun e => by rw [e7] at e; exact absurd e (by decide)⟩
    rw [f0, f0, mst_i (i2 := 1) (by decide), mst_at, mst_at, mst_at, eki, epa]
    exact hv
  | 2, _ =>
    rcases sh_cases c with ⟨s, hs, rfl, u1, u2⟩ | ⟨u1, u2⟩
    case inr => exact ⟨_, m, m, by unfold f_S_lay; rw [s1, bp_some, if_neg nz1, show f_S_within (nI 2) 0 3 = _ from t1, bp_some, if_neg nz1, if_neg (show ¬ nI 2 = 1 by decide), if_pos (show nI 2 = 2 from rfl), u1, bp_some, if_pos rfl], by unfold f_M_lay; rw [s2, bp_some, if_neg nz1, show f_M_in (nI 2) 0 3 = _ from t2, bp_some, if_neg nz1, if_neg (show ¬ nI 2 = 1 by decide), if_pos (show nI 2 = 2 from rfl), u2, bp_some, if_pos rfl], g⟩
    obtain ⟨q1, q2, ⟨n, q3, q4, q5, -⟩, q6⟩ := g.2.2.2.2.1 s hs
    have is1 : inb (nI s) 4 = true := inb_nI hs (by decide)
    have is2 : ix (nI s) = s := ix_nI (by omega)
    rcases sort_cases g hs with ⟨z1, z2, z3⟩ | ⟨z1, z2, z3⟩
    · refine ⟨_, m, m, by unfold f_S_lay; rw [s1, bp_some, if_neg nz1, show f_S_within (nI 2) 0 3 = _ from t1, bp_some, if_neg nz1, if_neg (show ¬ nI 2 = 1 by decide), if_pos (show nI 2 = 2 from rfl), u1, bp_some, if_neg nz1, if_pos (show nI 2 = 2 from rfl), if_pos is1, is2, q1, if_pos z1], by unfold f_M_lay; rw [s2, bp_some, if_neg nz1, show f_M_in (nI 2) 0 3 = _ from t2, bp_some, if_neg nz1, if_neg (show ¬ nI 2 = 1 by decide), if_pos (show nI 2 = 2 from rfl), u2, bp_some, if_neg nz1, if_pos (show nI 2 = 2 from rfl), if_pos is1, is2, if_neg z2], g⟩
    obtain ⟨c1, w1, w2, w3, w4, w5⟩ := H_become (p := 76 + 3 * q + 1) (o := 68 + 2 * s) (mst m (76 + 3 * q) 0 (nI 2)) (by omega)
    have hS : f_S_lay (nI q) (nI 2) (nI s) m = some (m 107 q, c1) := by
      unfold f_S_lay
      simp only [s1, show f_S_within (nI 2) 0 3 = some 1 from t1, bp_some, if_neg nz1, if_neg (show ¬ nI 2 = 1 by decide), if_pos (show nI 2 = 2 from rfl), u1, if_pos iq, if_pos is1, iq2, is2, lt_eq, o1, q1, if_neg z1, w1]
    have f1 : ∀ k, (k < 76 + 3 * q ∨ 76 + 3 * q + 2 < k) → c1 k = m k := fun k hk => by rw [w5 k (by omega) (by omega), mst_ck (by omega)]
    obtain ⟨m4, v1, v2, v3, v4⟩ := M_layL (m0 := mst (mst (mst c1 107 q (nI 2)) 108 q (c1 105 s)) 109 q 0) hq hs (c1 107 q) 24 0 N _ (by omega) (by omega) (fun _ _ => rfl) (fun j hj => absurd hj (Nat.not_lt_zero j)) (fun _ _ => rfl)
    have hM : f_M_lay N (nI q) (nI 2) (nI s) c1 = some (c1 107 q, m4) := by
      unfold f_M_lay
      simp only [s2, show f_M_in (nI 2) 0 3 = some 1 from t2, bp_some, if_neg nz1, if_neg (show ¬ nI 2 = 1 by decide), if_pos (show nI 2 = 2 from rfl), u2, if_pos is1, is2, f1 104 (by omega), if_pos z2, if_pos iq, iq2, lt_eq]
      rw [mst_ck (k2 := 105) (by omega), show f_M_lay_L134 N (nI q) (nI 2) (nI s) (c1 107 q) 0 (mst (mst (mst c1 107 q (nI 2)) 108 q (c1 105 s)) 109 q 0) = _ from v1, bd_some]
    have z : ∀ k, (k < 107 ∨ 110 < k) → m4 k = c1 k := fun k hk => by rw [v4 k (by omega), mst_ck (by omega), mst_ck (by omega), mst_ck (by omega)]
    refine ⟨_, c1, m4, hS, by rw [hM, f1 107 (by omega)], g.sl1 hq (fun k h1 h2 => (z k h2).trans (f1 k h1)) (fun i hi => by rw [v4 107 (by omega), mst_ck (by omega), mst_ck (by omega), mst_i hi, f1 107 (by omega)]) (fun i hi => by rw [v4 108 (by omega), mst_ck (by omega), mst_i hi, mst_ck (by omega), f1 108 (by omega)]) (fun i hi => by rw [v4 109 (by omega), mst_i hi, mst_ck (by omega), mst_ck (by omega), f1 109 (by omega)]) (fun i hi => by rw [v3 i hi, mst_ck (by omega), mst_ck (by omega), mst_ck (by omega), f1 110 (by omega)]) ?_⟩
    have e7 : m4 107 q = nI 2 := by rw [v4 107 (by omega), mst_ck (by omega), mst_ck (by omega), mst_at]
    refine ⟨by rw [e7, z _ (by omega), w5 _ (by omega) (by omega), mst_at], fun e => by rw [e7] at e; exact absurd e (by decide), fun _ => ⟨⟨n, q3, ?_, ?_⟩, fun j hj => ?_⟩, fun e => by rw [e7] at e; exact absurd e (by decide)⟩
    · rw [z _ (by omega), w3, mst_ck (by omega)]; exact q4
    · rw [v4 108 (by omega), mst_ck (by omega), mst_at, f1 105 (by omega)]; exact q5
    · rw [v2 j hj, z _ (by omega), w4 j hj, mst_ck (by omega), mst_ck (by omega), mst_ck (by omega), mst_ck (by omega), f1 106 (by omega)]
      exact (q6 j hj).1
  | 3, _ =>
    have hS : f_S_lay (nI q) (nI 3) c m = some (m 107 q, mst (mst m (76 + 3 * q) 0 (nI 3)) (76 + 3 * q) 3 c) := by
      unfold f_S_lay
      simp only [s1, show f_S_within (nI 3) 0 3 = some 1 from t1, bp_some, if_neg nz1, if_neg (show ¬ nI 3 = 1 by decide), if_neg (show ¬ nI 3 = 2 by decide), if_pos (show nI 3 = 3 from rfl), if_pos iq, iq2, lt_eq, o1]
    have hM : ∀ d : Mm, f_M_lay N (nI q) (nI 3) c d = some (d 107 q, mst (mst (mst d 107 q (nI 3)) 108 q c) 109 q 0) := by
      intro d
      unfold f_M_lay
      simp only [s2, show f_M_in (nI 3) 0 3 = some 1 from t2, bp_some, if_neg nz1, if_neg (show ¬ nI 3 = 1 by decide), if_neg (show ¬ nI 3 = 2 by decide), if_pos iq, iq2, lt_eq, M_lay0 (q := q) (Or.inr (Or.inr rfl)) (nI q) c (d 107 q) _ (show 0 < N by omega), bd_some]
    refine ⟨_, _, _, hS, by rw [hM, mst_ck (k2 := 107) (by omega), mst_ck (k2 := 107) (by omega)], g.sl1 hq (fun k h1 h2 => by rw [mst_ck (by omega), mst_ck (by omega), mst_ck (by omega), mst_ck (by omega), mst_ck (by omega)]) (fun i hi => by rw [mst_ck (by omega), mst_ck (by omega), mst_i hi, mst_ck (by omega), mst_ck (by omega)]) (fun i hi => by rw [mst_ck (by omega), mst_i hi, mst_ck (by omega), mst_ck (by omega), mst_ck (by omega)]) (fun i hi => by rw [mst_i hi, mst_ck (by omega), mst_ck (by omega), mst_ck (by omega), mst_ck (by omega)]) (fun i hi => by rw [mst_ck (by omega), mst_ck (by omega), mst_ck (by omega), mst_ck (by omega), mst_ck (by omega)]) ?_⟩
    have e7 : mst (mst (mst (mst (mst m (76 + 3 * q) 0 (nI 3)) (76 + 3 * q) 3 c) 107 q (nI 3)) 108 q c) 109 q 0 107 q = nI 3 := by rw [mst_ck (by omega), mst_ck (by omega), mst_at]
    exact ⟨by rw [e7, mst_ck (by omega), mst_ck (by omega), mst_ck (by omega), mst_i (by decide), mst_at], fun e => by rw [e7] at e; exact absurd e (by decide), fun e => by rw [e7] at e; exact absurd e (by decide), fun _ => by rw [mst_ck (by omega), mst_ck (by omega), mst_ck (by omega), mst_at, mst_ck (k2 := 108) (by omega), mst_at]⟩
