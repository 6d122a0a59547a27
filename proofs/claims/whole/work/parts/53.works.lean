/-! PURE: the class's and the reference's working out of a text are 'run' -/
theorem X_loop {q n key : Nat} {co : Nat → Int32} (hv : vld key co n) (hq : q + 1 < 37) (a b c : Int32) (g : Nat → Int32) : ∀ (d k : Nat) (mem : Mm) (F : Nat), k + d = n → d < F → mem q 2 = nI n → (∀ j, j < n → mem (q + 1) j = trc (co j)) → mem 37 = (run co a b c g k).2 → ∃ m2, f_X_worksOut_L6 q F a b c (nI (dpt co k)) (nI k) mem = some ((nI (dpt co n), nI n), m2) ∧ m2 37 = (run co a b c g n).2 ∧ ∀ j, j ≠ 37 → m2 j = mem j := by
  intro d
  induction d with
  | zero =>
    intro k mem F hk hF h2 hc hs
    obtain ⟨F, rfl⟩ : ∃ f, F = f + 1 := ⟨F - 1, by omega⟩
    have hk : k = n := by omega
    subst hk
    refine ⟨mem, ?_, hs, fun _ _ => rfl⟩
    rw [f_X_worksOut_L6, if_pos (by rw [h2]; exact nI_le (Nat.le_refl _) (by have := hv.2.2; omega))]
  | succ d ih =>
    intro k mem F hk hF h2 hc hs
    obtain ⟨F, rfl⟩ : ∃ f, F = f + 1 := ⟨F - 1, by omega⟩
    have hn := hv.2.2
    have hkn : k < n := by omega
    obtain ⟨hok, hdp⟩ := hv.1 k hkn
    have hdl := dpt_le co k
    have htop := run_top co a b c g k
    have hkk : nI k + 1 = nI (k + 1) := nI_1 k
    have nxt : ∀ (i : Nat) (v : Int32), upd (mem 37) i v = (run co a b c g (k + 1)).2 → ∃ m2, f_X_worksOut_L6 q F a b c (nI (dpt co (k + 1))) (nI (k + 1)) (mst mem 37 i v) = some ((nI (dpt co n), nI n), m2) ∧ m2 37 = (run co a b c g n).2 ∧ ∀ j, j ≠ 37 → m2 j = mem j := by
      intro i v hr
      obtain ⟨m2, q1, q2, q3⟩ := ih (k + 1) (mst mem 37 i v) F (by omega) (by omega) (by rw [mst_ck (by omega)]; exact h2) (fun j hj => by rw [mst_ck (by omega)]; exact hc j hj) (by rw [mst_row]; exact hr)
      exact ⟨m2, q1, q2, fun j hj => (q3 j hj).trans (mst_ck hj)⟩
    have hst : (run co a b c g (k + 1)).2 = (stp (co k) a b c (run co a b c g k)).2 := rfl
    rw [f_X_worksOut_L6, if_neg (by rw [h2]; exact nI_ge hkn (by omega)), if_pos (inb_nI (by omega) (by decide)), ix_nI (by omega), lt_eq, hc k hkn, hkk]
    by_cases h1 : co k < 0
    · obtain ⟨g1, g2, g3⟩ := tr_sign hok h1
      have hdp := hdp h1
      rw [if_pos g1]
      by_cases h3 : co k = (-10)
      · rw [if_pos h3] at hdp
        have ed : dpt co (k + 1) = dpt co k := by show (if _ then _ else _) = _; rw [if_pos h1, if_pos h3]
        have e1 : nI (dpt co k) - 1 = nI (dpt co k - 1) := pk_sub (b := 1) hdp
        rw [if_pos (g2.mpr h3), if_neg (r_nlt (n := 1) hdp (by omega)), e1, if_pos (inb_nI (by omega) (by decide)), ix_nI (by omega), lt_eq]
        rw [ed] at nxt
        exact nxt _ _ (by rw [hst]; unfold stp; rw [if_pos h1, if_pos h3]; show _ = upd _ _ _; rw [htop, hs])
      · rw [if_neg h3] at hdp
        have ed : dpt co (k + 1) = dpt co k - 1 := by show (if _ then _ else _) = _; rw [if_pos h1, if_neg h3]
        have e1 : nI (dpt co k) + (-1) = nI (dpt co k - 1) := by
          obtain ⟨w, hw⟩ : ∃ w, dpt co k = w + 1 := ⟨dpt co k - 1, by omega⟩
          rw [hw, pk_m1]; rfl
        have e2 : nI (dpt co k - 1) - 1 = nI (dpt co k - 2) := by rw [show nI (dpt co k - 1) - 1 = nI (dpt co k - 1 - 1) from pk_sub (b := 1) (by omega)]; rfl
        rw [if_neg (fun q => h3 (g2.mp q)), if_neg (r_nlt (n := 2) hdp (by omega)), e1, e2, if_pos (inb_nI (by omega) (by decide)), if_pos (inb_nI (by omega) (by decide)), ix_nI (by omega), ix_nI (by omega), g3 h3, bp_some, lt_eq]
        rw [ed] at nxt
        exact nxt _ _ (by rw [hst]; unfold stp; rw [if_pos h1, if_neg h3]; show _ = upd _ _ _; rw [htop, hs])
    · obtain ⟨g1, g2⟩ := tr_leaf hok h1 a b c
      have ed : dpt co (k + 1) = dpt co k + 1 := by show (if _ then _ else _) = _; rw [if_neg h1]
      have e1 : nI (dpt co k) + 1 = nI (dpt co k + 1) := nI_1 _
      rw [if_neg g1, if_neg (l_ge (n := 96) (by omega) (by decide)), g2, bp_some, if_pos (inb_nI (by omega) (by decide)), ix_nI (by omega), lt_eq, e1]
      rw [ed] at nxt
      exact nxt _ _ (by rw [hst]; unfold stp; rw [if_neg h1]; show _ = upd _ _ _; rw [htop, hs])
theorem X_works {q n key : Nat} {co : Nat → Int32} (hv : vld key co n) (hq : q + 1 < 37) (a b c : Int32) {mem : Mm} {N : Nat} (hN : 97 ≤ N) (h2 : mem q 2 = nI n) (hc : ∀ j, j < n → mem (q + 1) j = trc (co j)) : ∃ m2, f_X_worksOut N q a b c mem = some (evl co n a b c, m2) ∧ ∀ j, j ≠ 37 → m2 j = mem j := by
  have hn := hv.2.2
  obtain ⟨m2, q1, q2, q3⟩ := X_loop hv hq a b c (mem 37) n 0 mem N (by omega) (by omega) h2 hc rfl
  refine ⟨m2, ?_, q3⟩
  unfold f_X_worksOut
  rw [show f_X_worksOut_L6 q N a b c 0 0 mem = _ from q1, bd_some, hv.2.1]
  show some (if nI 1 ≤ 0 then _ else _, m2) = _
  rw [if_neg (by decide), ixc_0, q2, evl_run hv]
theorem M_loop {t n key : Nat} {co : Nat → Int32} (hv : vld key co n) (ht : t < 14) (a b c : Int32) (g : Nat → Int32) : ∀ (d k : Nat) (mem : Mm) (F : Nat), k + d = n → d < F → (∀ j, j < n → mem 92 (92 + 96 * t + j) = co j) → (mem 103 0 = a ∧ mem 103 1 = b ∧ (key = 2 ∨ mem 103 2 = c)) → mem 102 = (run co a b c g k).2 → ∃ m2, f_M_worksOut_L21 F (nI t) (nI (dpt co k)) (nI n) (nI k) mem = some ((nI (dpt co n), nI n), m2) ∧ m2 102 = (run co a b c g n).2 ∧ ∀ j, j ≠ 102 → m2 j = mem j := by
  intro d
  induction d with
  | zero =>
    intro k mem F hk hF hc hf hs
    obtain ⟨F, rfl⟩ : ∃ f, F = f + 1 := ⟨F - 1, by omega⟩
    have hk : k = n := by omega
    subst hk
    refine ⟨mem, ?_, hs, fun _ _ => rfl⟩
    rw [f_M_worksOut_L21, if_pos (nI_le (Nat.le_refl _) (by have := hv.2.2; omega))]
  | succ d ih =>
    intro k mem F hk hF hc hf hs
    obtain ⟨F, rfl⟩ : ∃ f, F = f + 1 := ⟨F - 1, by omega⟩
    have hn := hv.2.2
    have hkn : k < n := by omega
    obtain ⟨hok, hdp⟩ := hv.1 k hkn
    have hdl := dpt_le co k
    have htop := run_top co a b c g k
    have hkk : nI k + 1 = nI (k + 1) := nI_1 k
    have hix : (92 + 96 * nI t) + nI k = nI (92 + 96 * t + k) := by
      rw [show (92 : Int32) = nI 92 from rfl, show (96 : Int32) = nI 96 from rfl, pk_mul, nI_add, nI_add]
    have nxt : ∀ (i : Nat) (v : Int32), upd (mem 102) i v = (run co a b c g (k + 1)).2 → ∃ m2, f_M_worksOut_L21 F (nI t) (nI (dpt co (k + 1))) (nI n) (nI (k + 1)) (mst mem 102 i v) = some ((nI (dpt co n), nI n), m2) ∧ m2 102 = (run co a b c g n).2 ∧ ∀ j, j ≠ 102 → m2 j = mem j := by
      intro i v hr
      obtain ⟨m2, q1, q2, q3⟩ := ih (k + 1) (mst mem 102 i v) F (by omega) (by omega) (fun j hj => by rw [mst_ck (by omega)]; exact hc j hj) (by rw [mst_ck (by omega)]; exact hf) (by rw [mst_row]; exact hr)
      exact ⟨m2, q1, q2, fun j hj => (q3 j hj).trans (mst_ck hj)⟩
    have hst : (run co a b c g (k + 1)).2 = (stp (co k) a b c (run co a b c g k)).2 := rfl
    rw [f_M_worksOut_L21, if_neg (nI_ge hkn (by omega)), hix, if_pos (inb_nI (by omega) (by decide)), ix_nI (by omega), lt_eq, hc k hkn, hkk]
    by_cases h1 : co k < 0
    · have hdp := hdp h1
      rw [if_pos h1]
      by_cases h3 : co k = (-10)
      · rw [if_pos h3] at hdp
        have ed : dpt co (k + 1) = dpt co k := by show (if _ then _ else _) = _; rw [if_pos h1, if_pos h3]
        have e1 : nI (dpt co k) - 1 = nI (dpt co k - 1) := pk_sub (b := 1) hdp
        rw [if_pos h3, e1, if_pos (inb_nI (by omega) (by decide)), ix_nI (by omega), lt_eq]
        rw [ed] at nxt
        exact nxt _ _ (by rw [hst]; unfold stp; rw [if_pos h1, if_pos h3]; show _ = upd _ _ _; rw [htop, hs])
      · rw [if_neg h3] at hdp
        have ed : dpt co (k + 1) = dpt co k - 1 := by show (if _ then _ else _) = _; rw [if_pos h1, if_neg h3]
        have e1 : nI (dpt co k) + (-1) = nI (dpt co k - 1) := by
          obtain ⟨w, hw⟩ : ∃ w, dpt co k = w + 1 := ⟨dpt co k - 1, by omega⟩
          rw [hw, pk_m1]; rfl
        have e2 : nI (dpt co k - 1) - 1 = nI (dpt co k - 2) := by rw [show nI (dpt co k - 1) - 1 = nI (dpt co k - 1 - 1) from pk_sub (b := 1) (by omega)]; rfl
        rw [if_neg h3, e1, e2, if_pos (inb_nI (by omega) (by decide)), if_pos (inb_nI (by omega) (by decide)), ix_nI (by omega), ix_nI (by omega), M_two, bp_some, lt_eq]
        rw [ed] at nxt
        exact nxt _ _ (by rw [hst]; unfold stp; rw [if_pos h1, if_neg h3]; show _ = upd _ _ _; rw [htop, hs])
    · have ed : dpt co (k + 1) = dpt co k + 1 := by show (if _ then _ else _) = _; rw [if_neg h1]
      have e1 : nI (dpt co k) + 1 = nI (dpt co k + 1) := nI_1 _
      rw [ed] at nxt
      rw [if_neg h1]
      rcases hok with ⟨v, hv1, hx⟩ | ⟨i, hi, hi2, hx⟩ | ⟨s, s1, s2, hx⟩
      · have hlt : ¬ (10000 : Int32) ≤ co k := by rw [hx]; exact nI_ge (b := 10000) hv1 (by decide)
        rw [if_neg hlt, if_pos (inb_nI (by omega) (by decide)), ix_nI (by omega), lt_eq, e1]
        exact nxt _ _ (by rw [hst]; unfold stp; rw [if_neg h1, if_neg hlt]; show _ = upd _ _ _; rw [htop, hs])
      · have hle : (10000 : Int32) ≤ co k := by rw [hx]; exact nI_le (a := 10000) (by omega) (by omega)
        have es : co k - 10000 = nI i := by rw [hx, show nI (10000 + i) - 10000 = nI (10000 + i - 10000) from pk_sub (b := 10000) (by omega), Nat.add_sub_cancel_left]
        have ef : mem 103 i = fact a b c (co k) := by
          rw [hx]
          match i, hi, hi2 with
          | 0, _, _ => exact hf.1
          | 1, _, _ => exact hf.2.1
          | 2, _, h => rcases hf.2.2 with e | e
                       · exact absurd (h e) (by decide)
                       · exact e
          | k + 3, h, _ => omega
        rw [if_pos hle, es, if_pos (inb_nI (by omega) (by decide)), if_pos (inb_nI (by omega) (by decide)), ix_nI (by omega), ix_nI (by omega), lt_eq, e1, ef]
        exact nxt _ _ (by rw [hst]; unfold stp; rw [if_neg h1, if_pos hle]; show _ = upd _ _ _; rw [htop, hs])
      · exact absurd (by rw [hx]; exact sg_cases s1 s2 (P := fun x => x < 0) (by decide) (by decide) (by decide) (by decide) (by decide) (by decide) (by decide) (by decide) (by decide) (by decide)) h1
theorem M_works {t n key : Nat} {co : Nat → Int32} (hv : vld key co n) (ht : t < 14) (hk3 : key < 3) (a b c : Int32) {mem : Mm} {N : Nat} (hN : 97 ≤ N) (h2 : mem 92 (64 + 2 * t) = nI (1000 * key + n)) (hc : ∀ j, j < n → mem 92 (92 + 96 * t + j) = co j) (hf : mem 103 0 = a ∧ mem 103 1 = b ∧ (key = 2 ∨ mem 103 2 = c)) : ∃ m2, f_M_worksOut N (nI t) mem = some (evl co n a b c, m2) ∧ ∀ j, j ≠ 102 → m2 j = mem j := by
  have hn := hv.2.2
  obtain ⟨m2, q1, q2, q3⟩ := M_loop hv ht a b c (mem 102) n 0 mem N (by omega) (by omega) hc hf rfl
  refine ⟨m2, ?_, q3⟩
  have hix : 64 + 2 * nI t = nI (64 + 2 * t) := by
    rw [show (64 : Int32) = nI 64 from rfl, show (2 : Int32) = nI 2 from rfl, pk_mul, nI_add]
  have hm : nI (1000 * key + n) - nI (1000 * key + n) / 1000 * 1000 = nI n := by
    rw [show (1000 : Int32) = nI 1000 from rfl, pk_rem (by omega) (by decide) (by decide)]
    congr 1
    omega
  unfold f_M_worksOut
  rw [hix, if_pos (inb_nI (by omega) (by decide)), ix_nI (by omega), lt_eq, h2, hm, show f_M_worksOut_L21 N (nI t) 0 (nI n) 0 mem = _ from q1, bd_some, ixc_0, q2, evl_run hv]
