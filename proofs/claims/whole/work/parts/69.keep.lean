/-! PURE: keep, back, check -/
def mix (f g : Row) : Row := fun j => if j < 1436 then f j else g j
theorem mix_in {f g : Row} {j : Nat} (h : j < 1436) : mix f g j = f j := if_pos h
theorem M_cpL {o1 o2 : Nat} (ho : o1 ≠ o2) {f g : Row} : ∀ (d k F : Nat) (m : Mm), k + d = 1436 → d < F → m o1 = f → m o2 = (fun j => if j < k then f j else g j) → ∃ m2, f_M_copyAll_L2 o1 o2 F (nI k) m = some (nI 1436, m2) ∧ m2 o2 = mix f g ∧ ∀ q, q ≠ o2 → m2 q = m q
  | 0, k, F, m, h, hF, h1, h2 => by
    obtain ⟨F, rfl⟩ : ∃ f, F = f + 1 := ⟨F - 1, by omega⟩
    have : k = 1436 := by omega
    subst this
    exact ⟨m, by rw [f_M_copyAll_L2, if_pos (l_le (n := 1436) (by omega) (by decide))], h2, fun _ _ => rfl⟩
  | d + 1, k, F, m, h, hF, h1, h2 => by
    obtain ⟨F, rfl⟩ : ∃ f, F = f + 1 := ⟨F - 1, by omega⟩
    rw [f_M_copyAll_L2, if_neg (l_ge (n := 1436) (by omega) (by decide)), if_pos (inb_nI (by omega) (by decide)), ix_nI (by omega), lt_eq, nI_1]
    obtain ⟨m2, u1, u2, u3⟩ := M_cpL ho (f := f) (g := g) d (k + 1) F (mst m o2 k (m o1 k)) (by omega) (by omega) (by rw [mst_ck ho]; exact h1) (by
      rw [mst_row, h1, h2]
      funext j
      unfold upd
      by_cases e : j = k
      · rw [if_pos e, if_pos (by omega), e]
      · rw [if_neg e]
        show (if j < k then f j else g j) = if j < k + 1 then f j else g j
        by_cases q : j < k
        · rw [if_pos q, if_pos (by omega)]
        · rw [if_neg q, if_neg (by omega)])
    exact ⟨m2, u1, u2, fun q hq => (u3 q hq).trans (mst_ck hq)⟩
theorem M_copyAll {o1 o2 : Nat} (ho : o1 ≠ o2) (m : Mm) {N : Nat} (hN : 1500 ≤ N) : ∃ m2, f_M_copyAll N o1 o2 m = some m2 ∧ m2 o2 = mix (m o1) (m o2) ∧ ∀ q, q ≠ o2 → m2 q = m q := by
  obtain ⟨m2, u1, u2, u3⟩ := M_cpL ho (f := m o1) (g := m o2) 1436 0 N m (by omega) (by omega) rfl (funext fun j => by rw [if_neg (Nat.not_lt_zero j)])
  refine ⟨m2, ?_, u2, u3⟩
  unfold f_M_copyAll
  rw [show f_M_copyAll_L2 o1 o2 N 0 m = _ from u1]
  rfl
-- rows that agree
def agr (r r2 : Row) : Prop := ∀ j, j < 1436 → r2 j = r j
theorem mix_agr (f g : Row) : agr f (mix f g) := fun _ h => mix_in h
theorem agr.sym {r r2 : Row} (h : agr r r2) : agr r2 r := fun j hj => (h j hj).symm
theorem Eqv.agr {p : Nat} {c : Mm} {r r2 : Row} (h : Eqv p c r) (ha : agr r r2) : Eqv p c r2 := h.rowk (fun j hj => ha j (by omega))
theorem lastT_agr {r r2 : Row} (ha : agr r r2) {key : Nat} : ∀ T, T ≤ 14 → lastT r2 key T = lastT r key T
  | 0, _ => rfl
  | T + 1, h => by unfold lastT; rw [ha _ (by omega), lastT_agr ha T (by omega)]
theorem dpt_cg {co c2 : Nat → Int32} : ∀ k, (∀ j, j < k → c2 j = co j) → dpt c2 k = dpt co k
  | 0, _ => rfl
  | k + 1, h => by unfold dpt; rw [h k (by omega), dpt_cg k (fun j hj => h j (by omega))]
theorem vld_cg {key n : Nat} {co c2 : Nat → Int32} (h : ∀ j, j < n → c2 j = co j) (hv : vld key co n) : vld key c2 n := by
  obtain ⟨h1, h2, h3⟩ := hv
  refine ⟨fun k hk => ?_, by rw [dpt_cg n h]; exact h2, h3⟩
  rw [h k hk, dpt_cg k (fun j hj => h j (by omega))]
  exact h1 k hk
theorem Txt.agr {c : Mm} {r r2 : Row} (h : Txt c r) (ha : agr r r2) : Txt c r2 := by
  obtain ⟨T, h1, h2, h3⟩ := h
  refine ⟨T, h1, (ha 6 (by omega)).trans h2, fun n hn => ?_⟩
  obtain ⟨key, sz, q1, q2, q3, q4, q5, q6, q7⟩ := h3 n hn
  have hs := q7.2.2
  exact ⟨key, sz, q1, (ha _ (by omega)).trans q2, q3, by rw [ha _ (by omega)]; exact q4, q5, fun j hj => by rw [ha _ (by omega)]; exact q6 j hj, vld_cg (fun j hj => ha _ (by omega)) q7⟩
theorem Inv.agr {B : Nat} {r r2 : Row} (h : Inv B r) (ha : agr r r2) : Inv B r2 := by
  obtain ⟨h1, h2, h3, h4⟩ := h
  exact ⟨by rw [ha _ (by omega)]; exact h1, fun i hi => by rw [ha _ (by omega)]; exact h2 i hi, fun t ht => by rw [ha _ (by omega), ha _ (by omega)]; exact h3 t ht, fun m hm => by rw [ha _ (by omega), ha _ (by omega)]; exact h4 m hm⟩
theorem Pc.agr {B p : Nat} {c : Mm} {r r2 : Row} (h : Pc B p c r) (ha : agr r r2) : Pc B p c r2 := by
  obtain ⟨h1, h2, h3, h4⟩ := h
  refine ⟨h1.agr ha, fun key hk => ?_, h3.agr ha, h4.agr ha⟩
  rw [h2 key hk]
  obtain ⟨T, q1, q2, -⟩ := h3
  unfold lawN
  rw [ha 6 (by omega), q2, ix_nI (by omega), lastT_agr ha T q1]
theorem HB.agr {r r2 : Row} (h : HB r) (ha : agr r r2) : HB r2 := h.cg (ha 2 (by omega)) (ha 5 (by omega))
/-- now's row as it was up to its end; what waits may differ -/
theorem Good.fin {a b : Mm} (h : Good a) (h92 : agr (a 92) (b 92)) (f : ∀ k, ¬ scrC k → k ≠ 92 → k ≠ 0 → k ≠ 91 → b k = a k) (f0 : ∀ i, i ≠ 9 → b 0 i = a 0 i) (f91 : ∀ i, i ≠ 33 → b 91 i = a 91 i) (w : GWait b) : Good b := by
  obtain ⟨⟨n1, n2, n3, n4⟩, i, t, -, sh, sl, ky⟩ := h
  have z : ∀ k, k = 2 ∨ k = 3 ∨ k = 6 ∨ (7 ≤ k ∧ k < 37) ∨ (38 ≤ k ∧ k < 58) ∨ (68 ≤ k ∧ k ≤ 90) ∨ k = 93 ∨ (96 ≤ k ∧ k ≤ 98) ∨ (104 ≤ k ∧ k ≤ 110) ∨ k = 112 → b k = a k := fun k hk => f k (by unfold scrC; omega) (by omega) (by omega) (by omega)
  refine ⟨⟨?_, n2.agr h92, by rw [z 38 (by omega)]; exact n3, (f91 4 (by omega)).trans n4⟩, i.cg (f0 5 (by omega)) (f91 3 (by omega)) (fun k _ _ => z k (by omega)) (fun k _ _ => z k (by omega)) (z 93 (by omega)) (h92 6 (by omega)), t.cg (by rw [z 2 (by omega)]) (z 3 (by omega)) (f91 7 (by omega)) (z 96 (by omega)), w, sh.cg (fun k _ _ => z k (by omega)) (z 104 (by omega)) (z 105 (by omega)) (z 106 (by omega)), sl.cg (fun k _ _ => z k (by omega)) (z 107 (by omega)) (z 108 (by omega)) (z 109 (by omega)) (z 110 (by omega)), ky.cg (z 97 (by omega)) (z 98 (by omega))⟩
  exact (n1.agr h92).cg (fun k _ _ => z k (by omega)) (fun k _ _ => z k (by omega))
theorem ok_keep {m : Mm} (g : Good m) {N : Nat} (hN : 1500 ≤ N) : Ok2 (f_S_keep) (f_M_keep N) m := by
  unfold Ok2 f_S_keep f_M_keep
  obtain ⟨c1, w1, w2, w3, w4, w5⟩ := P_become (p := 48) (o := 38) (c := m) (r := m 92) (by omega) g.1.1.1 g.1.1.2.1
  rw [w1, bp_some, lt_eq]
  have f1 : ∀ k, k ≠ 0 → (k < 48 ∨ 57 < k) → mst c1 0 5 1 k = m k := fun k h1 h2 => by rw [mst_ck h1]; exact w5 k (by omega)
  have f0 : ∀ i, i ≠ 5 → mst c1 0 5 1 0 i = m 0 i := fun i hi => by rw [mst_i hi, w5 0 (by omega)]
  have e5 : mst c1 0 5 1 0 5 = 1 := mst_at _ _ _ _
  have g1 : ∀ k, 48 ≤ k → k ≤ 57 → mst c1 0 5 1 k = c1 k := fun k h1 h2 => mst_ck (by omega)
  generalize mst c1 0 5 1 = c2 at *
  obtain ⟨m2, x1, x2, x3⟩ := M_copyAll (o1 := 92) (o2 := 93) (by omega) c2 hN
  refine ⟨_, c2, mst m2 91 3 1, rfl, ?_, ?_⟩
  · rw [x1, bp_some, lt_eq, mst_ck (k2 := 92) (by omega), x3 92 (by omega), f1 92 (by omega) (by omega), ixc_1, f1 38 (by omega) (by omega), e_monks g.1.1.1]
  · have z : ∀ k, k ≠ 0 → (k < 48 ∨ 57 < k) → k ≠ 91 → k ≠ 93 → mst m2 91 3 1 k = m k := fun k h1 h2 h3 h4 => by rw [mst_ck h3, x3 k h4]; exact f1 k h1 h2
    have z91 : ∀ i, i ≠ 3 → mst m2 91 3 1 91 i = m 91 i := fun i hi => by rw [mst_i hi, x3 91 (by omega), f1 91 (by omega) (by omega)]
    have z0 : mst m2 91 3 1 0 = c2 0 := by rw [mst_ck (by omega), x3 0 (by omega)]
    have z93 : mst m2 91 3 1 93 = mix (m 92) (c2 93) := by rw [mst_ck (by omega), x2, f1 92 (by omega) (by omega)]
    have ag : agr (m 92) (mst m2 91 3 1 93) := by rw [z93]; exact mix_agr _ _
    obtain ⟨n, i, t, w, sh, sl, ky⟩ := g
    refine ⟨n.cg (fun k _ _ _ => z k (by omega) (by omega) (by omega) (by omega)) (z 92 (by omega) (by omega) (by omega) (by omega)) (z91 4 (by omega)), Or.inr ⟨by rw [z0]; exact e5, mst_at _ _ _ _, ?_, n.2.1.agr ag, ?_⟩, t.cg (by rw [z 2 (by omega) (by omega) (by omega) (by omega)]) (z 3 (by omega) (by omega) (by omega) (by omega)) (z91 7 (by omega)) (z 96 (by omega) (by omega) (by omega) (by omega)), w.cg (by rw [z0]; exact f0 9 (by omega)) (z 6 (by omega) (by omega) (by omega) (by omega)) (z91 33 (by omega)) (z 112 (by omega) (by omega) (by omega) (by omega)), sh.cg (fun k _ _ => z k (by omega) (by omega) (by omega) (by omega)) (z 104 (by omega) (by omega) (by omega) (by omega)) (z 105 (by omega) (by omega) (by omega) (by omega)) (z 106 (by omega) (by omega) (by omega) (by omega)), sl.cg (fun k _ _ => z k (by omega) (by omega) (by omega) (by omega)) (z 107 (by omega) (by omega) (by omega) (by omega)) (z 108 (by omega) (by omega) (by omega) (by omega)) (z 109 (by omega) (by omega) (by omega) (by omega)) (z 110 (by omega) (by omega) (by omega) (by omega)), ky.cg (z 97 (by omega) (by omega) (by omega) (by omega)) (z 98 (by omega) (by omega) (by omega) (by omega))⟩
    · have hp : Pc 999 48 c1 (m 92) := ⟨w2, w3, n.1.2.2.1.cong rfl (fun _ _ => rfl) (fun k _ _ => w5 k (by omega)), n.1.2.2.2⟩
      exact (hp.agr ag).cg (fun k h1 h2 => by rw [mst_ck (by omega), x3 k (by omega)]; exact g1 k h1 h2) (fun k h1 h2 => by rw [z k (by omega) (by omega) (by omega) (by omega)]; exact (w5 k (by omega)).symm)
    · rw [ag 6 (by omega), z 92 (by omega) (by omega) (by omega) (by omega)]; exact Nat.le_refl _
theorem ok_back {m : Mm} (g : Good m) {N : Nat} (hN : 1500 ≤ N) : Ok2 (f_S_back) (f_M_back N) m := by
  unfold Ok2 f_S_back f_M_back
  obtain ⟨n, i, t, w, sh, sl, ky⟩ := g
  rcases i with ⟨i1, i2⟩ | ⟨i1, i2, i3, i4, i5⟩
  · exact ⟨_, m, m, if_pos i1, if_pos i2, n, Or.inl ⟨i1, i2⟩, t, w, sh, sl, ky⟩
  obtain ⟨c1, w1, w2, w3, w4, w5⟩ := P_become (p := 38) (o := 48) (c := m) (r := m 93) (by omega) i3.1 i3.2.1
  rw [i1, if_neg nz1, w1, bp_some]
  obtain ⟨m2, x1, x2, x3⟩ := M_copyAll (o1 := 93) (o2 := 92) (by omega) c1 hN
  have ag : agr (m 93) (m2 92) := by rw [x2, w5 93 (by omega)]; exact mix_agr _ _
  refine ⟨_, c1, m2, rfl, ?_, ?_⟩
  · rw [w5 91 (by omega), i2, if_neg nz1, x1, bp_some, ixc_1, ag 1 (by omega), e_monks w2]
  · have z : ∀ k, (k < 38 ∨ 47 < k) → k ≠ 92 → m2 k = m k := fun k h1 h2 => (x3 k h2).trans (w5 k (by omega))
    refine ⟨⟨?_, i4.agr ag, ?_, ?_⟩, Or.inr ⟨?_, ?_, ?_, ?_, ?_⟩, t.cg (by rw [z 2 (by omega) (by omega)]) (z 3 (by omega) (by omega)) (by rw [z 91 (by omega) (by omega)]) (z 96 (by omega) (by omega)), w.cg (by rw [z 0 (by omega) (by omega)]) (z 6 (by omega) (by omega)) (by rw [z 91 (by omega) (by omega)]) (z 112 (by omega) (by omega)), sh.cg (fun k _ _ => z k (by omega) (by omega)) (z 104 (by omega) (by omega)) (z 105 (by omega) (by omega)) (z 106 (by omega) (by omega)), sl.cg (fun k _ _ => z k (by omega) (by omega)) (z 107 (by omega) (by omega)) (z 108 (by omega) (by omega)) (z 109 (by omega) (by omega)) (z 110 (by omega) (by omega)), ky.cg (z 97 (by omega) (by omega)) (z 98 (by omega) (by omega))⟩
    · have hp : Pc 999 38 c1 (m 93) := ⟨w2, w3, i3.2.2.1.cong rfl (fun _ _ => rfl) (fun k _ _ => w5 k (by omega)), i3.2.2.2⟩
      exact (hp.agr ag).cg (fun k h1 h2 => x3 k (by omega)) (fun k h1 h2 => x3 k (by omega))
    · rw [x3 38 (by omega)]; exact w4
    · rw [z 91 (by omega) (by omega)]; exact n.2.2.2
    · rw [z 0 (by omega) (by omega)]; exact i1
    · rw [z 91 (by omega) (by omega)]; exact i2
    · rw [z 93 (by omega) (by omega)]
      exact i3.cg (fun k h1 h2 => z k (by omega) (by omega)) (fun k h1 h2 => z k (by omega) (by omega))
    · rw [z 93 (by omega) (by omega)]; exact i4
    · rw [z 93 (by omega) (by omega), ag 6 (by omega)]; exact Nat.le_refl _
