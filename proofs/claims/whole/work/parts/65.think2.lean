/-! PURE: thinking and putting back -/
/-- nothing but scratch has changed -/
def CT (a b : Mm) : Prop := ∀ k, ¬ scrC k → b k = a k
theorem CT.rf {a : Mm} : CT a a := fun _ _ => rfl
theorem CT.tr {a b c : Mm} (h : CT a b) (h2 : CT b c) : CT a c := fun k hk => (h2 k hk).trans (h k hk)
/-- the reference is thinking: its row may differ, what it was lies in 95 -/
def TH (a b : Mm) : Prop := (∀ j, j < 64 → b 95 j = a 92 j) ∧ RW (a 92) (b 92) ∧ (∀ i, i ≠ 4 → b 91 i = a 91 i) ∧ ∀ k, ¬ scrC k → k ≠ 91 → k ≠ 92 → b k = a k
theorem PF.ct {a b : Mm} (h : PF 58 a b) : CT a b := fun k hk => h.1 k (fun e => hk (Or.inl e)) (by unfold scrC at hk; omega)
theorem think_S {a c : Mm} (g : Good a) (h : CT a c) : ∃ c1, f_P_become 58 38 c = some c1 ∧ Pc 999 58 c1 (a 92) ∧ c1 58 18 = (-1) ∧ CT a c1 := by
  have hn := g.1.1
  have e : ∀ k, 7 ≤ k → k ≤ 47 → k ≠ 37 → c k = a k := fun k h1 h2 h3 => h k (by unfold scrC; omega)
  obtain ⟨c1, w1, w2, w3, w4, w5⟩ := P_become (p := 58) (o := 38) (c := c) (r := a 92) (by omega) (hn.1.cg (fun k h1 h2 => e k (by omega) (by omega) (by omega))) (fun key hk => by rw [e 39 (by omega) (by omega) (by omega)]; exact hn.2.1 key hk)
  refine ⟨c1, w1, ⟨w2, w3, hn.2.2.1.cong rfl (fun _ _ => rfl) (fun k h1 h2 => (w5 k (by omega)).trans (e k (by omega) (by omega) (by omega))), hn.2.2.2⟩, w4, fun k hk => ?_⟩
  rw [w5 k (by unfold scrC at hk; omega)]
  exact h k hk
theorem run_S {a c : Mm} {r : Row} (hr : RW (a 92) r) (h : CT a c) (hP : Pc 999 58 c r) {n N : Nat} (hn : n ≤ 400) (hN : 500 ≤ N) : ∃ c2, f_P_passHours N 58 (nI n) c = some (nI (aWs (tvOf (a 92)) (c 58 18) r n), c2) ∧ Pc 999 58 c2 (aHours (tvOf (a 92)) (c 58 18) r n) ∧ CT a c2 ∧ c2 58 18 = c 58 18 := by
  obtain ⟨c2, w1, w2, w3⟩ := P_hours (p := 58) (Or.inr (Or.inr rfl)) hr hn hN hP
  exact ⟨c2, w1, w2, h.tr w3.ct, w3.2⟩
theorem M_thinksL {r : Row} : ∀ (d k F : Nat) (m : Mm), k + d = 64 → d < F → m 92 = r → (∀ j, j < k → m 95 j = r j) → ∃ m2, f_M_thinks_L2 F (nI k) m = some (nI 64, m2) ∧ (∀ j, j < 64 → m2 95 j = r j) ∧ ∀ q, q ≠ 95 → m2 q = m q
  | 0, k, F, m, h, hF, h9, hj => by
    obtain ⟨F, rfl⟩ : ∃ f, F = f + 1 := ⟨F - 1, by omega⟩
    have : k = 64 := by omega
    subst this
    refine ⟨m, ?_, hj, fun _ _ => rfl⟩
    rw [f_M_thinks_L2, if_pos (l_le (n := 64) (by omega) (by decide))]
  | d + 1, k, F, m, h, hF, h9, hj => by
    obtain ⟨F, rfl⟩ : ∃ f, F = f + 1 := ⟨F - 1, by omega⟩
    rw [f_M_thinks_L2, if_neg (l_ge (n := 64) (by omega) (by decide)), if_pos (inb_nI (by omega) (by decide)), if_pos (inb_nI (by omega) (by decide)), ix_nI (by omega), lt_eq, nI_1]
    obtain ⟨m2, u1, u2, u3⟩ := M_thinksL (r := r) d (k + 1) F (mst m 95 k (m 92 k)) (by omega) (by omega) (by rw [mst_ck (by omega)]; exact h9) (fun j hjk => by
      by_cases e : j = k
      · subst e; rw [mst_at, h9]
      · rw [mst_i e]; exact hj j (by omega))
    exact ⟨m2, u1, u2, fun q hq => (u3 q hq).trans (mst_ck hq)⟩
theorem think_M {a c : Mm} (g : Good a) (h : CT a c) {N : Nat} (hN : 500 ≤ N) : ∃ m1, f_M_thinks N c = some m1 ∧ TH a m1 ∧ m1 92 = a 92 ∧ m1 91 4 = (-1) := by
  have e92 : c 92 = a 92 := h 92 (by unfold scrC; omega)
  have e91 : c 91 = a 91 := h 91 (by unfold scrC; omega)
  obtain ⟨m1, u1, u2, u3⟩ := M_thinksL (r := a 92) 64 0 N c (by omega) (by omega) e92 (fun j hj => absurd hj (Nat.not_lt_zero j))
  have f92 : m1 92 = a 92 := (u3 92 (by omega)).trans e92
  have f91 : m1 91 = a 91 := (u3 91 (by omega)).trans e91
  refine ⟨m1, ?_, ⟨u2, by rw [f92]; exact ⟨g.1.1.2.2.2, rfl, fun _ _ => rfl⟩, fun i _ => by rw [f91], fun k hk _ _ => (u3 k (fun e => hk (by unfold scrC; omega))).trans (h k hk)⟩, f92, by rw [f91]; exact g.1.2.2.2⟩
  unfold f_M_thinks
  rw [show f_M_thinks_L2 N 0 c = _ from u1]
  rfl
theorem run_M {a m : Mm} (g : Good a) (h : TH a m) {n N : Nat} (hn : n ≤ 400) (hN : 500 ≤ N) : ∃ m2, f_M_goesOn N (nI n) m = some (nI (aWs (tvOf (a 92)) (m 91 4) (m 92) n), m2) ∧ m2 92 = aHours (tvOf (a 92)) (m 91 4) (m 92) n ∧ TH a m2 ∧ m2 91 4 = m 91 4 := by
  obtain ⟨h1, h2, h3, h4⟩ := h
  obtain ⟨m2, w1, w2, w3⟩ := M_goesOn (c := a) g.1.1.2.2.1 h2 hn hN rfl
  refine ⟨m2, w1, w2, ⟨fun j hj => by rw [w3 95 (by omega) (by omega) (by omega)]; exact h1 j hj, by rw [w2]; exact h2.hours _ _ _, fun i hi => by rw [w3 91 (by omega) (by omega) (by omega)]; exact h3 i hi, fun k hk k1 k2 => ?_⟩, by rw [w3 91 (by omega) (by omega) (by omega)]⟩
  rw [w3 k k2 (fun e => hk (by unfold scrC; omega)) (fun e => hk (by unfold scrC; omega))]
  exact h4 k hk k1 k2
theorem hour_M {a m : Mm} (g : Good a) (h : TH a m) {N : Nat} (hN : 500 ≤ N) : ∃ m2, f_M_hour N m = some (nI (aCount (tvOf (a 92)) (m 91 4) (m 92)), m2) ∧ m2 92 = aHour (tvOf (a 92)) (m 91 4) (m 92) ∧ TH a m2 ∧ m2 91 4 = m 91 4 := by
  obtain ⟨h1, h2, h3, h4⟩ := h
  obtain ⟨m2, w1, w2, w3⟩ := M_hour (c := a) (mem := m) (g.1.1.2.2.1.cong h2.2.1 h2.2.2 (fun _ _ _ => rfl)) h2.1 (N := N) (by omega)
  rw [h2.tv] at w1 w2
  refine ⟨m2, w1, w2, ⟨fun j hj => by rw [w3 95 (by omega) (by omega) (by omega)]; exact h1 j hj, by rw [w2]; exact h2.hour _ _, fun i hi => by rw [w3 91 (by omega) (by omega) (by omega)]; exact h3 i hi, fun k hk k1 k2 => ?_⟩, by rw [w3 91 (by omega) (by omega) (by omega)]⟩
  rw [w3 k k2 (fun e => hk (by unfold scrC; omega)) (fun e => hk (by unfold scrC; omega))]
  exact h4 k hk k1 k2
theorem M_backL {r : Row} : ∀ (d k F : Nat) (m : Mm), k + d = 64 → d < F → (∀ j, j < 64 → m 95 j = r j) → (∀ j, j < k ∨ 64 ≤ j → m 92 j = r j) → ∃ m2, f_M_putsBack_L2 F (nI k) m = some (nI 64, m2) ∧ m2 92 = r ∧ ∀ q, q ≠ 92 → m2 q = m q
  | 0, k, F, m, h, hF, h9, hj => by
    obtain ⟨F, rfl⟩ : ∃ f, F = f + 1 := ⟨F - 1, by omega⟩
    have : k = 64 := by omega
    subst this
    refine ⟨m, ?_, funext fun j => hj j (by omega), fun _ _ => rfl⟩
    rw [f_M_putsBack_L2, if_pos (l_le (n := 64) (by omega) (by decide))]
  | d + 1, k, F, m, h, hF, h9, hj => by
    obtain ⟨F, rfl⟩ : ∃ f, F = f + 1 := ⟨F - 1, by omega⟩
    rw [f_M_putsBack_L2, if_neg (l_ge (n := 64) (by omega) (by decide)), if_pos (inb_nI (by omega) (by decide)), if_pos (inb_nI (by omega) (by decide)), ix_nI (by omega), lt_eq, nI_1]
    obtain ⟨m2, u1, u2, u3⟩ := M_backL (r := r) d (k + 1) F (mst m 92 k (m 95 k)) (by omega) (by omega) (fun j hjk => by rw [mst_ck (by omega)]; exact h9 j hjk) (fun j hjk => by
      by_cases e : j = k
      · subst e; rw [mst_at]; exact h9 j (by omega)
      · rw [mst_i e]; exact hj j (by omega))
    exact ⟨m2, u1, u2, fun q hq => (u3 q hq).trans (mst_ck hq)⟩
theorem back_M {a m : Mm} (g : Good a) (h : TH a m) {N : Nat} (hN : 500 ≤ N) : ∃ m2, f_M_putsBack N m = some m2 ∧ TH a m2 ∧ m2 92 = a 92 ∧ m2 91 4 = (-1) ∧ CT a m2 := by
  obtain ⟨h1, h2, h3, h4⟩ := h
  obtain ⟨m1, u1, u2, u3⟩ := M_backL (r := a 92) 64 0 N m (by omega) (by omega) h1 (fun j hj => h2.2.2 j (by omega))
  have e9 : mst m1 91 4 (-1) 92 = a 92 := (mst_ck (by omega)).trans u2
  have e91 : mst m1 91 4 (-1) 91 = a 91 := by
    funext i
    by_cases e : i = 4
    · subst e; rw [mst_at]; exact g.1.2.2.2.symm
    · rw [mst_i e, u3 91 (by omega)]; exact h3 i e
  refine ⟨mst m1 91 4 (-1), ?_, ⟨fun j hj => ?_, by rw [e9]; exact ⟨g.1.1.2.2.2, rfl, fun _ _ => rfl⟩, fun i _ => by rw [e91], fun k hk k1 k2 => ?_⟩, e9, mst_at _ _ _ _, fun k hk => ?_⟩
  · unfold f_M_putsBack
    rw [show f_M_putsBack_L2 N 0 m = _ from u1]
    rfl
  · rw [mst_ck (by omega), u3 95 (by omega)]; exact h1 j hj
  · rw [mst_ck k1, u3 k k2]; exact h4 k hk k1 k2
  · by_cases k1 : k = 91
    · rw [k1]; exact e91
    by_cases k2 : k = 92
    · rw [k2]; exact e9
    rw [mst_ck k1, u3 k k2]; exact h4 k hk k1 k2
theorem TH.of {a b : Mm} (h : TH a b) {j : Nat} {v : Int32} (hr : RW (a 92) (upd (b 92) j v)) : TH a (mst b 92 j v) ∧ mst b 92 j v 92 = upd (b 92) j v ∧ mst b 92 j v 91 4 = b 91 4 := by
  obtain ⟨h1, h2, h3, h4⟩ := h
  refine ⟨⟨fun q hq => by rw [mst_ck (by omega)]; exact h1 q hq, by rw [mst_row]; exact hr, fun i hi => by rw [mst_ck (by omega)]; exact h3 i hi, fun k hk k1 k2 => by rw [mst_ck k2]; exact h4 k hk k1 k2⟩, mst_row _ _ _ _, by rw [mst_ck (by omega)]⟩
/-- an hour goes by; the ends grow by one at most -/
theorem aPut_25 {r : Row} {m t : Nat} {n : Int32} (ht : t < 6) : aPut r m t n 2 = r 2 ∧ aPut r m t n 5 = r 5 := by
  unfold aPut
  refine ⟨?_, ?_⟩
  · show upd (upd (upd (upd _ _ _) _ _) _ _) _ _ 2 = _
    rw [pk_un (by omega), pk_un (by omega), pk_un (by omega), pk_un (by omega)]
  · show upd (upd (upd (upd _ _ _) _ _) _ _) _ _ 5 = _
    rw [pk_un (by omega), pk_un (by omega), pk_un (by omega), pk_un (by omega)]
theorem aWork_25 {r : Row} (hI : Inv 999 r) (tv : Tv) (sk : Bool) {m : Nat} (hm : m < 10) (x : Int32) : aWork tv sk r m x 2 = r 2 ∧ aWork tv sk r m x 5 = r 5 := by
  obtain ⟨-, ⟨t, ht, et⟩⟩ := hI.2.2.2 m hm
  rw [aWork_eq tv sk r m x (t := t) (by rw [et, ix_nI (by omega)]) rfl]
  split
  · exact ⟨rfl, rfl⟩
  · split
    · exact ⟨rfl, rfl⟩
    · exact aPut_25 ht
theorem aMonks_25 {r : Row} (hI : Inv 999 r) (tv : Tv) (idle : Int32) : ∀ k, k ≤ 10 → aMonks tv idle k r 2 = r 2 ∧ aMonks tv idle k r 5 = r 5
  | 0, _ => ⟨rfl, rfl⟩
  | k + 1, hk => by
    obtain ⟨h1, h2⟩ := aMonks_25 hI tv idle k (by omega)
    obtain ⟨i1, -, -, -⟩ := aMonks_inv hI tv idle k (by omega)
    obtain ⟨q1, q2⟩ := aWork_25 (i1.free (j := 0) (Or.inl rfl) (aZ (aMonks tv idle k r))) tv (decide (nI k = idle)) (m := k) (by omega) (nI (aD (aMonks tv idle k r) % 10))
    exact ⟨q1.trans ((pk_un (by decide)).trans h1), q2.trans ((pk_un (by decide)).trans h2)⟩
theorem aBlow_25 {r : Row} {t : Nat} (ht : t < 6) : aBlow r t 2 = r 2 ∧ aBlow r t 5 = r 5 := by
  have hu : (t + 1) % 6 < 6 := Nat.mod_lt _ (by decide)
  unfold aBlow
  refine ⟨?_, ?_⟩
  · show upd (upd (upd r _ _) _ _) _ _ 2 = _
    rw [pk_un (by omega), pk_un (by omega), pk_un (by omega)]
  · show upd (upd (upd r _ _) _ _) _ _ 5 = _
    rw [pk_un (by omega), pk_un (by omega), pk_un (by omega)]
theorem aBlows_25 (r : Row) : aBlows r 2 = r 2 ∧ aBlows r 5 = r 5 := by
  unfold aBlows
  split
  · exact ⟨pk_un (by decide), pk_un (by decide)⟩
  · obtain ⟨a, b⟩ := aBlow_25 (r := upd (upd r 0 (aZ r)) 0 (aZ (upd r 0 (aZ r)))) (t := aD (upd r 0 (aZ r)) % 6) (Nat.mod_lt _ (by decide))
    exact ⟨a.trans ((pk_un (by decide)).trans (pk_un (by decide))), b.trans ((pk_un (by decide)).trans (pk_un (by decide)))⟩
theorem aHour_25 {r : Row} (hI : Inv 999 r) (tv : Tv) (idle : Int32) {h e : Nat} (h2 : r 2 = nI h) (h5 : r 5 = nI e) : ∃ e2, (e2 = e ∨ e2 = e + 1) ∧ aHour tv idle r 2 = nI (h + 1) ∧ aHour tv idle r 5 = nI e2 := by
  obtain ⟨M, hM, eM⟩ := hI.1
  have hix : ix (r 1) ≤ 10 := by rw [eM, ix_nI (by omega)]; exact hM
  obtain ⟨a1, a2⟩ := aMonks_25 hI tv idle (ix (r 1)) hix
  obtain ⟨i1, -, -, -⟩ := aMonks_inv hI tv idle (ix (r 1)) hix
  obtain ⟨b1, b2⟩ := aBlows_25 (aMonks tv idle (ix (r 1)) r)
  obtain ⟨j1, -, -, -⟩ := aBlows_inv i1
  have p2 : aPre tv idle r 2 = nI h := b1.trans (a1.trans h2)
  have p5 : aPre tv idle r 5 = nI e := b2.trans (a2.trans h5)
  have hI2 : Inv 1100 (aPre tv idle r) := j1
  have en : ∃ e2, (e2 = e ∨ e2 = e + 1) ∧ Inv 1100 (aEnd (aPre tv idle r)) ∧ aEnd (aPre tv idle r) 2 = nI h ∧ aEnd (aPre tv idle r) 5 = nI e2 := by
    unfold aEnd
    split
    · exact ⟨e + 1, Or.inr rfl, hI2.free (Or.inr (Or.inr (Or.inr (Or.inr (Or.inl rfl))))) _, (pk_un (by decide)).trans p2, by rw [pk_us, p5, nI_1]⟩
    · exact ⟨e, Or.inl rfl, hI2, p2, p5⟩
  obtain ⟨e2, k1, k2, k3, k4⟩ := en
  obtain ⟨-, -, -, w4, w5, -, -, -⟩ := aWipes_inv (by decide) k2 tv 6 (Nat.le_refl _)
  refine ⟨e2, k1, ?_, ?_⟩
  · show upd (aWipes tv 6 (aEnd (aPre tv idle r))) 2 (aWipes tv 6 (aEnd (aPre tv idle r)) 2 + 1) 2 = _
    rw [pk_us, w4, k3, nI_1]
  · show upd (aWipes tv 6 (aEnd (aPre tv idle r))) 2 (aWipes tv 6 (aEnd (aPre tv idle r)) 2 + 1) 5 = _
    rw [pk_un (by decide), w5, k4]
-- the calls
theorem ok_hours {m : Mm} (g : Good m) (a : Int32) {N : Nat} (hN : 500 ≤ N) : Ok2 (f_S_hours N a) (f_M_hours N a) m := by
  unfold Ok2 f_S_hours f_M_hours
  rcases wi_cases a (lo := 1) (hi := 100) (by decide) (by decide) with ⟨w, h1, h2, rfl, t1, t2⟩ | ⟨t1, t2⟩
  case inr => exact ⟨_, m, m, by rw [show f_S_within a 1 100 = _ from t1, bp_some, if_pos rfl], by rw [show f_M_in a 1 100 = _ from t2, bp_some, if_pos rfl], g⟩
  obtain ⟨h, e, q1, q2, q3, q4⟩ := g.1.2.1
  have eh : m 38 15 = nI h := (e_hour g.1.1.1).trans q3
  have hs : (9999 : Int32) - nI h = nI (9999 - h) := pk_sub (a := 9999) q1
  have em : (if nI (9999 - h) < nI w then nI (9999 - h) else nI w) = nI (min (9999 - h) w) := by
    by_cases q : 9999 - h < w
    · rw [if_pos (nI_lt q (by omega))]; congr 1; omega
    · rw [if_neg (nI_nlt (by omega) (by omega))]; congr 1; omega
  have ew : cl3 (nI (9999 - h)) 0 (nI w) = nI (min (9999 - h) w) := cl3_nI (lo := 0) (by omega) (by omega) (by omega)
  have hr : RW (m 92) (m 92) := ⟨g.1.1.2.2.2, rfl, fun _ _ => rfl⟩
  obtain ⟨c1, w1, w2, w3⟩ := P_hours (p := 38) (Or.inl rfl) hr (n := min (9999 - h) w) (N := N) (by omega) hN g.1.1
  rw [g.1.2.2.1] at w1 w2
  rw [show f_S_within (nI w) 1 100 = _ from t1, bp_some, if_neg nz1, eh, hs, em, w1, bd_some]
  have e92 : c1 92 = m 92 := w3.1 92 (by omega) (by omega)
  have e91 : c1 91 4 = (-1) := by rw [w3.1 91 (by omega) (by omega)]; exact g.1.2.2.2
  obtain ⟨m2, v1, v2, v3⟩ := M_goesOn (c := m) (m := c1) g.1.1.2.2.1 hr (n := min (9999 - h) w) (N := N) (by omega) hN e92
  rw [e91] at v1 v2
  refine ⟨_, c1, m2, rfl, ?_, ?_⟩
  · rw [show f_M_in (nI w) 1 100 = _ from t2, bp_some, if_neg nz1, ixc_2, e92, q3, hs, M_within, bp_some, ew, v1, bd_some]
  · have hw := hr.hours (tvOf (m 92)) (-1) (min (9999 - h) w)
    refine g.now w3 w2.1 v3 v2 hw.1 ?_ hw.2.1 hw.2.2
    have key : ∀ n, n ≤ 9999 - h → ∃ e2, e2 ≤ h + n ∧ aHours (tvOf (m 92)) (-1) (m 92) n 2 = nI (h + n) ∧ aHours (tvOf (m 92)) (-1) (m 92) n 5 = nI e2 := by
      intro n
      induction n with
      | zero => intro _; exact ⟨e, by omega, q3, q4⟩
      | succ n ih =>
        intro hn
        obtain ⟨e2, i1, i2, i3⟩ := ih (by omega)
        have hrn := hr.hours (tvOf (m 92)) (-1) n
        obtain ⟨e3, j1, j2, j3⟩ := aHour_25 hrn.1 (tvOf (m 92)) (-1) i2 i3
        exact ⟨e3, by omega, by rw [show h + (n + 1) = h + n + 1 by omega]; exact j2, j3⟩
    obtain ⟨e2, i1, i2, i3⟩ := key (min (9999 - h) w) (by omega)
    exact ⟨_, e2, by omega, i1, i2, i3⟩
