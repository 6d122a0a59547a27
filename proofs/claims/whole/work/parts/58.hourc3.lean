/-! PURE: the class's loops of an hour, the hour, hours -/
theorem aMonks_inv {r : Row} (hI : Inv 999 r) (tv : Tv) (idle : Int32) : ∀ k, k ≤ 10 → Inv 999 (aMonks tv idle k r) ∧ aMonks tv idle k r 6 = r 6 ∧ aMonks tv idle k r 1 = r 1 ∧ ∀ j, 64 ≤ j → aMonks tv idle k r j = r j
  | 0, _ => ⟨hI, rfl, rfl, fun _ _ => rfl⟩
  | k + 1, hk => by
    obtain ⟨h1, h2, h3, h4⟩ := aMonks_inv hI tv idle k (by omega)
    show Inv 999 (aWork tv _ (upd (aMonks tv idle k r) 0 _) k _) ∧ aWork tv _ (upd (aMonks tv idle k r) 0 _) k _ 6 = r 6 ∧ aWork tv _ (upd (aMonks tv idle k r) 0 _) k _ 1 = r 1 ∧ ∀ j, 64 ≤ j → aWork tv _ (upd (aMonks tv idle k r) 0 _) k _ j = r j
    obtain ⟨q1, q2, q3, q4⟩ := aWork_inv (Nat.le_refl 999) (by decide) (h1.free (j := 0) (Or.inl rfl) (aZ (aMonks tv idle k r))) tv (decide (nI k = idle)) (m := k) (X := aD (aMonks tv idle k r) % 10) (by omega) (by omega)
    refine ⟨q1, q2.trans ((pk_un (by decide)).trans h2), q3.trans ((pk_un (by decide)).trans h3), fun j hj => (q4 j hj).trans ((pk_un (by omega)).trans (h4 j hj))⟩
theorem P_monksL {p : Nat} {r : Row} (hp : isP p) (hI : Inv 999 r) {M N : Nat} (hM : M ≤ 10) (eM : r 1 = nI M) (hN : 97 ≤ N) {idle : Int32} : ∀ (d k F : Nat) (c : Mm), k + d = M → d < F → c p 18 = idle → Pc 999 p c (aMonks (tvOf r) idle k r) → ∃ c2, f_P_passHour_L2 N p F (nI k) c = some (nI M, c2) ∧ Eqv p c2 (aMonks (tvOf r) idle M r) ∧ PF p c c2
  | 0, k, F, c, h, hF, hid, hP => by
    obtain ⟨F, rfl⟩ : ∃ f, F = f + 1 := ⟨F - 1, by omega⟩
    have : k = M := by omega
    subst this
    obtain ⟨-, -, q3, -⟩ := aMonks_inv hI (tvOf r) idle k hM
    refine ⟨c, ?_, hP.1, PF.rf⟩
    rw [f_P_passHour_L2, e_monks hP.1, q3, eM, if_pos (nI_le (Nat.le_refl _) (by omega))]
  | d + 1, k, F, c, h, hF, hid, hP => by
    obtain ⟨F, rfl⟩ : ∃ f, F = f + 1 := ⟨F - 1, by omega⟩
    obtain ⟨-, q2, q3, q4⟩ := aMonks_inv hI (tvOf r) idle k (by omega)
    obtain ⟨r1, r2, -, r4⟩ := aMonks_inv hI (tvOf r) idle (k + 1) (by omega)
    rw [f_P_passHour_L2, e_monks hP.1, q3, eM, if_neg (nI_ge (by omega) (by omega))]
    obtain ⟨c1, w1, w2, w3⟩ := P_work (Nat.le_refl 999) (by decide) hp hP (m := k) (by omega) hN
    rw [tv_cong q2 q4, hid] at w2
    have hP1 : Pc 999 p c1 (aMonks (tvOf r) idle (k + 1) r) := hP.nx hp w2 w3 r1 (r2.trans q2.symm) (fun j hj => (r4 j hj).trans (q4 j hj).symm)
    rw [w1, bp_some, nI_1]
    obtain ⟨c2, u1, u2, u3⟩ := P_monksL hp hI hM eM hN d (k + 1) F c1 (by omega) (by omega) (w3.2.trans hid) hP1
    exact ⟨c2, u1, u2, w3.tr u3⟩
/-- the wiping, row by row -/
theorem aWipes_inv {B : Nat} (hB2 : B < 2000) {r : Row} (hI : Inv B r) (tv : Tv) : ∀ k, k ≤ 6 → Inv B (aWipes tv k r) ∧ aWipes tv k r 6 = r 6 ∧ aWipes tv k r 1 = r 1 ∧ aWipes tv k r 2 = r 2 ∧ aWipes tv k r 5 = r 5 ∧ (∀ j, 64 ≤ j → aWipes tv k r j = r j) ∧ (∀ u, u < 6 → aWipes tv k r (10 + 4 * u) = r (10 + 4 * u)) ∧ ∀ u, u < 6 → aWipes tv k r (11 + 4 * u) = if u < k ∧ aDone r u = true then 0 else r (11 + 4 * u)
  | 0, _ => ⟨hI, rfl, rfl, rfl, rfl, fun _ _ => rfl, fun _ _ => rfl, fun u _ => by rw [if_neg (fun q => Nat.not_lt_zero u q.1)]; rfl⟩
  | k + 1, hk => by
    obtain ⟨h1, h2, h3, h4, h5, h6, h7, h8⟩ := aWipes_inv hB2 hI tv k (by omega)
    have hd : aDone (aWipes tv k r) k = aDone r k := by
      unfold aDone
      rw [h7 k (by omega), h8 k (by omega), if_neg (fun q => Nat.lt_irrefl k q.1)]
    by_cases e : aDone r k = true
    · have ew : aWipes tv (k + 1) r = aWipe tv (aWipes tv k r) k := by
        show (if aDone (aWipes tv k r) k = true then _ else _) = _
        rw [hd, if_pos e]
      obtain ⟨w1, w2, w3, w4, w5, w6, w7, w8, w9⟩ := aWipe_inv hB2 h1 tv (t := k) (by omega)
      rw [ew]
      refine ⟨w1, w5.trans h2, w6.trans h3, w7.trans h4, w8.trans h5, fun j hj => (w9 j hj).trans (h6 j hj), fun u hu => (w2 u hu).trans (h7 u hu), fun u hu => ?_⟩
      by_cases eu : u = k
      · subst eu; rw [w4, if_pos ⟨by omega, e⟩]
      · rw [w3 u hu eu, h8 u hu]
        by_cases q : u < k ∧ aDone r u = true
        · rw [if_pos q, if_pos ⟨by omega, q.2⟩]
        · rw [if_neg q, if_neg (fun q2 => q ⟨by omega, q2.2⟩)]
    · have ew : aWipes tv (k + 1) r = aWipes tv k r := by
        show (if aDone (aWipes tv k r) k = true then _ else _) = _
        rw [hd, if_neg e]
      rw [ew]
      refine ⟨h1, h2, h3, h4, h5, h6, h7, fun u hu => ?_⟩
      rw [h8 u hu]
      by_cases q : u < k ∧ aDone r u = true
      · rw [if_pos q, if_pos ⟨by omega, q.2⟩]
      · rw [if_neg q, if_neg (fun q2 => by
          rcases Nat.lt_or_ge u k with g | g
          · exact q ⟨g, q2.2⟩
          · exact e (by rw [show k = u by omega]; exact q2.2))]
theorem aWipes_dn {B : Nat} (hB2 : B < 2000) {r : Row} (hI : Inv B r) (tv : Tv) {k : Nat} (hk : k < 6) : aDone (aWipes tv k r) k = aDone r k := by
  obtain ⟨h1, h2, h3, h4, h5, h6, h7, h8⟩ := aWipes_inv hB2 hI tv k (by omega)
  unfold aDone
  rw [h7 k (by omega), h8 k (by omega), if_neg (fun q => Nat.lt_irrefl k q.1)]
theorem aWipes_rest {B : Nat} (hB2 : B < 2000) {r : Row} (hI : Inv B r) (tv : Tv) : Inv 999 (aWipes tv 6 r) := by
  obtain ⟨h1, h2, h3, h4, h5, h6, h7, h8⟩ := aWipes_inv hB2 hI tv 6 (by omega)
  refine ⟨h1.1, h1.2.1, fun t ht => ⟨(h1.2.2.1 t ht).1, ?_⟩, h1.2.2.2⟩
  rw [h8 t ht]
  by_cases e : aDone r t = true
  · rw [if_pos ⟨ht, e⟩]; exact ⟨0, by omega, rfl⟩
  · rw [if_neg (fun q => e q.2)]
    obtain ⟨⟨nd, a1, a2, a3⟩, ⟨dn, b1, b2⟩⟩ := hI.2.2.1 t ht
    refine ⟨dn, ?_, b2⟩
    unfold aDone at e
    rw [a3, b2, decide_eq_true_eq, nI_leI (by omega) (by omega)] at e
    omega
theorem P_wipesL {B p : Nat} (hB2 : B < 2000) {r : Row} (hp : isP p) (hI : Inv B r) {N : Nat} (hN : 97 ≤ N) : ∀ (d t F : Nat) (c : Mm), t + d = 6 → d < F → Pc B p c (aWipes (tvOf r) t r) → ∃ c2, f_P_passHour_L67 N p F (nI (aCnt r t)) (nI t) c = some ((nI (aCnt r 6), nI 6), c2) ∧ Eqv p c2 (aWipes (tvOf r) 6 r) ∧ PF p c c2
  | 0, t, F, c, h, hF, hP => by
    obtain ⟨F, rfl⟩ : ∃ f, F = f + 1 := ⟨F - 1, by omega⟩
    have : t = 6 := by omega
    subst this
    refine ⟨c, ?_, hP.1, PF.rf⟩
    rw [f_P_passHour_L67, if_pos (l_le (n := 6) (by omega) (by decide))]
  | d + 1, t, F, c, h, hF, hP => by
    obtain ⟨F, rfl⟩ : ∃ f, F = f + 1 := ⟨F - 1, by omega⟩
    have ht : t < 6 := by omega
    obtain ⟨-, q2, -, -, -, q4, -, -⟩ := aWipes_inv hB2 hI (tvOf r) t (by omega)
    obtain ⟨r1, r2, -, -, -, r4, -, -⟩ := aWipes_inv hB2 hI (tvOf r) (t + 1) (by omega)
    have hd := aWipes_dn hB2 hI (tvOf r) ht
    rw [f_P_passHour_L67, if_neg (l_ge (n := 6) ht (by decide)), if_pos (inb_nI ht (by decide)), ix_nI (by omega), e_need hP.1 ht, e_done hP.1 ht, nI_1 t]
    have ew : aWipes (tvOf r) (t + 1) r = if aDone (aWipes (tvOf r) t r) t = true then aWipe (tvOf r) (aWipes (tvOf r) t r) t else aWipes (tvOf r) t r := rfl
    have ec : aCnt r (t + 1) = aCnt r t + if aDone r t = true then 1 else 0 := rfl
    by_cases e : aDone r t = true
    · have e2 : aDone (aWipes (tvOf r) t r) t = true := hd.trans e
      rw [if_pos e2] at ew
      rw [if_pos e] at ec
      have hlt : ¬ aWipes (tvOf r) t r (11 + 4 * t) < aWipes (tvOf r) t r (10 + 4 * t) := fun q => by
        have a1 := lt_ti.mp q
        have a2 := le_ti.mp (of_decide_eq_true e2)
        omega
      obtain ⟨c1, w1, w2, w3⟩ := P_wipe hB2 hp hP ht hN
      rw [tv_cong q2 q4, ← ew] at w2
      have hP1 : Pc B p c1 (aWipes (tvOf r) (t + 1) r) := hP.nx hp w2 w3 r1 (r2.trans q2.symm) (fun j hj => (r4 j hj).trans (q4 j hj).symm)
      rw [if_neg hlt, w1, bp_some, nI_1, ← ec]
      obtain ⟨c2, u1, u2, u3⟩ := P_wipesL hB2 hp hI hN d (t + 1) F c1 (by omega) (by omega) hP1
      exact ⟨c2, u1, u2, w3.tr u3⟩
    · have e2 : ¬ aDone (aWipes (tvOf r) t r) t = true := fun q => e (hd.symm.trans q)
      rw [if_neg e2] at ew
      rw [if_neg e] at ec
      have hlt : aWipes (tvOf r) t r (11 + 4 * t) < aWipes (tvOf r) t r (10 + 4 * t) := lt_ti.mpr (by
        have a2 : ¬ _ := fun q => e2 (decide_eq_true (le_ti.mpr q))
        omega)
      rw [if_pos hlt]
      have ec2 : aCnt r (t + 1) = aCnt r t := ec
      rw [← ec2]
      exact P_wipesL hB2 hp hI hN d (t + 1) F c (by omega) (by omega) (by rw [ew]; exact hP)
theorem P_tail {p : Nat} {c : Mm} {r : Row} (hp : isP p) (h : Pc 1100 p c r) {N : Nat} (hN : 97 ≤ N) : ∃ c2, (bp (f_P_allAreDone N p c) fun r_47 => if r_47 = 0 then bd (f_P_passHour_L67 N p N 0 0 c) fun y_67 m_67 => lt (mst m_67 p 15 ((m_67 p 15) + 1)) fun m_109 => some (y_67.1, m_109) else lt (mst c p 16 ((c p 16) + 1)) fun m_60 => bd (f_P_passHour_L67 N p N 0 0 m_60) fun y_67 m_67 => lt (mst m_67 p 15 ((m_67 p 15) + 1)) fun m_109 => some (y_67.1, m_109)) = some (nI (aCnt r 6), c2) ∧ Eqv p c2 (upd (aWipes (tvOf r) 6 (aEnd r)) 2 (aWipes (tvOf r) 6 (aEnd r) 2 + 1)) ∧ PF p c c2 := by
  have hg := hp.g
  rw [P_all h.1 hN, bp_some]
  by_cases e : aCnt r 6 = 6
  · have hI1 : Inv 1100 (aEnd r) := by unfold aEnd; rw [if_pos e]; exact h.2.2.2.free (Or.inr (Or.inr (Or.inr (Or.inr (Or.inl rfl))))) _
    have ee : aEnd r = upd r 5 (r 5 + 1) := by unfold aEnd; rw [if_pos e]
    have hE1 : Eqv p (mst c p 16 (r 5 + 1)) (aEnd r) := by rw [ee]; exact u_ends h.1 _
    have hF1 : PF p c (mst c p 16 (r 5 + 1)) := PF.rf.put p 16 _ ⟨by omega, by omega, by omega⟩ (Or.inr (by decide))
    have h6 : aEnd r 6 = r 6 := by rw [ee]; exact pk_un (by decide)
    have hh : ∀ j, 64 ≤ j → aEnd r j = r j := fun j hj => by rw [ee]; exact pk_un (by omega)
    have hP1 : Pc 1100 p (mst c p 16 (r 5 + 1)) (aEnd r) := h.nx hp hE1 hF1 hI1 h6 hh
    have hc : aCnt (aEnd r) 6 = aCnt r 6 := by
      have q : ∀ n, n ≤ 6 → aCnt (aEnd r) n = aCnt r n := by
        intro n
        induction n with
        | zero => intro _; rfl
        | succ n ih =>
          intro hn
          have : aDone (aEnd r) n = aDone r n := by unfold aDone; rw [ee, pk_un (by omega), pk_un (by omega)]
          unfold aCnt
          rw [ih (by omega), this]
      exact q 6 (by omega)
    rw [if_pos e, if_neg (by decide), e_ends h.1, lt_eq]
    obtain ⟨c1, w1, w2, w3⟩ := P_wipesL (by decide) hp hI1 hN 6 0 N _ (by omega) (by omega) hP1
    rw [show f_P_passHour_L67 N p N 0 0 (mst c p 16 (r 5 + 1)) = _ from w1, bd_some, hc, lt_eq, e_hour w2, tv_cong h6 hh]
    rw [tv_cong h6 hh] at w2
    refine ⟨_, rfl, u_hour w2 _, (hF1.tr w3).put p 15 _ ⟨by omega, by omega, by omega⟩ (Or.inr (by decide))⟩
  · have ee : aEnd r = r := by unfold aEnd; rw [if_neg e]
    rw [if_neg e, if_pos rfl, ee]
    obtain ⟨c1, w1, w2, w3⟩ := P_wipesL (by decide) hp h.2.2.2 hN 6 0 N _ (by omega) (by omega) h
    rw [show f_P_passHour_L67 N p N 0 0 c = _ from w1, bd_some, lt_eq, e_hour w2]
    exact ⟨_, rfl, u_hour w2 _, w3.put p 15 _ ⟨by omega, by omega, by omega⟩ (Or.inr (by decide))⟩
theorem aBlows_inv {r : Row} (hI : Inv 999 r) : Inv 1100 (aBlows r) ∧ aBlows r 6 = r 6 ∧ aBlows r 1 = r 1 ∧ ∀ j, 64 ≤ j → aBlows r j = r j := by
  unfold aBlows
  by_cases e : r 3 ≤ nI (aD r % 100)
  · rw [if_pos e]
    exact ⟨(hI.free (Or.inl rfl) _).up (by decide), pk_un (by decide), pk_un (by decide), fun j hj => pk_un (by omega)⟩
  · rw [if_neg e]
    obtain ⟨q1, q2, q3, q4⟩ := aBlow_inv ((hI.free (j := 0) (Or.inl rfl) (aZ r)).free (j := 0) (Or.inl rfl) (aZ (upd r 0 (aZ r)))) (t := aD (upd r 0 (aZ r)) % 6) (Nat.mod_lt _ (by decide))
    exact ⟨q1, q2.trans ((pk_un (by decide)).trans (pk_un (by decide))), q3.trans ((pk_un (by decide)).trans (pk_un (by decide))), fun j hj => (q4 j hj).trans ((pk_un (by omega)).trans (pk_un (by omega)))⟩
/-- what an hour leaves of a row -/
theorem aHour_inv {r : Row} (hI : Inv 999 r) (tv : Tv) (idle : Int32) : Inv 999 (aHour tv idle r) ∧ aHour tv idle r 6 = r 6 ∧ aHour tv idle r 1 = r 1 ∧ ∀ j, 64 ≤ j → aHour tv idle r j = r j := by
  obtain ⟨M, hM, eM⟩ := hI.1
  obtain ⟨a1, a2, a3, a4⟩ := aMonks_inv hI tv idle (ix (r 1)) (by rw [eM, ix_nI (by omega)]; exact hM)
  obtain ⟨b1, b2, b3, b4⟩ := aBlows_inv a1
  have ee : Inv 1100 (aEnd (aPre tv idle r)) ∧ aEnd (aPre tv idle r) 6 = r 6 ∧ aEnd (aPre tv idle r) 1 = r 1 ∧ ∀ j, 64 ≤ j → aEnd (aPre tv idle r) j = r j := by
    unfold aEnd
    split
    · exact ⟨b1.free (Or.inr (Or.inr (Or.inr (Or.inr (Or.inl rfl))))) _, (pk_un (by decide)).trans (b2.trans a2), (pk_un (by decide)).trans (b3.trans a3), fun j hj => (pk_un (by omega)).trans ((b4 j hj).trans (a4 j hj))⟩
    · exact ⟨b1, b2.trans a2, b3.trans a3, fun j hj => (b4 j hj).trans (a4 j hj)⟩
  obtain ⟨e1, e2, e3, e4⟩ := ee
  obtain ⟨-, w2, w3, -, -, w6, -, -⟩ := aWipes_inv (by decide) e1 tv 6 (Nat.le_refl _)
  have w1 := aWipes_rest (by decide) e1 tv
  show Inv 999 (upd (aWipes tv 6 (aEnd (aPre tv idle r))) 2 _) ∧ upd (aWipes tv 6 (aEnd (aPre tv idle r))) 2 _ 6 = r 6 ∧ upd (aWipes tv 6 (aEnd (aPre tv idle r))) 2 _ 1 = r 1 ∧ ∀ j, 64 ≤ j → upd (aWipes tv 6 (aEnd (aPre tv idle r))) 2 _ j = r j
  exact ⟨w1.free (Or.inr (Or.inl rfl)) _, (pk_un (by decide)).trans (w2.trans e2), (pk_un (by decide)).trans (w3.trans e3), fun j hj => (pk_un (by omega)).trans ((w6 j hj).trans (e4 j hj))⟩
theorem P_hour {p : Nat} {c : Mm} {r : Row} (hp : isP p) (h : Pc 999 p c r) {N : Nat} (hN : 97 ≤ N) : ∃ c2, f_P_passHour N p c = some (nI (aCount (tvOf r) (c p 18) r), c2) ∧ Pc 999 p c2 (aHour (tvOf r) (c p 18) r) ∧ PF p c c2 := by
  have hg := hp.g
  obtain ⟨M, hM, eM⟩ := h.2.2.2.1
  have eix : ix (r 1) = M := by rw [eM, ix_nI (by omega)]
  obtain ⟨c1, w1, w2, w3⟩ := P_monksL hp h.2.2.2 hM eM hN (idle := c p 18) M 0 N c (by omega) (by omega) rfl h
  obtain ⟨a1, a2, a3, a4⟩ := aMonks_inv h.2.2.2 (tvOf r) (c p 18) M hM
  obtain ⟨b1, b2, b3, b4⟩ := aBlows_inv a1
  obtain ⟨z1, z2, z3, z4⟩ := aHour_inv h.2.2.2 (tvOf r) (c p 18)
  unfold f_P_passHour
  rw [show f_P_passHour_L2 N p N 0 c = _ from w1, bd_some, P_draw w2, bd_some]
  have eH : aHour (tvOf r) (c p 18) r = upd (aWipes (tvOf r) 6 (aEnd (aBlows (aMonks (tvOf r) (c p 18) M r)))) 2 (aWipes (tvOf r) 6 (aEnd (aBlows (aMonks (tvOf r) (c p 18) M r))) 2 + 1) := by
    have ep : aPre (tvOf r) (c p 18) r = aBlows (aMonks (tvOf r) (c p 18) M r) := by unfold aPre; rw [eix]
    show upd (aWipes (tvOf r) 6 (aEnd (aPre (tvOf r) (c p 18) r))) 2 (aWipes (tvOf r) 6 (aEnd (aPre (tvOf r) (c p 18) r)) 2 + 1) = _
    rw [ep]
  have eC : aCount (tvOf r) (c p 18) r = aCnt (aBlows (aMonks (tvOf r) (c p 18) M r)) 6 := by
    show aCnt (aBlows (aMonks (tvOf r) (c p 18) (ix (r 1)) r)) 6 = _
    rw [eix]
  rw [eC]
  have hd := aD_lt (aMonks (tvOf r) (c p 18) M r)
  have hE1 := u_z w2 (aZ (aMonks (tvOf r) (c p 18) M r))
  have hF1 := w3.put p 17 (aZ (aMonks (tvOf r) (c p 18) M r)) ⟨by omega, by omega, by omega⟩ (Or.inr (by decide))
  rw [rem_nI (d := 100) (by omega) (by decide) (by decide), e_wind hE1, pk_un (j := 3) (by decide)]
  have fin : ∀ c3 : Mm, Eqv p c3 (aBlows (aMonks (tvOf r) (c p 18) M r)) → PF p c c3 → ∃ c2, (bp (f_P_allAreDone N p c3) fun r_47 => if r_47 = 0 then bd (f_P_passHour_L67 N p N 0 0 c3) fun y_67 m_67 => lt (mst m_67 p 15 ((m_67 p 15) + 1)) fun m_109 => some (y_67.1, m_109) else lt (mst c3 p 16 ((c3 p 16) + 1)) fun m_60 => bd (f_P_passHour_L67 N p N 0 0 m_60) fun y_67 m_67 => lt (mst m_67 p 15 ((m_67 p 15) + 1)) fun m_109 => some (y_67.1, m_109)) = some (nI (aCnt (aBlows (aMonks (tvOf r) (c p 18) M r)) 6), c2) ∧ Pc 999 p c2 (aHour (tvOf r) (c p 18) r) ∧ PF p c c2 := by
    intro c3 hE3 hF3
    have hP3 : Pc 1100 p c3 (aBlows (aMonks (tvOf r) (c p 18) M r)) := h.nx hp hE3 hF3 b1 (b2.trans a2) (fun j hj => (b4 j hj).trans (a4 j hj))
    obtain ⟨c4, v1, v2, v3⟩ := P_tail hp hP3 hN
    rw [tv_cong (b2.trans a2) (fun j hj => (b4 j hj).trans (a4 j hj)), ← eH] at v2
    exact ⟨c4, v1, h.nx hp v2 (hF3.tr v3) z1 z2 z4, hF3.tr v3⟩
  by_cases e : aMonks (tvOf r) (c p 18) M r 3 ≤ nI (aD (aMonks (tvOf r) (c p 18) M r) % 100)
  · have eb : aBlows (aMonks (tvOf r) (c p 18) M r) = upd (aMonks (tvOf r) (c p 18) M r) 0 (aZ (aMonks (tvOf r) (c p 18) M r)) := by unfold aBlows; rw [if_pos e]
    rw [if_pos e]
    exact fin _ (by rw [eb]; exact hE1) hF1
  · have eb : aBlows (aMonks (tvOf r) (c p 18) M r) = aBlow (upd (upd (aMonks (tvOf r) (c p 18) M r) 0 (aZ (aMonks (tvOf r) (c p 18) M r))) 0 (aZ (upd (aMonks (tvOf r) (c p 18) M r) 0 (aZ (aMonks (tvOf r) (c p 18) M r))))) (aD (upd (aMonks (tvOf r) (c p 18) M r) 0 (aZ (aMonks (tvOf r) (c p 18) M r))) % 6) := by unfold aBlows; rw [if_neg e]
    have hd2 := aD_lt (upd (aMonks (tvOf r) (c p 18) M r) 0 (aZ (aMonks (tvOf r) (c p 18) M r)))
    rw [if_neg e, P_draw hE1, bd_some, rem_nI (d := 6) (by omega) (by decide) (by decide)]
    have hE2 := u_z hE1 (aZ (upd (aMonks (tvOf r) (c p 18) M r) 0 (aZ (aMonks (tvOf r) (c p 18) M r))))
    have hF2 := hF1.put p 17 (aZ (upd (aMonks (tvOf r) (c p 18) M r) 0 (aZ (aMonks (tvOf r) (c p 18) M r)))) ⟨by omega, by omega, by omega⟩ (Or.inr (by decide))
    obtain ⟨c3, v1, v2, v3⟩ := P_blow hp hE2 (t := aD (upd (aMonks (tvOf r) (c p 18) M r) 0 (aZ (aMonks (tvOf r) (c p 18) M r))) % 6) (Nat.mod_lt _ (by decide))
    rw [v1, bp_some]
    exact fin c3 (by rw [eb]; exact v2) (hF2.tr v3)
