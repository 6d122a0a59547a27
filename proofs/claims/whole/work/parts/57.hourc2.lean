/-! PURE: the class's draughts, wiping, and hour -/
theorem aBlow_inv {r : Row} (hI : Inv 999 r) {t : Nat} (ht : t < 6) : Inv 1100 (aBlow r t) ∧ aBlow r t 6 = r 6 ∧ aBlow r t 1 = r 1 ∧ ∀ j, 64 ≤ j → aBlow r t j = r j := by
  obtain ⟨-, ⟨dn, hdn, edn⟩⟩ := hI.2.2.1 t ht
  have hu : (t + 1) % 6 < 6 := Nat.mod_lt _ (by decide)
  have hne : (t + 1) % 6 ≠ t := by omega
  obtain ⟨-, ⟨du, hdu, edu⟩⟩ := hI.2.2.1 _ hu
  unfold aBlow
  generalize (t + 1) % 6 = u at *
  refine ⟨?_, ?_, ?_, ?_⟩
  · show Inv 1100 (upd (upd (upd r _ _) _ _) _ _)
    rw [edn, d10 (by omega), pk_sub (by omega), pk_un (f := r) (j := 11 + 4 * u) (by omega), edu, nI_add]
    exact (((hI.up (by decide)).done ht (by omega)).done hu (by omega)).free (Or.inr (Or.inr (Or.inr (Or.inr (Or.inr (Or.inl ⟨u, hu, Or.inl rfl⟩)))))) _
  · show upd (upd (upd r _ _) _ _) _ _ 6 = _
    rw [pk_un (by omega), pk_un (by omega), pk_un (by omega)]
  · show upd (upd (upd r _ _) _ _) _ _ 1 = _
    rw [pk_un (by omega), pk_un (by omega), pk_un (by omega)]
  · intro j hj
    show upd (upd (upd r _ _) _ _) _ _ j = _
    rw [pk_un (by omega), pk_un (by omega), pk_un (by omega)]
theorem P_blow {p : Nat} {c : Mm} {r : Row} (hp : isP p) (hE : Eqv p c r) {t : Nat} (ht : t < 6) : ∃ c2, f_P_blowFrom p (nI t) c = some c2 ∧ Eqv p c2 (aBlow r t) ∧ PF p c c2 := by
  have hg := hp.g
  have hu : (t + 1) % 6 < 6 := Nat.mod_lt _ (by decide)
  unfold f_P_blowFrom
  rw [nI_1, rem_nI (d := 6) (by omega) (by decide) (by decide), lt_eq, if_pos (inb_nI ht (by decide)), ix_nI (by omega), lt_eq, e_done hE ht, lt_eq, if_pos (inb_nI hu (by decide)), ix_nI (by omega)]
  have hE1 := u_done hE ht (r (11 + 4 * t) - r (11 + 4 * t) / 10)
  have hF1 := (PF.rf (p := p) (c := c)).put (p + 6) t (r (11 + 4 * t) - r (11 + 4 * t) / 10) ⟨by omega, by omega, by omega⟩ (Or.inl (by omega))
  generalize mst c (p + 6) t _ = c1 at *
  rw [lt_eq, e_done hE1 hu]
  have hE2 := u_done hE1 hu (upd r (11 + 4 * t) (r (11 + 4 * t) - r (11 + 4 * t) / 10) (11 + 4 * ((t + 1) % 6)) + r (11 + 4 * t) / 10)
  have hF2 := hF1.put (p + 6) ((t + 1) % 6) (upd r (11 + 4 * t) (r (11 + 4 * t) - r (11 + 4 * t) / 10) (11 + 4 * ((t + 1) % 6)) + r (11 + 4 * t) / 10) ⟨by omega, by omega, by omega⟩ (Or.inl (by omega))
  generalize mst c1 (p + 6) ((t + 1) % 6) _ = c2 at *
  rw [lt_eq, e_faults hE2 hu]
  refine ⟨_, rfl, ?_, hF2.put (p + 7) _ _ ⟨by omega, by omega, by omega⟩ (Or.inl (by omega))⟩
  exact u_faults hE2 hu _
theorem aCnt_le (r : Row) : ∀ n, aCnt r n ≤ n
  | 0 => Nat.le_refl _
  | n + 1 => by
    have := aCnt_le r n
    unfold aCnt
    split <;> omega
theorem aCnt_all (r : Row) : ∀ n, aCnt r n = n ↔ ∀ t, t < n → aDone r t = true
  | 0 => ⟨fun _ t h => absurd h (Nat.not_lt_zero t), fun _ => rfl⟩
  | n + 1 => by
    have h1 := aCnt_le r n
    have ih := aCnt_all r n
    unfold aCnt
    constructor
    · intro h t ht
      by_cases e : aDone r n = true
      · rw [if_pos e] at h
        rcases Nat.lt_or_ge t n with q | q
        · exact ih.mp (by omega) t q
        · rw [show t = n by omega]; exact e
      · rw [if_neg e] at h; omega
    · intro h
      rw [if_pos (h n (by omega)), ih.mpr (fun t ht => h t (by omega))]
theorem P_allL {p : Nat} {c : Mm} {r : Row} (hE : Eqv p c r) : ∀ (d t F : Nat), t + d = 6 → d < F → (∀ u, u < t → aDone r u = true) → f_P_allAreDone_L2 p F (nI t) c = some (if aCnt r 6 = 6 then (1 : Int32) else 0)
  | 0, t, F, h, hF, ha => by
    obtain ⟨F, rfl⟩ : ∃ f, F = f + 1 := ⟨F - 1, by omega⟩
    have : t = 6 := by omega
    subst this
    rw [f_P_allAreDone_L2, if_pos (l_le (n := 6) (by omega) (by decide)), if_pos ((aCnt_all r 6).mpr ha)]
  | d + 1, t, F, h, hF, ha => by
    obtain ⟨F, rfl⟩ : ∃ f, F = f + 1 := ⟨F - 1, by omega⟩
    have ht : t < 6 := by omega
    rw [f_P_allAreDone_L2, if_neg (l_ge (n := 6) ht (by decide)), if_pos (inb_nI ht (by decide)), ix_nI (by omega), e_need hE ht, e_done hE ht, nI_1]
    by_cases e : r (10 + 4 * t) ≤ r (11 + 4 * t)
    · rw [if_pos e]
      refine P_allL hE d (t + 1) F (by omega) (by omega) (fun u hu => ?_)
      rcases Nat.lt_or_ge u t with q | q
      · exact ha u q
      · rw [show u = t by omega]; exact decide_eq_true e
    · rw [if_neg e, if_neg (fun q => e (of_decide_eq_true ((aCnt_all r 6).mp q t ht)))]
theorem P_all {p : Nat} {c : Mm} {r : Row} (hE : Eqv p c r) {N : Nat} (hN : 97 ≤ N) : f_P_allAreDone N p c = some (if aCnt r 6 = 6 then (1 : Int32) else 0) := P_allL hE 6 0 N (by omega) (by omega) (fun u hu => absurd hu (Nat.not_lt_zero u))
theorem min_flip (a b : Int32) : (if a < b then a else b) = if b ≤ a then b else a := by
  by_cases h : a < b
  · have h1 := lt_ti.mp h
    rw [if_pos h, if_neg (fun q => by have := le_ti.mp q; omega)]
  · rw [if_neg h, if_pos (le_ti.mpr (by rw [lt_ti] at h; omega))]
theorem aBk_nat {B : Nat} {r : Row} (tv : Tv) {t dn : Nat} (hdn : dn < 2 ^ 31) (e : r (11 + 4 * t) = nI dn) : ∃ b, b ≤ dn ∧ aBk tv r t = nI b := by
  unfold aBk
  cases tv 1 (r (11 + 4 * t)) (r (12 + 4 * t)) (r (13 + 4 * t)) with
  | none => exact ⟨dn, Nat.le_refl _, e⟩
  | some v =>
    show ∃ b, b ≤ dn ∧ cl3 v 0 (r (11 + 4 * t)) = nI b
    rw [e]
    exact cl3_nat v hdn
theorem aCm_nat {r : Row} (tv : Tv) {t dn S : Nat} (hdn : dn < 2000) (e : r (11 + 4 * t) = nI dn) (hS : S ≤ 99999) (eS : r (7 + t % 3) = nI S) : ∃ C, C ≤ dn ∧ S + C ≤ 99999 ∧ aCm tv r t = nI C := by
  obtain ⟨b, hb, eb⟩ := aBk_nat (B := 0) tv (by omega) e
  unfold aCm
  have hs : (99999 : Int32) - nI S = nI (99999 - S) := pk_sub (a := 99999) hS
  rw [eb, eS, hs]
  by_cases h : b ≤ 99999 - S
  · rw [if_pos (nI_le h (by omega))]; exact ⟨b, hb, by omega, rfl⟩
  · rw [if_neg (nI_ge (by omega) (by omega))]; exact ⟨99999 - S, by omega, by omega, rfl⟩
theorem aWipe_inv {B : Nat} (hB2 : B < 2000) {r : Row} (hI : Inv B r) (tv : Tv) {t : Nat} (ht : t < 6) : Inv B (aWipe tv r t) ∧ (∀ u, u < 6 → aWipe tv r t (10 + 4 * u) = r (10 + 4 * u)) ∧ (∀ u, u < 6 → u ≠ t → aWipe tv r t (11 + 4 * u) = r (11 + 4 * u)) ∧ aWipe tv r t (11 + 4 * t) = 0 ∧ aWipe tv r t 6 = r 6 ∧ aWipe tv r t 1 = r 1 ∧ aWipe tv r t 2 = r 2 ∧ aWipe tv r t 5 = r 5 ∧ ∀ j, 64 ≤ j → aWipe tv r t j = r j := by
  obtain ⟨-, ⟨dn, hdn, edn⟩⟩ := hI.2.2.1 t ht
  obtain ⟨S, hS, eS⟩ := hI.2.1 (t % 3) (Nat.mod_lt _ (by decide))
  obtain ⟨C, hC, hC2, eC⟩ := aCm_nat tv (by omega) edn hS eS
  have hu : ∀ j, j ≠ 7 + t % 3 → j ≠ 4 → j ≠ 11 + 4 * t → j ≠ 12 + 4 * t → j ≠ 13 + 4 * t → aWipe tv r t j = r j := by
    intro j h1 h2 h3 h4 h5
    show upd (upd (upd (upd (upd r _ _) _ _) _ _) _ _) _ _ j = _
    rw [pk_un h5, pk_un h4, pk_un h3, pk_un h2, pk_un h1]
  refine ⟨?_, fun u h => hu _ (by omega) (by omega) (by omega) (by omega) (by omega), fun u h1 h2 => hu _ (by omega) (by omega) (by omega) (by omega) (by omega), ?_, hu _ (by omega) (by omega) (by omega) (by omega) (by omega), hu _ (by omega) (by omega) (by omega) (by omega) (by omega), hu _ (by omega) (by omega) (by omega) (by omega) (by omega), hu _ (by omega) (by omega) (by omega) (by omega) (by omega), fun j h => hu _ (by omega) (by omega) (by omega) (by omega) (by omega)⟩
  · show Inv B (upd (upd (upd (upd (upd r _ _) _ _) _ _) _ _) _ _)
    rw [eC, eS, nI_add]
    exact ((((hI.sand (Nat.mod_lt _ (by decide)) (by omega)).free (Or.inr (Or.inr (Or.inr (Or.inl rfl)))) _).done (s := 0) ht (by omega)).free (Or.inr (Or.inr (Or.inr (Or.inr (Or.inr (Or.inl ⟨t, ht, Or.inl rfl⟩)))))) _).free (Or.inr (Or.inr (Or.inr (Or.inr (Or.inr (Or.inl ⟨t, ht, Or.inr rfl⟩)))))) _
  · show upd (upd (upd (upd (upd r _ _) _ _) _ _) _ _) _ _ (11 + 4 * t) = _
    rw [pk_un (by omega), pk_un (by omega), pk_us]
theorem P_wipe {B p : Nat} (hB2 : B < 2000) {c : Mm} {r : Row} (hp : isP p) (h : Pc B p c r) {t : Nat} (ht : t < 6) {N : Nat} (hN : 97 ≤ N) : ∃ c2, f_P_wipe N p (nI t) c = some c2 ∧ Eqv p c2 (aWipe (tvOf r) r t) ∧ PF p c c2 := by
  have hg := hp.g
  obtain ⟨hE, hl, hT, hI⟩ := h
  obtain ⟨-, ⟨dn, hdn, edn⟩⟩ := hI.2.2.1 t ht
  have ht3 : t % 3 < 3 := Nat.mod_lt _ (by decide)
  unfold f_P_wipe
  rw [if_pos (inb_nI ht (by decide)), ix_nI (by omega), e_done hE ht, e_faults hE ht, e_wiped hE ht]
  obtain ⟨c1, w1, w2⟩ := P_law hT hl (key := 1) (by decide) (r (11 + 4 * t)) (r (12 + 4 * t)) (r (13 + 4 * t)) (r (11 + 4 * t)) hN
  have hE1 : Eqv p c1 r := hE.st hg.1 w2
  have hF1 : PF p c c1 := PF.rf.st (by omega) w2
  rw [show f_P_lawGives N p 1 (r (11 + 4 * t)) (r (12 + 4 * t)) (r (13 + 4 * t)) (r (11 + 4 * t)) c = _ from w1, bd_some, e_done hE1 ht, lt_eq, rem_nI (d := 3) (by omega) (by decide) (by decide), if_pos (inb_nI ht3 (by decide)), ix_nI (by omega), e_sand hE1 ht3, lt_eq]
  have key : (if 0 < (if (tvOf r 1 (r (11 + 4 * t)) (r (12 + 4 * t)) (r (13 + 4 * t))).getD (r (11 + 4 * t)) < r (11 + 4 * t) then (tvOf r 1 (r (11 + 4 * t)) (r (12 + 4 * t)) (r (13 + 4 * t))).getD (r (11 + 4 * t)) else r (11 + 4 * t)) then (if (tvOf r 1 (r (11 + 4 * t)) (r (12 + 4 * t)) (r (13 + 4 * t))).getD (r (11 + 4 * t)) < r (11 + 4 * t) then (tvOf r 1 (r (11 + 4 * t)) (r (12 + 4 * t)) (r (13 + 4 * t))).getD (r (11 + 4 * t)) else r (11 + 4 * t)) else 0) = aBk (tvOf r) r t := by
    unfold aBk
    cases tvOf r 1 (r (11 + 4 * t)) (r (12 + 4 * t)) (r (13 + 4 * t)) with
    | none =>
      show (if 0 < (if r (11 + 4 * t) < r (11 + 4 * t) then r (11 + 4 * t) else r (11 + 4 * t)) then (if r (11 + 4 * t) < r (11 + 4 * t) then r (11 + 4 * t) else r (11 + 4 * t)) else 0) = r (11 + 4 * t)
      rw [edn, cl3_mm _ (by omega), show cl3 (nI dn) 0 (nI dn) = _ from cl3_nI (lo := 0) (by omega) (by omega) (by omega), Nat.min_self]
    | some v =>
      show (if 0 < (if v < r (11 + 4 * t) then v else r (11 + 4 * t)) then (if v < r (11 + 4 * t) then v else r (11 + 4 * t)) else 0) = cl3 v 0 (r (11 + 4 * t))
      rw [edn, cl3_mm _ (by omega)]
  rw [key, min_flip, show (if aBk (tvOf r) r t ≤ 99999 - r (7 + t % 3) then aBk (tvOf r) r t else 99999 - r (7 + t % 3)) = aCm (tvOf r) r t from rfl, lt_eq]
  have hE2 := u_sand hE1 ht3 (r (7 + t % 3) + aCm (tvOf r) r t)
  have hF2 := hF1.put (p + 9) (t % 3) (r (7 + t % 3) + aCm (tvOf r) r t) ⟨by omega, by omega, by omega⟩ (Or.inl (by omega))
  have hd2 : upd r (7 + t % 3) (r (7 + t % 3) + aCm (tvOf r) r t) (11 + 4 * t) = r (11 + 4 * t) := pk_un (by omega)
  generalize mst c1 (p + 9) (t % 3) _ = c2 at *
  rw [lt_eq, e_spilt hE2, e_done hE2 ht, hd2]
  have hE3 := u_spilt hE2 (upd r (7 + t % 3) (r (7 + t % 3) + aCm (tvOf r) r t) 4 + (r (11 + 4 * t) - aCm (tvOf r) r t))
  have hF3 := hF2.put p 14 (upd r (7 + t % 3) (r (7 + t % 3) + aCm (tvOf r) r t) 4 + (r (11 + 4 * t) - aCm (tvOf r) r t)) ⟨by omega, by omega, by omega⟩ (Or.inr (by decide))
  generalize mst c2 p 14 _ = c3 at *
  have hE4 := u_faults (u_done hE3 ht 0) ht 0
  have hF4 := (hF3.put (p + 6) t 0 ⟨by omega, by omega, by omega⟩ (Or.inl (by omega))).put (p + 7) t 0 ⟨by omega, by omega, by omega⟩ (Or.inl (by omega))
  rw [lt_eq, lt_eq]
  generalize mst (mst c3 (p + 6) t 0) (p + 7) t 0 = c4 at *
  rw [lt_eq, e_wiped hE4 ht]
  exact ⟨_, rfl, u_wiped hE4 ht _, hF4.put (p + 8) t _ ⟨by omega, by omega, by omega⟩ (Or.inl (by omega))⟩
