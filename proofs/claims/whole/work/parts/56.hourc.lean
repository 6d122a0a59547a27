/-! PURE: the class's hour is aHour -/
def isP (p : Nat) : Prop := p = 38 ∨ p = 48 ∨ p = 58
theorem isP.g {p : Nat} (h : isP p) : 37 < p ∧ p < 59 := by rcases h with h | h | h <;> omega
/-- a picture and its row: the numbers, the law, the texts, the ranges -/
def Pc (B p : Nat) (c : Mm) (r : Row) : Prop := Eqv p c r ∧ Law p c r ∧ Txt c r ∧ Inv B r
theorem Pc.st {B p : Nat} {c c2 : Mm} {r : Row} (hp : isP p) (h : Pc B p c r) (h2 : ∀ j, j ≠ 37 → c2 j = c j) : Pc B p c2 r := by
  have hg := hp.g
  obtain ⟨h1, h3, h4, h5⟩ := h
  exact ⟨h1.st hg.1 h2, fun key hk => by rw [h2 _ (by omega)]; exact h3 key hk, h4.cong rfl (fun _ _ => rfl) (fun k a b => h2 k (by omega)), h5⟩
/-- a step: the picture p of c2 is told by r2, nothing else has changed -/
theorem Pc.nx {B B2 p : Nat} {c c2 : Mm} {r r2 : Row} (hp : isP p) (h : Pc B p c r) (hE : Eqv p c2 r2) (hF : PF p c c2) (hI : Inv B2 r2) (h6 : r2 6 = r 6) (hr : ∀ j, 64 ≤ j → r2 j = r j) : Pc B2 p c2 r2 := by
  have hg := hp.g
  obtain ⟨h1, h3, h4, h5⟩ := h
  exact ⟨hE, fun key hk => by rw [lawN_cong h6 hr]; exact (hF.law (by omega) h3) key hk, h4.cong h6 hr (fun k a b => hF.1 k (by omega) (by omega)), hI⟩
theorem P_pours {B p : Nat} {c : Mm} {r : Row} (hp : isP p) (h : Pc B p c r) {m X : Nat} (hm : m < 10) (hX : X ≤ 9) {N : Nat} (hN : 97 ≤ N) : ∃ c2, f_P_pours N p (nI m) (nI X) c = some (aPours (tvOf r) r m (nI X), c2) ∧ ∀ j, j ≠ 37 → c2 j = c j := by
  have hg := hp.g
  obtain ⟨hE, hl, hT, hI⟩ := h
  obtain ⟨⟨pa, hpa, epa⟩, ⟨t, ht, et⟩⟩ := hI.2.2.2 m hm
  have e4 : c (p + 4) m = nI t := (e_at hE hm).trans et
  have e3 := e_pace hE hm
  have e6 := e_done hE ht
  unfold f_P_pours
  rw [if_pos (inb_nI hm (by decide)), ix_nI (by omega), e4, if_pos (inb_nI ht (by decide)), ix_nI (by omega), e3, e6]
  obtain ⟨c2, w1, w2⟩ := P_law hT hl (key := 0) (by decide) (r (35 + 3 * m)) (r (11 + 4 * t)) (nI X) (r (35 + 3 * m)) hN
  rw [show f_P_lawGives N p 0 (r (35 + 3 * m)) (r (11 + 4 * t)) (nI X) (r (35 + 3 * m)) c = _ from w1, bd_some]
  refine ⟨c2, ?_, w2⟩
  rw [show c2 (p + 2) m = r (34 + 3 * m) by rw [w2 _ (by omega)]; exact e_kind hE hm]
  rw [show ((999 : Int32)) = nI 999 from rfl, cl3_mm _ (hi := 999) (by decide)]
  have key : cl3 ((tvOf r 0 (r (35 + 3 * m)) (r (11 + 4 * t)) (nI X)).getD (r (35 + 3 * m))) 0 (nI 999) = aPl (tvOf r) r m (nI X) := by
    unfold aPl
    rw [et, ix_nI (by omega)]
    cases tvOf r 0 (r (35 + 3 * m)) (r (11 + 4 * t)) (nI X) with
    | none => show cl3 (r (35 + 3 * m)) 0 (nI 999) = r (35 + 3 * m); rw [epa, show cl3 (nI pa) 0 (nI 999) = _ from cl3_nI (lo := 0) (by omega) (by omega) (by omega)]; congr 1; omega
    | some v => rfl
  rw [key]
  obtain ⟨P, hP, eP⟩ := aPl_nat hI (tvOf r) hm (nI X)
  obtain ⟨n, hn, q1, q2⟩ := aPo_nat (r (34 + 3 * m)) hP hX
  unfold aPours
  rw [eP, q2, bp_some, q1]
theorem aPours_nat {B : Nat} {r : Row} (hI : Inv B r) (tv : Tv) {m X : Nat} (hm : m < 10) (hX : X ≤ 9) : ∃ n, n ≤ 2016 ∧ aPours tv r m (nI X) = nI n := by
  obtain ⟨P, hP, eP⟩ := aPl_nat hI tv hm (nI X)
  obtain ⟨n, hn, q1, q2⟩ := aPo_nat (r (34 + 3 * m)) hP hX
  exact ⟨n, hn, by unfold aPours; rw [eP, q1]⟩
theorem aPut_hi {r : Row} {m t : Nat} {n : Int32} (ht : t < 6) : aPut r m t n 6 = r 6 ∧ aPut r m t n 1 = r 1 ∧ ∀ j, 64 ≤ j → aPut r m t n j = r j := by
  unfold aPut
  refine ⟨?_, ?_, fun j hj => ?_⟩
  · show upd (upd (upd (upd _ _ _) _ _) _ _) _ _ 6 = _
    rw [pk_un (by omega), pk_un (by omega), pk_un (by omega), pk_un (by omega)]
  · show upd (upd (upd (upd _ _ _) _ _) _ _) _ _ 1 = _
    rw [pk_un (by omega), pk_un (by omega), pk_un (by omega), pk_un (by omega)]
  · show upd (upd (upd (upd _ _ _) _ _) _ _) _ _ j = _
    rw [pk_un (by omega), pk_un (by omega), pk_un (by omega), pk_un (by omega)]
theorem aPut_inv {B : Nat} (hB : 999 ≤ B) {r : Row} (hI : Inv B r) {m t n S nd dn : Nat} (ht : t < 6) (hS : r (7 + t % 3) = nI S) (hS2 : S ≤ 99999) (hnd : nd ≤ 999) (hdn : r (11 + 4 * t) = nI dn) (h1 : n ≤ S) (h2 : dn + n ≤ nd) : Inv B (aPut r m t (nI n)) := by
  have hl := spn_le (r (34 + 3 * m)) n
  have hb : n < 2 ^ 30 := by omega
  unfold aPut
  show Inv B (upd (upd (upd (upd r _ _) _ _) _ _) _ _)
  rw [aSp_nI _ hb, hS, pk_sub h1, pk_sub hl]
  rw [show upd (upd r (7 + t % 3) (nI (S - n))) 4 (upd r (7 + t % 3) (nI (S - n)) 4 + nI (spn (r (34 + 3 * m)) n)) (11 + 4 * t) = nI dn by rw [pk_un (by omega), pk_un (by omega)]; exact hdn, nI_add]
  exact (((hI.sand (Nat.mod_lt _ (by decide)) (by omega)).free (Or.inr (Or.inr (Or.inr (Or.inl rfl)))) _).done ht (by omega)).free (Or.inr (Or.inr (Or.inr (Or.inr (Or.inr (Or.inl ⟨t, ht, Or.inl rfl⟩)))))) _
theorem aWork_eq (tv : Tv) (sk : Bool) (r : Row) (m : Nat) (x : Int32) {t : Nat} {n : Int32} (ht : ix (r (36 + 3 * m)) = t) (hn : aN (aPours tv r m x) (r (7 + t % 3)) (r (10 + 4 * t) - r (11 + 4 * t)) = n) : aWork tv sk r m x = if sk = true then r else if n = 0 then r else aPut r m t n := by
  subst ht
  subst hn
  cases sk <;> rfl
/-- a monk's work, as the row has it -/
theorem aWork_inv {B : Nat} (hB : 999 ≤ B) (hB2 : B < 2000) {r : Row} (hI : Inv B r) (tv : Tv) (sk : Bool) {m X : Nat} (hm : m < 10) (hX : X ≤ 9) : Inv B (aWork tv sk r m (nI X)) ∧ aWork tv sk r m (nI X) 6 = r 6 ∧ aWork tv sk r m (nI X) 1 = r 1 ∧ ∀ j, 64 ≤ j → aWork tv sk r m (nI X) j = r j := by
  obtain ⟨-, ⟨t, ht, et⟩⟩ := hI.2.2.2 m hm
  obtain ⟨⟨nd, hn1, hn2, end_⟩, ⟨dn, hd, edn⟩⟩ := hI.2.2.1 t ht
  obtain ⟨S, hS, eS⟩ := hI.2.1 (t % 3) (Nat.mod_lt _ (by decide))
  obtain ⟨P, hP, eP⟩ := aPours_nat hI tv hm hX
  rw [aWork_eq tv sk r m (nI X) (t := t) (n := nI (nMin P S nd dn)) (by rw [et, ix_nI (by omega)]) (by rw [eP, eS, end_, edn, aN_nI (by omega) (by omega) (by omega) (by omega)])]
  cases sk with
  | true => exact ⟨hI, rfl, rfl, fun _ _ => rfl⟩
  | false =>
    rw [if_neg (by decide)]
    by_cases h0 : nMin P S nd dn = 0
    · have e0 : nI (nMin P S nd dn) = 0 := by rw [h0]; rfl
      rw [if_pos e0]
      exact ⟨hI, rfl, rfl, fun _ _ => rfl⟩
    · have e0 : ¬ nI (nMin P S nd dn) = 0 := nI_ne0 (by omega) (by unfold nMin; omega)
      rw [if_neg e0]
      have hm1 : nMin P S nd dn ≤ S := by unfold nMin; omega
      have hm2 : dn + nMin P S nd dn ≤ nd := by unfold nMin at h0 ⊢; omega
      exact ⟨aPut_inv hB hI ht eS hS hn2 edn hm1 hm2, aPut_hi ht⟩
theorem P_work {B p : Nat} (hB : 999 ≤ B) (hB2 : B < 2000) {c : Mm} {r : Row} (hp : isP p) (h : Pc B p c r) {m : Nat} (hm : m < 10) {N : Nat} (hN : 97 ≤ N) : ∃ c2, f_P_work N p (nI m) c = some c2 ∧ Eqv p c2 (aWork (tvOf r) (decide (nI m = c p 18)) (upd r 0 (aZ r)) m (nI (aD r % 10))) ∧ PF p c c2 := by
  have hg := hp.g
  have hd := aD_lt r
  unfold f_P_work
  rw [P_draw h.1, bd_some, lt_eq, rem_nI (d := 10) (by omega) (by decide) (by decide)]
  have hE1 : Eqv p (mst c p 17 (aZ r)) (upd r 0 (aZ r)) := u_z h.1 _
  have hF1 : PF p c (mst c p 17 (aZ r)) := PF.rf.put p 17 _ ⟨by omega, by omega, by omega⟩ (Or.inr (by decide))
  have hI1 : Inv B (upd r 0 (aZ r)) := h.2.2.2.free (Or.inl rfl) _
  have hr6 : upd r 0 (aZ r) 6 = r 6 := pk_un (by decide)
  have hrh : ∀ j, 64 ≤ j → upd r 0 (aZ r) j = r j := fun j hj => pk_un (by omega)
  have hP1 : Pc B p (mst c p 17 (aZ r)) (upd r 0 (aZ r)) := h.nx hp hE1 hF1 hI1 hr6 hrh
  have htv : tvOf (upd r 0 (aZ r)) = tvOf r := tv_cong hr6 hrh
  rw [hF1.2]
  generalize upd r 0 (aZ r) = r1 at *
  generalize mst c p 17 (aZ r) = c1 at *
  have hX : aD r % 10 ≤ 9 := by omega
  generalize aD r % 10 = X at *
  by_cases hid : nI m = c p 18
  · rw [if_pos hid, decide_eq_true hid]
    exact ⟨c1, rfl, hE1, hF1⟩
  rw [if_neg hid, decide_eq_false hid]
  obtain ⟨⟨pa, hpa, epa⟩, ⟨t, ht, et⟩⟩ := hI1.2.2.2 m hm
  obtain ⟨⟨nd, hn1, hn2, end_⟩, ⟨dn, hdn, edn⟩⟩ := hI1.2.2.1 t ht
  have ht3 : t % 3 < 3 := Nat.mod_lt _ (by decide)
  obtain ⟨S, hS, eS⟩ := hI1.2.1 (t % 3) ht3
  obtain ⟨P, hPp, eP⟩ := aPours_nat hI1 (tvOf r) hm hX
  rw [if_pos (inb_nI hm (by decide)), ix_nI (by omega), lt_eq, (e_at hE1 hm).trans et, if_pos (inb_nI ht (by decide)), ix_nI (by omega), lt_eq, (e_need hE1 ht).trans end_, (e_done hE1 ht).trans edn]
  obtain ⟨c2, w1, w2⟩ := P_pours hp hP1 hm hX hN
  rw [w1, bd_some, htv, eP, rem_nI (d := 3) (by omega) (by decide) (by decide), if_pos (inb_nI ht3 (by decide)), ix_nI (by omega), lt_eq]
  have hE2 : Eqv p c2 r1 := hE1.st hg.1 w2
  have hF2 : PF p c c2 := hF1.st (by omega) w2
  rw [(e_sand hE2 ht3).trans eS, cN_nI (by omega) (by omega) (by omega) (by omega)]
  have ew : aWork (tvOf r) false r1 m (nI X) = if nI (nMin P S nd dn) = 0 then r1 else aPut r1 m t (nI (nMin P S nd dn)) := by
    exact aWork_eq (tvOf r) false r1 m (nI X) (t := t) (n := nI (nMin P S nd dn)) (by rw [et, ix_nI (by omega)]) (by rw [eP, eS, end_, edn, aN_nI (by omega) (by omega) (by omega) (by omega)])
  rw [ew]
  have hm1 : nMin P S nd dn ≤ S := by unfold nMin; omega
  by_cases h0 : nMin P S nd dn = 0
  · have e0 : nI (nMin P S nd dn) = 0 := by rw [h0]; rfl
    rw [if_pos e0, e0, if_neg (by decide)]
    exact ⟨c2, rfl, hE2, hF2⟩
  · rw [if_neg (nI_ne0 (by omega) (by omega)), if_pos (l_lt (n := 0) (by omega) (by omega))]
    generalize nMin P S nd dn = n at *
    rw [e_kind hE2 hm, K_spills _ (by omega) (by omega), bp_some, lt_eq]
    have hE3 := u_sand hE2 ht3 (nI S - nI n)
    have hF3 := hF2.put (p + 9) (t % 3) (nI S - nI n) ⟨by omega, by omega, by omega⟩ (Or.inl (by omega))
    have hk3 : upd r1 (7 + t % 3) (nI S - nI n) (34 + 3 * m) = r1 (34 + 3 * m) := pk_un (by omega)
    have hs3 : upd r1 (7 + t % 3) (nI S - nI n) 4 = r1 4 := pk_un (by omega)
    generalize mst c2 (p + 9) (t % 3) (nI S - nI n) = c3 at *
    rw [lt_eq, e_spilt hE3]
    have hE4 := u_spilt hE3 (upd r1 (7 + t % 3) (nI S - nI n) 4 + aSp (r1 (34 + 3 * m)) (nI n))
    have hF4 := hF3.put p 14 (upd r1 (7 + t % 3) (nI S - nI n) 4 + aSp (r1 (34 + 3 * m)) (nI n)) ⟨by omega, by omega, by omega⟩ (Or.inr (by decide))
    generalize mst c3 p 14 _ = c4 at *
    rw [lt_eq, e_done hE4 ht]
    have hE5 := u_done hE4 ht (upd (upd r1 (7 + t % 3) (nI S - nI n)) 4 (upd r1 (7 + t % 3) (nI S - nI n) 4 + aSp (r1 (34 + 3 * m)) (nI n)) (11 + 4 * t) + (nI n - aSp (r1 (34 + 3 * m)) (nI n)))
    have hF5 := hF4.put (p + 6) t (upd (upd r1 (7 + t % 3) (nI S - nI n)) 4 (upd r1 (7 + t % 3) (nI S - nI n) 4 + aSp (r1 (34 + 3 * m)) (nI n)) (11 + 4 * t) + (nI n - aSp (r1 (34 + 3 * m)) (nI n))) ⟨by omega, by omega, by omega⟩ (Or.inl (by omega))
    generalize mst c4 (p + 6) t _ = c5 at *
    rw [e_kind hE5 hm, e_faults hE5 ht]
    rw [pk_un (j := 34 + 3 * m) (by omega), pk_un (j := 34 + 3 * m) (by omega), pk_un (j := 34 + 3 * m) (by omega), K_adds _ (by omega) (by omega), bp_some, lt_eq]
    refine ⟨_, rfl, ?_, hF5.put (p + 7) t _ ⟨by omega, by omega, by omega⟩ (Or.inl (by omega))⟩
    have hE6 := u_faults hE5 ht (upd (upd (upd r1 (7 + t % 3) (nI S - nI n)) 4 (upd r1 (7 + t % 3) (nI S - nI n) 4 + aSp (r1 (34 + 3 * m)) (nI n))) (11 + 4 * t) (upd (upd r1 (7 + t % 3) (nI S - nI n)) 4 (upd r1 (7 + t % 3) (nI S - nI n) 4 + aSp (r1 (34 + 3 * m)) (nI n)) (11 + 4 * t) + (nI n - aSp (r1 (34 + 3 * m)) (nI n))) (12 + 4 * t) + aAd (r1 (34 + 3 * m)) (nI n))
    unfold aPut
    rw [eS]
    exact hE6
