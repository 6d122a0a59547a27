/-! PURE: the reference's draughts, wiping, hour -/
theorem M_blowT {m1 : Mm} {t : Nat} (ht : t < 6) : ∃ m2, (lt ((nI t + 1) - (nI t + 1) / 6 * 6) fun x_14 => bp (f_M_at0 (nI t) 1 m1) fun r_18 => lt (r_18 / 10) fun x_24 => if inb ((10 + (4 * nI t)) + 1) 1436 = true then lt (mst m1 92 (ix ((10 + (4 * nI t)) + 1)) ((m1 92 (ix ((10 + (4 * nI t)) + 1))) - x_24)) fun m_41 => if inb ((10 + (4 * x_14)) + 1) 1436 = true then lt (mst m_41 92 (ix ((10 + (4 * x_14)) + 1)) ((m_41 92 (ix ((10 + (4 * x_14)) + 1))) + x_24)) fun m_58 => if inb ((10 + (4 * x_14)) + 2) 1436 = true then lt (mst m_58 92 (ix ((10 + (4 * x_14)) + 2)) ((m_58 92 (ix ((10 + (4 * x_14)) + 2))) + (if x_24 ≤ 0 then (0 : Int32) else 1))) fun m_83 => some m_83 else none else none else none) = some m2 ∧ m2 92 = aBlow (m1 92) t ∧ MF m1 m2 := by
  have hu : (t + 1) % 6 < 6 := Nat.mod_lt _ (by decide)
  rw [nI_1, rem_nI (d := 6) (by omega) (by decide) (by decide), lt_eq, M_at01 ht, bp_some]
  simp only [lt_eq]
  rw [ixT1, ixT1, ixT2, if_pos (inb_nI (by omega) (by decide)), if_pos (inb_nI (by omega) (by decide)), if_pos (inb_nI (by omega) (by decide)), ix_nI (by omega), ix_nI (by omega), ix_nI (by omega)]
  refine ⟨_, rfl, ?_, ((MF.rf.put _ _).put _ _).put _ _⟩
  unfold aBlow
  simp only [mst_row]
theorem M_blows {mem : Mm} : ∃ m2, f_M_blows mem = some m2 ∧ m2 92 = aBlow (upd (mem 92) 0 (aZ (mem 92))) (aD (mem 92) % 6) ∧ MF mem m2 := by
  have hd := aD_lt (mem 92)
  unfold f_M_blows
  rw [M_draw, bd_some, lt_eq, rem_nI (d := 6) (by omega) (by decide) (by decide)]
  obtain ⟨m2, w1, w2, w3⟩ := M_blowT (m1 := mst mem 92 0 (aZ (mem 92))) (t := aD (mem 92) % 6) (Nat.mod_lt _ (by decide))
  rw [mst_row] at w2
  exact ⟨m2, w1, w2, (MF.rf.put _ _).tr w3⟩
theorem M_isDone {mem : Mm} {t : Nat} (ht : t < 6) : f_M_isDone (nI t) mem = some (if aDone (mem 92) t = true then (1 : Int32) else 0) := by
  unfold f_M_isDone aDone
  rw [M_at01 ht, bp_some, M_at00 ht, bp_some]
  by_cases h : mem 92 (11 + 4 * t) < mem 92 (10 + 4 * t)
  · have a1 := lt_ti.mp h
    rw [if_pos h, if_neg (fun q => by have a2 := le_ti.mp (of_decide_eq_true q); omega)]
  · rw [lt_ti] at h
    rw [if_neg (fun q => h (lt_ti.mp q)), if_pos (decide_eq_true (le_ti.mpr (by omega)))]
theorem M_wipeT {mem : Mm} {t : Nat} (ht : t < 6) (d bk : Int32) : ∃ m2, (if inb (7 + nI (t % 3)) 1436 = true then lt (99999 - (mem 92 (ix (7 + nI (t % 3))))) fun x_78 => lt (if bk ≤ x_78 then bk else x_78) fun x_94 => lt (mst mem 92 (ix (7 + nI (t % 3))) ((mem 92 (ix (7 + nI (t % 3)))) + x_94)) fun m_111 => lt (mst m_111 92 (ix 4) ((m_111 92 (ix 4)) + (d - x_94))) fun m_124 => if inb ((10 + (4 * nI t)) + 1) 1436 = true then lt (mst m_124 92 (ix ((10 + (4 * nI t)) + 1)) 0) fun m_138 => if inb ((10 + (4 * nI t)) + 2) 1436 = true then lt (mst m_138 92 (ix ((10 + (4 * nI t)) + 2)) 0) fun m_152 => if inb ((10 + (4 * nI t)) + 3) 1436 = true then lt (mst m_152 92 (ix ((10 + (4 * nI t)) + 3)) ((m_152 92 (ix ((10 + (4 * nI t)) + 3))) + 1)) fun m_169 => some m_169 else none else none else none else none) = some m2 ∧ (∀ tv, bk = aBk tv (mem 92) t → d = mem 92 (11 + 4 * t) → m2 92 = aWipe tv (mem 92) t) ∧ MF mem m2 := by
  have h3 : t % 3 < 3 := Nat.mod_lt _ (by decide)
  simp only [lt_eq]
  rw [ixR, ixT1, ixT2, ixT3, if_pos (inb_nI (by omega) (by decide)), if_pos (inb_nI (by omega) (by decide)), if_pos (inb_nI (by omega) (by decide)), if_pos (inb_nI (by omega) (by decide)), ix_nI (by omega), ix_nI (by omega), ix_nI (by omega), ix_nI (by omega), ixc_4]
  refine ⟨_, rfl, fun tv h1 h2 => ?_, ((((MF.rf.put _ _).put _ _).put _ _).put _ _).put _ _⟩
  subst h1
  subst h2
  unfold aWipe aCm
  simp only [mst_row]
theorem M_wipes {B : Nat} (hB : B < 2000) {c mem : Mm} (hT : Txt c (mem 92)) (hI : Inv B (mem 92)) {t : Nat} (ht : t < 6) {N : Nat} (hN : 97 ≤ N) : ∃ m2, f_M_wipes N (nI t) mem = some m2 ∧ m2 92 = aWipe (tvOf (mem 92)) (mem 92) t ∧ MF mem m2 := by
  obtain ⟨T, hT1, hT2, hT3⟩ := hT
  obtain ⟨-, ⟨dn, hdn, edn⟩⟩ := hI.2.2.1 t ht
  unfold f_M_wipes
  rw [M_at01 ht, bp_some, show f_M_counts N 1 mem = _ from M_counts (key := 1) hT1 hT2 (by omega), bp_some, lt_eq, M_at02 ht, bp_some, mst_ck (k2 := 92) (by decide), lt_eq, M_at03 ht, bp_some, mst_ck (k2 := 92) (by decide), mst_ck (k2 := 92) (by decide), lt_eq, ixc_0, ixc_1, ixc_2]
  have e92 : mst (mst (mst mem 103 0 (mem 92 (11 + 4 * t))) 103 1 (mem 92 (12 + 4 * t))) 103 2 (mem 92 (13 + 4 * t)) 92 = mem 92 := by rw [mst_ck (by decide), mst_ck (by decide), mst_ck (by decide)]
  have eF : MF mem (mst (mst (mst mem 103 0 (mem 92 (11 + 4 * t))) 103 1 (mem 92 (12 + 4 * t))) 103 2 (mem 92 (13 + 4 * t))) := fun k h1 h2 h3 => by rw [mst_ck h3, mst_ck h3, mst_ck h3]
  have hf : mst (mst (mst mem 103 0 (mem 92 (11 + 4 * t))) 103 1 (mem 92 (12 + 4 * t))) 103 2 (mem 92 (13 + 4 * t)) 103 0 = mem 92 (11 + 4 * t) ∧ mst (mst (mst mem 103 0 (mem 92 (11 + 4 * t))) 103 1 (mem 92 (12 + 4 * t))) 103 2 (mem 92 (13 + 4 * t)) 103 1 = mem 92 (12 + 4 * t) ∧ (1 = 2 ∨ mst (mst (mst mem 103 0 (mem 92 (11 + 4 * t))) 103 1 (mem 92 (12 + 4 * t))) 103 2 (mem 92 (13 + 4 * t)) 103 2 = mem 92 (13 + 4 * t)) := by
    refine ⟨?_, ?_, Or.inr (mst_at _ _ _ _)⟩
    · rw [mst_ne (Or.inr (by decide)), mst_ne (Or.inr (by decide)), mst_at]
    · rw [mst_ne (Or.inr (by decide)), mst_at]
  generalize mst (mst (mst mem 103 0 (mem 92 (11 + 4 * t))) 103 1 (mem 92 (12 + 4 * t))) 103 2 (mem 92 (13 + 4 * t)) = m1 at *
  have hl := M_law (c := c) (mem := m1) hT1 (by rw [e92]; exact hT2) (by rw [e92]; exact hT3) (key := 1) (by decide) (mem 92 (11 + 4 * t)) (mem 92 (12 + 4 * t)) (mem 92 (13 + 4 * t)) hN hf
  rw [e92] at hl
  rw [rem_nI (d := 3) (by omega) (by decide) (by decide)]
  rcases hl with ⟨l1, l2⟩ | ⟨t2, v, m2, l1, l2, l3, l4, l5⟩
  · rw [l1, if_neg (by decide)]
    obtain ⟨m3, w1, w2, w3⟩ := M_wipeT (mem := m1) ht (mem 92 (11 + 4 * t)) (mem 92 (11 + 4 * t))
    refine ⟨m3, w1, ?_, eF.tr w3⟩
    rw [w2 (tvOf (mem 92)) (by unfold aBk; rw [e92, l2]) (by rw [e92]), e92]
  · rw [l1]
    show ∃ m2, (if 0 ≤ nI t2 then _ else _) = _ ∧ _
    rw [if_pos (l_le (n := 0) (by omega) (by omega)), l4, bd_some, M_within, bp_some]
    have em : m2 92 = mem 92 := by rw [l5 92 (by decide), e92]
    obtain ⟨m3, w1, w2, w3⟩ := M_wipeT (mem := m2) ht (mem 92 (11 + 4 * t)) (cl3 v 0 (mem 92 (11 + 4 * t)))
    refine ⟨m3, w1, ?_, eF.tr (MF.tr (fun k h1 h2 h3 => l5 k h2) w3)⟩
    rw [w2 (tvOf (mem 92)) (by unfold aBk; rw [em, l3]) (by rw [em]), em]
-- the loops
theorem M_monksL {c : Mm} {r : Row} (hT : Txt c r) (hI : Inv 999 r) {M N : Nat} (hM : M ≤ 10) (eM : r 1 = nI M) (hN : 97 ≤ N) {idle : Int32} : ∀ (d k F : Nat) (mem : Mm), k + d = M → d < F → mem 91 4 = idle → mem 92 = aMonks (tvOf r) idle k r → ∃ m2, f_M_hour_L2 N F (nI k) mem = some (nI M, m2) ∧ m2 92 = aMonks (tvOf r) idle M r ∧ MF mem m2
  | 0, k, F, mem, h, hF, hid, hr => by
    obtain ⟨F, rfl⟩ : ∃ f, F = f + 1 := ⟨F - 1, by omega⟩
    have : k = M := by omega
    subst this
    obtain ⟨-, -, q3, -⟩ := aMonks_inv hI (tvOf r) idle k hM
    refine ⟨mem, ?_, hr, MF.rf⟩
    rw [f_M_hour_L2, ixc_1, hr, q3, eM, if_pos (nI_le (Nat.le_refl _) (by omega))]
  | d + 1, k, F, mem, h, hF, hid, hr => by
    obtain ⟨F, rfl⟩ : ∃ f, F = f + 1 := ⟨F - 1, by omega⟩
    obtain ⟨q1, q2, q3, q4⟩ := aMonks_inv hI (tvOf r) idle k (by omega)
    rw [f_M_hour_L2, ixc_1, hr, q3, eM, if_neg (nI_ge (by omega) (by omega)), M_draw, bd_some]
    have hd := aD_lt (mem 92)
    rw [rem_nI (d := 10) (by omega) (by decide) (by decide)]
    have e1 : mst mem 92 0 (aZ (mem 92)) 92 = upd (mem 92) 0 (aZ (mem 92)) := mst_row _ _ _ _
    have f1 : MF mem (mst mem 92 0 (aZ (mem 92))) := MF.rf.put _ _
    rw [hr] at e1
    have h6 : upd (aMonks (tvOf r) idle k r) 0 (aZ (aMonks (tvOf r) idle k r)) 6 = r 6 := (pk_un (by decide)).trans q2
    have hh : ∀ j, 64 ≤ j → upd (aMonks (tvOf r) idle k r) 0 (aZ (aMonks (tvOf r) idle k r)) j = r j := fun j hj => (pk_un (by omega)).trans (q4 j hj)
    obtain ⟨m1, w1, w2, w3⟩ := M_pours (c := c) (mem := mst mem 92 0 (aZ (mem 92))) (by rw [hr, e1]; exact hT.cong h6 hh (fun _ _ _ => rfl)) (by rw [hr, e1]; exact q1.free (Or.inl rfl) _) (m := k) (X := aD (mem 92) % 10) (by omega) (by omega) hN
    rw [w1, bp_some, nI_1]
    rw [hr, e1, tv_cong h6 hh, mst_ck (k2 := 91) (by decide), hid] at w2
    obtain ⟨m2, u1, u2, u3⟩ := M_monksL (idle := idle) hT hI hM eM hN d (k + 1) F m1 (by omega) (by omega) (by rw [w3 91 (by decide) (by decide) (by decide), mst_ck (by decide)]; exact hid) (by rw [w2]; rfl)
    exact ⟨m2, u1, u2, (f1.tr w3).tr u3⟩
theorem M_cntL {mem : Mm} : ∀ (d t F : Nat), t + d = 6 → d < F → f_M_hour_L54 F (nI (aCnt (mem 92) t)) (nI t) mem = some (nI (aCnt (mem 92) 6), nI 6)
  | 0, t, F, h, hF => by
    obtain ⟨F, rfl⟩ : ∃ f, F = f + 1 := ⟨F - 1, by omega⟩
    have : t = 6 := by omega
    subst this
    rw [f_M_hour_L54, if_pos (l_le (n := 6) (by omega) (by decide))]
  | d + 1, t, F, h, hF => by
    obtain ⟨F, rfl⟩ : ∃ f, F = f + 1 := ⟨F - 1, by omega⟩
    have ht : t < 6 := by omega
    rw [f_M_hour_L54, if_neg (l_ge (n := 6) ht (by decide)), M_isDone ht, bp_some, lt_eq, nI_1]
    have ec : nI (aCnt (mem 92) t) + (if (if aDone (mem 92) t = true then (1 : Int32) else 0) = 0 then (0 : Int32) else 1) = nI (aCnt (mem 92) (t + 1)) := by
      show _ = nI (aCnt (mem 92) t + if aDone (mem 92) t = true then 1 else 0)
      by_cases e : aDone (mem 92) t = true
      · rw [if_pos e, if_pos e, if_neg (by decide), nI_1]
      · rw [if_neg e, if_neg e, if_pos rfl]; exact nI_add _ 0
    rw [ec]
    exact M_cntL d (t + 1) F (by omega) (by omega)
theorem M_wipesL {B : Nat} (hB : B < 2000) {c : Mm} {r : Row} (hT : Txt c r) (hI : Inv B r) {N : Nat} (hN : 97 ≤ N) (b1 : Int32) : ∀ (d t F : Nat) (mem : Mm), t + d = 6 → d < F → mem 92 = aWipes (tvOf r) t r → ∃ m2, f_M_hour_L104 N F b1 (nI t) mem = some (nI 6, m2) ∧ m2 92 = aWipes (tvOf r) 6 r ∧ MF mem m2
  | 0, t, F, mem, h, hF, hr => by
    obtain ⟨F, rfl⟩ : ∃ f, F = f + 1 := ⟨F - 1, by omega⟩
    have : t = 6 := by omega
    subst this
    refine ⟨mem, ?_, hr, MF.rf⟩
    rw [f_M_hour_L104, if_pos (l_le (n := 6) (by omega) (by decide))]
  | d + 1, t, F, mem, h, hF, hr => by
    obtain ⟨F, rfl⟩ : ∃ f, F = f + 1 := ⟨F - 1, by omega⟩
    have ht : t < 6 := by omega
    obtain ⟨q1, q2, -, -, -, q4, -, -⟩ := aWipes_inv hB hI (tvOf r) t (by omega)
    have ew : aWipes (tvOf r) (t + 1) r = if aDone (aWipes (tvOf r) t r) t = true then aWipe (tvOf r) (aWipes (tvOf r) t r) t else aWipes (tvOf r) t r := rfl
    rw [f_M_hour_L104, if_neg (l_ge (n := 6) ht (by decide)), M_isDone ht, bp_some, nI_1, hr]
    by_cases e : aDone (aWipes (tvOf r) t r) t = true
    · rw [if_pos e] at ew
      rw [if_pos e, if_neg (by decide)]
      obtain ⟨m1, w1, w2, w3⟩ := M_wipes (c := c) hB (mem := mem) (by rw [hr]; exact hT.cong q2 q4 (fun _ _ _ => rfl)) (by rw [hr]; exact q1) ht hN
      rw [hr, tv_cong q2 q4, ← ew] at w2
      rw [w1, bp_some]
      obtain ⟨m2, u1, u2, u3⟩ := M_wipesL hB hT hI hN b1 d (t + 1) F m1 (by omega) (by omega) w2
      exact ⟨m2, u1, u2, w3.tr u3⟩
    · rw [if_neg e] at ew
      rw [if_neg e, if_pos rfl]
      exact M_wipesL hB hT hI hN b1 d (t + 1) F mem (by omega) (by omega) (by rw [hr, ew])
theorem upd_id (r : Row) (j : Nat) (v : Int32) (h : v = r j) : upd r j v = r := by
  funext k
  unfold upd
  by_cases e : k = j
  · rw [if_pos e, h, e]
  · rw [if_neg e]
theorem M_tail {c mem : Mm} (hT : Txt c (mem 92)) (hI : Inv 1100 (mem 92)) {N : Nat} (hN : 97 ≤ N) : ∃ m2, (bp (f_M_hour_L54 N 0 0 mem) fun y_54 => lt (mst mem 92 (ix 5) ((mem 92 (ix 5)) + (if y_54.1 = 6 then (1 : Int32) else 0))) fun m_101 => bd (f_M_hour_L104 N N y_54.1 0 m_101) fun y_104 m_104 => lt (mst m_104 92 (ix 2) ((m_104 92 (ix 2)) + 1)) fun m_138 => some (y_54.1, m_138)) = some (nI (aCnt (mem 92) 6), m2) ∧ m2 92 = upd (aWipes (tvOf (mem 92)) 6 (aEnd (mem 92))) 2 (aWipes (tvOf (mem 92)) 6 (aEnd (mem 92)) 2 + 1) ∧ MF mem m2 := by
  rw [show f_M_hour_L54 N 0 0 mem = _ from M_cntL (mem := mem) 6 0 N (by omega) (by omega), bp_some]
  show ∃ m2, (lt (mst mem 92 (ix 5) ((mem 92 (ix 5)) + (if nI (aCnt (mem 92) 6) = 6 then (1 : Int32) else 0))) fun m_101 => bd (f_M_hour_L104 N N (nI (aCnt (mem 92) 6)) 0 m_101) fun y_104 m_104 => lt (mst m_104 92 (ix 2) ((m_104 92 (ix 2)) + 1)) fun m_138 => some (nI (aCnt (mem 92) 6), m_138)) = some (nI (aCnt (mem 92) 6), m2) ∧ _
  rw [lt_eq, ixc_5]
  have hc := aCnt_le (mem 92) 6
  have e1 : mst mem 92 5 (mem 92 5 + (if nI (aCnt (mem 92) 6) = 6 then (1 : Int32) else 0)) 92 = aEnd (mem 92) := by
    rw [mst_row]
    unfold aEnd
    by_cases e : aCnt (mem 92) 6 = 6
    · rw [if_pos e, if_pos ((r_eq (n := 6) (by omega) (by decide)).mpr e)]
    · rw [if_neg e, if_neg (fun q => e ((r_eq (n := 6) (by omega) (by decide)).mp q))]
      exact upd_id _ _ _ (Int32.add_zero _)
  have hE : Inv 1100 (aEnd (mem 92)) ∧ aEnd (mem 92) 6 = mem 92 6 ∧ ∀ j, 64 ≤ j → aEnd (mem 92) j = mem 92 j := by
    unfold aEnd
    split
    · exact ⟨hI.free (Or.inr (Or.inr (Or.inr (Or.inr (Or.inl rfl))))) _, pk_un (by decide), fun j hj => pk_un (by omega)⟩
    · exact ⟨hI, rfl, fun _ _ => rfl⟩
  obtain ⟨m1, w1, w2, w3⟩ := M_wipesL (by decide) (hT.cong hE.2.1 hE.2.2 (fun _ _ _ => rfl)) hE.1 hN (nI (aCnt (mem 92) 6)) 6 0 N _ (by omega) (by omega) e1
  rw [show f_M_hour_L104 N N (nI (aCnt (mem 92) 6)) 0 (mst mem 92 5 (mem 92 5 + (if nI (aCnt (mem 92) 6) = 6 then (1 : Int32) else 0))) = _ from w1, bd_some, lt_eq, ixc_2]
  rw [tv_cong hE.2.1 hE.2.2] at w2
  refine ⟨_, rfl, ?_, ((MF.rf.put _ _).tr w3).put _ _⟩
  rw [mst_row, w2]
theorem M_hour {c mem : Mm} (hT : Txt c (mem 92)) (hI : Inv 999 (mem 92)) {N : Nat} (hN : 97 ≤ N) : ∃ m2, f_M_hour N mem = some (nI (aCount (tvOf (mem 92)) (mem 91 4) (mem 92)), m2) ∧ m2 92 = aHour (tvOf (mem 92)) (mem 91 4) (mem 92) ∧ MF mem m2 := by
  obtain ⟨M, hM, eM⟩ := hI.1
  have eix : ix (mem 92 1) = M := by rw [eM, ix_nI (by omega)]
  obtain ⟨m1, w1, w2, w3⟩ := M_monksL hT hI hM eM hN (idle := mem 91 4) M 0 N mem (by omega) (by omega) rfl rfl
  obtain ⟨a1, a2, a3, a4⟩ := aMonks_inv hI (tvOf (mem 92)) (mem 91 4) M hM
  obtain ⟨b1, b2, b3, b4⟩ := aBlows_inv a1
  have ep : aPre (tvOf (mem 92)) (mem 91 4) (mem 92) = aBlows (aMonks (tvOf (mem 92)) (mem 91 4) M (mem 92)) := by unfold aPre; rw [eix]
  have eH : aHour (tvOf (mem 92)) (mem 91 4) (mem 92) = upd (aWipes (tvOf (mem 92)) 6 (aEnd (aBlows (aMonks (tvOf (mem 92)) (mem 91 4) M (mem 92))))) 2 (aWipes (tvOf (mem 92)) 6 (aEnd (aBlows (aMonks (tvOf (mem 92)) (mem 91 4) M (mem 92)))) 2 + 1) := by
    show upd (aWipes (tvOf (mem 92)) 6 (aEnd (aPre (tvOf (mem 92)) (mem 91 4) (mem 92)))) 2 (aWipes (tvOf (mem 92)) 6 (aEnd (aPre (tvOf (mem 92)) (mem 91 4) (mem 92))) 2 + 1) = _
    rw [ep]
  have eC : aCount (tvOf (mem 92)) (mem 91 4) (mem 92) = aCnt (aBlows (aMonks (tvOf (mem 92)) (mem 91 4) M (mem 92))) 6 := by
    unfold aCount
    rw [ep]
  rw [eC, eH]
  have hd := aD_lt (m1 92)
  unfold f_M_hour
  rw [show f_M_hour_L2 N N 0 mem = _ from w1, bd_some, M_draw, bd_some, rem_nI (d := 100) (by omega) (by decide) (by decide), ixc_3, mst_row, pk_un (j := 3) (by decide)]
  have e1 : mst m1 92 0 (aZ (m1 92)) 92 = upd (m1 92) 0 (aZ (m1 92)) := mst_row _ _ _ _
  have f1 : MF mem (mst m1 92 0 (aZ (m1 92))) := w3.put _ _
  have fin : ∀ m3 : Mm, m3 92 = aBlows (m1 92) → MF mem m3 → ∃ m2, (bp (f_M_hour_L54 N 0 0 m3) fun y_54 => lt (mst m3 92 (ix 5) ((m3 92 (ix 5)) + (if y_54.1 = 6 then (1 : Int32) else 0))) fun m_101 => bd (f_M_hour_L104 N N y_54.1 0 m_101) fun y_104 m_104 => lt (mst m_104 92 (ix 2) ((m_104 92 (ix 2)) + 1)) fun m_138 => some (y_54.1, m_138)) = some (nI (aCnt (aBlows (aMonks (tvOf (mem 92)) (mem 91 4) M (mem 92))) 6), m2) ∧ m2 92 = upd (aWipes (tvOf (mem 92)) 6 (aEnd (aBlows (aMonks (tvOf (mem 92)) (mem 91 4) M (mem 92))))) 2 (aWipes (tvOf (mem 92)) 6 (aEnd (aBlows (aMonks (tvOf (mem 92)) (mem 91 4) M (mem 92)))) 2 + 1) ∧ MF mem m2 := by
    intro m3 h3 f3
    rw [w2] at h3
    have hT3 : Txt c (m3 92) := by rw [h3]; exact hT.cong (b2.trans a2) (fun j hj => (b4 j hj).trans (a4 j hj)) (fun _ _ _ => rfl)
    obtain ⟨m4, v1, v2, v3⟩ := M_tail hT3 (by rw [h3]; exact b1) hN
    rw [h3, tv_cong (b2.trans a2) (fun j hj => (b4 j hj).trans (a4 j hj))] at v2
    refine ⟨m4, ?_, v2, f3.tr v3⟩
    rw [v1, h3]
  by_cases e : m1 92 3 ≤ nI (aD (m1 92) % 100)
  · rw [if_pos e]
    exact fin _ (by rw [e1]; unfold aBlows; rw [if_pos e]) f1
  · rw [if_neg e]
    obtain ⟨m3, v1, v2, v3⟩ := M_blows (mem := mst m1 92 0 (aZ (m1 92)))
    rw [v1, bp_some]
    exact fin m3 (by rw [v2, e1]; unfold aBlows; rw [if_neg e]) (f1.tr v3)
