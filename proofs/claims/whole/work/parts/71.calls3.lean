/-! PURE: does, fine, deal, texts told, what waits, slots read -/
theorem K_spills0 (k : Int32) {n : Nat} (hn : n < 2 ^ 30) : f_K_spills k (nI n) = some (aSp k (nI n)) := by
  rcases Nat.eq_zero_or_pos n with h | h
  · subst h
    unfold f_K_spills aSp
    by_cases h2 : k = 2
    · rw [if_pos h2, if_pos h2]
    rw [if_neg h2, if_neg h2]
    by_cases h4 : k = 4
    · rw [if_pos h4, if_pos h4]; decide
    · rw [if_neg h4, if_neg h4]
  · exact K_spills k h hn
theorem K_adds0 (k : Int32) {n : Nat} (hn : n < 2 ^ 30) : f_K_adds k (nI n) = some (aAd k (nI n)) := by
  unfold f_K_adds aAd
  rw [K_spills0 k hn, bp_some]
  split <;> rfl
theorem st_ct {m c : Mm} (h : ∀ j, j ≠ 37 → c j = m j) : CT m c := fun k hk => h k (fun e => hk (Or.inl e))
theorem mf_ct {m c : Mm} (h : MF m c) (h9 : c 92 = m 92) : CT m c := fun k hk => by
  by_cases e : k = 92
  · rw [e]; exact h9
  · exact h k e (fun q => hk (by unfold scrC; omega)) (fun q => hk (by unfold scrC; omega))
theorem ok_does {m : Mm} (g : Good m) (a b c : Int32) {N : Nat} (hN : 500 ≤ N) : Ok2 (f_S_does N a b c) (f_M_does N a b c) m := by
  unfold Ok2 f_S_does f_M_does
  rcases mk_cases g a with ⟨k, M, hk, hM, eM, rfl, s1, s2⟩ | ⟨s1, s2⟩
  case inr => exact ⟨_, m, m, by rw [s1, bp_some, if_pos rfl], by rw [s2 m rfl, bp_some, if_pos rfl], g⟩
  rcases wi_cases b (lo := 0) (hi := 2) (by decide) (by decide) with ⟨w, h1, h2, rfl, t1, t2⟩ | ⟨t1, t2⟩
  case inr => exact ⟨_, m, m, by rw [s1, bp_some, if_neg nz1, show f_S_within b 0 2 = _ from t1, bp_some, if_pos rfl], by rw [s2 m rfl, bp_some, if_neg nz1, show f_M_in b 0 2 = _ from t2, bp_some, if_pos rfl], g⟩
  have hk10 : k < 10 := by omega
  rw [s1, bp_some, if_neg nz1, show f_S_within (nI w) 0 2 = _ from t1, bp_some, if_neg nz1]
  match w, h2 with
  | 0, _ =>
    rw [if_pos (show nI 0 = 0 from rfl), if_pos (show nI 0 = 0 from rfl)]
    rcases wi_cases c (lo := 0) (hi := 9) (by decide) (by decide) with ⟨x, k1, k2, rfl, u1, u2⟩ | ⟨u1, u2⟩
    · obtain ⟨c2, w1, w2⟩ := P_pours (Or.inl rfl) g.1.1 hk10 k2 (N := N) (by omega)
      rw [show f_S_within (nI x) 0 9 = _ from u1, bp_some, if_neg nz1, w1, bd_some]
      have ct := st_ct w2
      have e92 : c2 92 = m 92 := ct 92 (by unfold scrC; omega)
      obtain ⟨m2, v1, v2, v3⟩ := M_poursBy (c := m) (mem := c2) (by rw [e92]; exact g.1.1.2.2.1) (by rw [e92]; exact g.1.1.2.2.2) hk10 (nI x) (N := N) (by omega)
      refine ⟨_, c2, m2, rfl, ?_, g.scr (ct.tr (mf_ct v3 v2))⟩
      rw [s2 c2 (by rw [e92]), bp_some, if_neg nz1, show f_M_in (nI 0) 0 2 = _ from t2, bp_some, if_neg nz1, if_pos (show nI 0 = 0 from rfl), show f_M_in (nI x) 0 9 = _ from u2, bp_some, if_neg nz1, v1, bd_some, e92]
    · rw [show f_S_within c 0 9 = _ from u1, bp_some, if_pos rfl]
      exact ⟨_, m, m, rfl, by rw [s2 m rfl, bp_some, if_neg nz1, show f_M_in (nI 0) 0 2 = _ from t2, bp_some, if_neg nz1, if_pos (show nI 0 = 0 from rfl), show f_M_in c 0 9 = _ from u2, bp_some, if_pos rfl], g⟩
  | 1, _ =>
    rw [if_neg (show ¬ nI 1 = 0 by decide), if_neg (show ¬ nI 1 = 0 by decide), if_pos (show nI 1 = 1 from rfl)]
    rcases wi_cases c (lo := 0) (hi := 999) (by decide) (by decide) with ⟨x, k1, k2, rfl, u1, u2⟩ | ⟨u1, u2⟩
    · rw [show f_S_within (nI x) 0 999 = _ from u1, bp_some, if_neg nz1, if_pos (inb_nI hk10 (by decide)), ix_nI (by omega), show m 40 k = _ from e_kind g.1.1.1 hk10, K_spills0 _ (by omega), bp_some]
      refine ⟨_, m, m, rfl, ?_, g⟩
      rw [s2 m rfl, bp_some, if_neg nz1, show f_M_in (nI 1) 0 2 = _ from t2, bp_some, if_neg nz1, if_neg (show ¬ nI 1 = 0 by decide), if_pos (show nI 1 = 1 from rfl), show f_M_in (nI x) 0 999 = _ from u2, bp_some, if_neg nz1, M_spills hk10, bp_some]
    · rw [show f_S_within c 0 999 = _ from u1, bp_some, if_pos rfl]
      exact ⟨_, m, m, rfl, by rw [s2 m rfl, bp_some, if_neg nz1, show f_M_in (nI 1) 0 2 = _ from t2, bp_some, if_neg nz1, if_neg (show ¬ nI 1 = 0 by decide), show f_M_in c 0 999 = _ from u2, bp_some, if_pos rfl], g⟩
  | 2, _ =>
    rw [if_neg (show ¬ nI 2 = 0 by decide), if_neg (show ¬ nI 2 = 0 by decide), if_neg (show ¬ nI 2 = 1 by decide)]
    rcases wi_cases c (lo := 0) (hi := 999) (by decide) (by decide) with ⟨x, k1, k2, rfl, u1, u2⟩ | ⟨u1, u2⟩
    · rw [show f_S_within (nI x) 0 999 = _ from u1, bp_some, if_neg nz1, if_pos (inb_nI hk10 (by decide)), ix_nI (by omega), show m 40 k = _ from e_kind g.1.1.1 hk10, K_adds0 _ (by omega), bp_some]
      refine ⟨_, m, m, rfl, ?_, g⟩
      rw [s2 m rfl, bp_some, if_neg nz1, show f_M_in (nI 2) 0 2 = _ from t2, bp_some, if_neg nz1, if_neg (show ¬ nI 2 = 0 by decide), if_neg (show ¬ nI 2 = 1 by decide), show f_M_in (nI x) 0 999 = _ from u2, bp_some, if_neg nz1, M_adds hk10, bp_some]
    · rw [show f_S_within c 0 999 = _ from u1, bp_some, if_pos rfl]
      exact ⟨_, m, m, rfl, by rw [s2 m rfl, bp_some, if_neg nz1, show f_M_in (nI 2) 0 2 = _ from t2, bp_some, if_neg nz1, if_neg (show ¬ nI 2 = 0 by decide), show f_M_in c 0 999 = _ from u2, bp_some, if_pos rfl], g⟩
theorem ok_fine {m : Mm} (g : Good m) {N : Nat} (hN : 500 ≤ N) : Ok2 (f_S_fine N) (f_M_fine N) m := by
  unfold Ok2 f_S_fine f_M_fine
  obtain ⟨hE, hl, hT, hI⟩ := g.1.1
  obtain ⟨c2, w1, w2⟩ := P_law hT hl (key := 2) (by decide) (m 92 2) (m 92 4) 0 (m 92 4) (N := N) (by omega)
  rw [e_hour hE, e_spilt hE, show f_P_lawGives N 38 2 (m 92 2) (m 92 4) 0 (m 92 4) m = _ from w1, bd_some]
  have ct := st_ct w2
  have e92 : c2 92 = m 92 := ct 92 (by unfold scrC; omega)
  obtain ⟨T, hT1, hT2, hT3⟩ := hT
  have e9 : mst (mst c2 103 0 (m 92 2)) 103 1 (m 92 4) 92 = m 92 := by rw [mst_ck (by omega), mst_ck (by omega)]; exact e92
  have eF : CT c2 (mst (mst c2 103 0 (m 92 2)) 103 1 (m 92 4)) := fun k hk => by
    have : k ≠ 103 := fun e => hk (by unfold scrC; omega)
    rw [mst_ck this, mst_ck this]
  have hf : mst (mst c2 103 0 (m 92 2)) 103 1 (m 92 4) 103 0 = m 92 2 ∧ mst (mst c2 103 0 (m 92 2)) 103 1 (m 92 4) 103 1 = m 92 4 ∧ (2 = 2 ∨ mst (mst c2 103 0 (m 92 2)) 103 1 (m 92 4) 103 2 = 0) := ⟨by rw [mst_i (by decide), mst_at], mst_at _ _ _ _, Or.inl rfl⟩
  have hM : f_M_counts N 2 c2 = _ := M_counts (key := 2) hT1 (by rw [e92]; exact hT2) (by omega)
  rw [e92] at hM
  have hl2 := M_law (c := m) (mem := mst (mst c2 103 0 (m 92 2)) 103 1 (m 92 4)) hT1 (by rw [e9]; exact hT2) (by rw [e9]; exact hT3) (key := 2) (by decide) (m 92 2) (m 92 4) 0 (N := N) (by omega) hf
  rw [e9] at hl2
  rcases hl2 with ⟨l1, l2⟩ | ⟨t2, v, m2, l1, l2, l3, l4, l5⟩
  · refine ⟨_, c2, mst (mst c2 103 0 (m 92 2)) 103 1 (m 92 4), rfl, ?_, g.scr (ct.tr eF)⟩
    rw [hM, bp_some, lt_eq, lt_eq, ixc_0, ixc_1, ixc_2, ixc_4, e92, mst_ck (k2 := 92) (by omega), e92, e9, l1, if_neg (by decide), l2]
    rfl
  · refine ⟨_, c2, m2, rfl, ?_, g.scr ((ct.tr eF).tr (fun k hk => l5 k (fun e => hk (by unfold scrC; omega))))⟩
    rw [hM, bp_some, lt_eq, lt_eq, ixc_0, ixc_1, ixc_2, ixc_4, e92, mst_ck (k2 := 92) (by omega), e92, l1]
    show (if 0 ≤ nI t2 then _ else _) = _
    rw [if_pos (l_le (n := 0) (by omega) (by omega)), l4, bd_some, l3]
    rfl
-- deal
def aDw (r : Row) : Row := upd r 0 (aZ r)
def aDl (r : Row) (M : Nat) : Row := aAdd (aDw (aDw (aDw r))) M (nI (aD r % 6)) (nI (1 + aD (aDw r) % 20)) (nI (aD (aDw (aDw r)) % 6))
theorem aDw_inv {r0 r : Row} (h : RW r0 r) : RW r0 (aDw r) := ⟨h.1.free (Or.inl rfl) _, (pk_un (by decide)).trans h.2.1, fun j hj => (pk_un (by omega)).trans (h.2.2 j hj)⟩
theorem aDl_inv {r0 r : Row} (h : RW r0 r) {M : Nat} (hM : M < 10) : RW r0 (aDl r M) ∧ aDl r M 1 = nI (M + 1) ∧ aDl r M 2 = r 2 ∧ aDl r M 5 = r 5 := by
  have h3 := aDw_inv (aDw_inv (aDw_inv h))
  have q1 : 1 + aD (aDw r) % 20 ≤ 99 := by omega
  have q2 : aD (aDw (aDw r)) % 6 < 6 := Nat.mod_lt _ (by decide)
  obtain ⟨a1, a2, a3, a4, a5⟩ := aAdd_inv h3.1 hM (nI (aD r % 6)) q1 q2
  refine ⟨⟨a1, a2.trans h3.2.1, fun j hj => (a5 j hj).trans (h3.2.2 j hj)⟩, by unfold aDl aAdd; exact pk_us, a3.trans ?_, a4.trans ?_⟩
  · show upd (upd (upd r 0 _) 0 _) 0 _ 2 = _
    rw [pk_un (by decide), pk_un (by decide), pk_un (by decide)]
  · show upd (upd (upd r 0 _) 0 _) 0 _ 5 = _
    rw [pk_un (by decide), pk_un (by decide), pk_un (by decide)]
theorem P_dm {p : Nat} {c : Mm} {r : Row} (hp : isP p) (hE : Eqv p c r) {M : Nat} (hM : M < 10) (eM : r 1 = nI M) : ∃ c2, f_P_drawMonk p c = some c2 ∧ Eqv p c2 (aDl r M) ∧ PF p c c2 := by
  have hg := hp.g
  have d1 := aD_lt r
  have d2 := aD_lt (aDw r)
  have d3 := aD_lt (aDw (aDw r))
  have hE1 : Eqv p (mst c p 17 (aZ r)) (aDw r) := u_z hE _
  have hE2 : Eqv p (mst (mst c p 17 (aZ r)) p 17 (aZ (aDw r))) (aDw (aDw r)) := u_z hE1 _
  have hE3 : Eqv p (mst (mst (mst c p 17 (aZ r)) p 17 (aZ (aDw r))) p 17 (aZ (aDw (aDw r)))) (aDw (aDw (aDw r))) := u_z hE2 _
  have hF3 : PF p c (mst (mst (mst c p 17 (aZ r)) p 17 (aZ (aDw r))) p 17 (aZ (aDw (aDw r)))) := ((PF.rf.put p 17 _ ⟨by omega, by omega, by omega⟩ (Or.inr (by decide))).put p 17 _ ⟨by omega, by omega, by omega⟩ (Or.inr (by decide))).put p 17 _ ⟨by omega, by omega, by omega⟩ (Or.inr (by decide))
  have e1 : aDw (aDw (aDw r)) 1 = nI M := by
    show upd (upd (upd r 0 _) 0 _) 0 _ 1 = _
    rw [pk_un (by decide), pk_un (by decide), pk_un (by decide)]; exact eM
  obtain ⟨c2, w1, w2, w3⟩ := P_add hp hE3 hM e1 (nI (aD r % 6)) (nI (1 + aD (aDw r) % 20)) (nI (aD (aDw (aDw r)) % 6))
  refine ⟨c2, ?_, w2, hF3.tr w3⟩
  unfold f_P_drawMonk
  rw [P_draw hE, bd_some, lt_eq, P_draw hE1, bd_some, lt_eq, P_draw hE2, bd_some, lt_eq, rem_nI (d := 6) (by omega) (by decide) (by decide), rem_nI (d := 20) (by omega) (by decide) (by decide), rem_nI (d := 6) (by omega) (by decide) (by decide), add1, w1, bd_some]
theorem M_dm {m : Mm} {M : Nat} (hM : M < 10) (eM : m 92 1 = nI M) {α : Type} (K : Mm → Option α) : ∃ m2, (bd (f_M_draw m) fun r_32 m_32 => lt (r_32 - r_32 / 6 * 6) fun x_38 => bd (f_M_draw m_32) fun r_41 m_41 => lt (1 + (r_41 - r_41 / 20 * 20)) fun x_48 => bd (f_M_draw m_41) fun r_55 m_55 => bd (f_M_comes x_38 x_48 (r_55 - r_55 / 6 * 6) m_55) fun r_61 m_61 => K m_61) = K m2 ∧ m2 92 = aDl (m 92) M ∧ MF m m2 := by
  have d1 := aD_lt (m 92)
  have d2 := aD_lt (aDw (m 92))
  have d3 := aD_lt (aDw (aDw (m 92)))
  have r1 : mst m 92 0 (aZ (m 92)) 92 = aDw (m 92) := mst_row _ _ _ _
  rw [M_draw, bd_some, lt_eq, M_draw, bd_some, lt_eq, M_draw, bd_some, r1]
  have r2 : mst (mst m 92 0 (aZ (m 92))) 92 0 (aZ (aDw (m 92))) 92 = aDw (aDw (m 92)) := by rw [mst_row, r1]; rfl
  rw [r2]
  have r3 : mst (mst (mst m 92 0 (aZ (m 92))) 92 0 (aZ (aDw (m 92)))) 92 0 (aZ (aDw (aDw (m 92)))) 92 = aDw (aDw (aDw (m 92))) := by rw [mst_row, r2]; rfl
  have f3 : MF m (mst (mst (mst m 92 0 (aZ (m 92))) 92 0 (aZ (aDw (m 92)))) 92 0 (aZ (aDw (aDw (m 92))))) := ((MF.rf.put _ _).put _ _).put _ _
  have e1 : aDw (aDw (aDw (m 92))) 1 = nI M := by
    show upd (upd (upd (m 92) 0 _) 0 _) 0 _ 1 = _
    rw [pk_un (by decide), pk_un (by decide), pk_un (by decide)]; exact eM
  obtain ⟨m2, w1, w2, w3⟩ := M_add (m := mst (mst (mst m 92 0 (aZ (m 92))) 92 0 (aZ (aDw (m 92)))) 92 0 (aZ (aDw (aDw (m 92))))) hM (by rw [r3]; exact e1) (nI (aD (m 92) % 6)) (nI (1 + aD (aDw (m 92)) % 20)) (nI (aD (aDw (aDw (m 92))) % 6))
  refine ⟨m2, ?_, by rw [w2, r3]; rfl, f3.tr w3⟩
  rw [rem_nI (d := 6) (by omega) (by decide) (by decide), rem_nI (d := 20) (by omega) (by decide) (by decide), rem_nI (d := 6) (by omega) (by decide) (by decide), add1, w1, bd_some]
def aDs (r : Row) (M : Nat) : Nat → Row
  | 0 => r
  | i + 1 => aDl (aDs r M i) (M + i)
theorem aDs_inv {r : Row} (h : RW r r) {M : Nat} (eM : r 1 = nI M) : ∀ i, M + i ≤ 10 → RW r (aDs r M i) ∧ aDs r M i 1 = nI (M + i) ∧ aDs r M i 2 = r 2 ∧ aDs r M i 5 = r 5
  | 0, _ => ⟨h, eM, rfl, rfl⟩
  | i + 1, hi => by
    obtain ⟨a1, a2, a3, a4⟩ := aDs_inv h eM i (by omega)
    obtain ⟨b1, b2, b3, b4⟩ := aDl_inv a1 (M := M + i) (by omega)
    exact ⟨b1, b2, b3.trans a3, b4.trans a4⟩
theorem S_deL {r : Row} {M k : Nat} (hr : RW r r) (eM : r 1 = nI M) (hk : M + k ≤ 10) (b1 : Int32) : ∀ (d i F : Nat) (c : Mm), i + d = k → d < F → Eqv 38 c (aDs r M i) → ∃ c2, f_S_deal_L30 F b1 (nI k) (nI i) c = some (nI k, c2) ∧ Eqv 38 c2 (aDs r M k) ∧ PF 38 c c2
  | 0, i, F, c, h, hF, hE => by
    obtain ⟨F, rfl⟩ : ∃ f, F = f + 1 := ⟨F - 1, by omega⟩
    have : i = k := by omega
    subst this
    exact ⟨c, by rw [f_S_deal_L30, if_pos (nI_le (Nat.le_refl _) (by omega))], hE, PF.rf⟩
  | d + 1, i, F, c, h, hF, hE => by
    obtain ⟨F, rfl⟩ : ∃ f, F = f + 1 := ⟨F - 1, by omega⟩
    obtain ⟨a1, a2, a3, a4⟩ := aDs_inv hr eM i (by omega)
    obtain ⟨c1, w1, w2, w3⟩ := P_dm (Or.inl rfl) hE (M := M + i) (by omega) a2
    rw [f_S_deal_L30, if_neg (nI_ge (by omega) (by omega)), w1, bp_some, nI_1]
    obtain ⟨c2, u1, u2, u3⟩ := S_deL hr eM hk b1 d (i + 1) F c1 (by omega) (by omega) w2
    exact ⟨c2, u1, u2, w3.tr u3⟩
theorem M_deL {r : Row} {M k n : Nat} (hr : RW r r) (eM : r 1 = nI M) (hk : k = min n (10 - M)) (hM : M ≤ 10) (hn : n ≤ 10) : ∀ (d i F : Nat) (m : Mm), i + d = k → d < F → m 92 = aDs r M i → ∃ m2, f_M_deal_L15 F (nI n) (nI i) m = some (nI k, m2) ∧ m2 92 = aDs r M k ∧ MF m m2
  | 0, i, F, m, h, hF, h9 => by
    obtain ⟨F, rfl⟩ : ∃ f, F = f + 1 := ⟨F - 1, by omega⟩
    have hi : i = k := by omega
    obtain ⟨a1, a2, a3, a4⟩ := aDs_inv hr eM i (by omega)
    refine ⟨m, ?_, by rw [h9, hi], MF.rf⟩
    rw [f_M_deal_L15, ixc_1, h9, a2, hi]
    by_cases q : n ≤ k
    · rw [if_pos (nI_le q (by omega))]
    · rw [if_neg (nI_ge (by omega) (by omega)), if_pos (l_le (n := 10) (by omega) (by omega))]
  | d + 1, i, F, m, h, hF, h9 => by
    obtain ⟨F, rfl⟩ : ∃ f, F = f + 1 := ⟨F - 1, by omega⟩
    obtain ⟨a1, a2, a3, a4⟩ := aDs_inv hr eM i (by omega)
    obtain ⟨m1, w1, w2, w3⟩ := M_dm (m := m) (M := M + i) (by omega) (by rw [h9]; exact a2) (fun m_61 => f_M_deal_L15 F (nI n) (nI i + 1) m_61)
    rw [f_M_deal_L15, if_neg (nI_ge (by omega) (by omega)), ixc_1, h9, a2, if_neg (l_ge (n := 10) (by omega) (by decide))]
    obtain ⟨m2, u1, u2, u3⟩ := M_deL hr eM hk hM hn d (i + 1) F m1 (by omega) (by omega) (by rw [w2, h9]; rfl)
    refine ⟨m2, ?_, u2, w3.tr u3⟩
    refine Eq.trans w1 ?_
    rw [nI_1]
    exact u1
theorem ok_deal {m : Mm} (g : Good m) (a : Int32) {N : Nat} (hN : 500 ≤ N) : Ok2 (f_S_deal N a) (f_M_deal N a) m := by
  unfold Ok2 f_S_deal f_M_deal
  rcases wi_cases a (lo := 1) (hi := 10) (by decide) (by decide) with ⟨n, h1, h2, rfl, t1, t2⟩ | ⟨t1, t2⟩
  case inr => exact ⟨_, m, m, by rw [show f_S_within a 1 10 = _ from t1, bp_some, if_pos rfl], by rw [show f_M_in a 1 10 = _ from t2, bp_some, if_pos rfl], g⟩
  obtain ⟨M, hM, eM⟩ := g.1.1.2.2.2.1
  have e4 : m 38 4 = nI M := (e_monks g.1.1.1).trans eM
  have hs : (10 : Int32) - nI M = nI (10 - M) := pk_sub (a := 10) hM
  have em : (if nI (10 - M) < nI n then nI (10 - M) else nI n) = nI (min n (10 - M)) := by
    by_cases q : 10 - M < n
    · rw [if_pos (nI_lt q (by omega))]; congr 1; omega
    · rw [if_neg (nI_nlt (by omega) (by omega))]; congr 1; omega
  rw [show f_S_within (nI n) 1 10 = _ from t1, bp_some, if_neg nz1, e4, hs, em, lt_eq]
  obtain ⟨c2, w1, w2, w3⟩ := S_deL (RW.rf g) eM (k := min n (10 - M)) (by omega) (nI n) (min n (10 - M)) 0 N m (by omega) (by omega) g.1.1.1
  have e92 : c2 92 = m 92 := w3.1 92 (by omega) (by omega)
  obtain ⟨m2, v1, v2, v3⟩ := M_deL (RW.rf g) eM (k := min n (10 - M)) rfl hM h2 (min n (10 - M)) 0 N c2 (by omega) (by omega) e92
  rw [show f_S_deal_L30 N (nI n) (nI (min n (10 - M))) 0 m = _ from w1, bd_some]
  obtain ⟨a1, a2, a3, a4⟩ := aDs_inv (RW.rf g) eM (min n (10 - M)) (by omega)
  refine ⟨_, c2, m2, rfl, ?_, g.now w3 w2 v3 v2 a1.1 (g.1.2.1.cg a3 a4) a1.2.1 a1.2.2⟩
  rw [show f_M_in (nI n) 1 10 = _ from t2, bp_some, if_neg nz1, show f_M_deal_L15 N (nI n) 0 c2 = _ from v1, bd_some]
