/-! PURE: a text read to its end -/
theorem RL_bad {N o : Nat} (hN : 1 ≤ N) {c : Mm} (h : ¬ c 2 5 = (-1)) : ∀ (n l : Nat) (b3 b4 : Int32), l ≤ 5 → 7 ≤ n + l → (f_rd N n).1 o (nI l) b3 b4 c = some c
  | 0, l, b3, b4, hl, hn => by omega
  | n + 1, l, b3, b4, hl, hn => by
    show f_T_readLevelF (f_rd N n).1 (f_rd N n).2 N o (nI l) b3 b4 c = some c
    unfold f_T_readLevelF
    by_cases h4 : l ≤ 4
    · rw [if_pos (r_le (n := 4) h4 (by decide)), nI_1, RL_bad hN h n (l + 1) b3 b4 (by omega) (by omega), bp_some, lt_eq, LV_bad hN h, bd_some]
    · rw [if_neg (r_ge (n := 4) (by omega) (by omega))]
      obtain ⟨n, rfl⟩ : ∃ f, n = f + 1 := ⟨n - 1, by omega⟩
      have e : (f_rd N (n + 1)).2 o b3 b4 c = some c := by
        show f_T_readPieceF (f_rd N n).1 (f_rd N n).2 N o b3 b4 c = some c
        unfold f_T_readPieceF
        rw [if_neg h]
      rw [e, bp_some]
def ctail (c : Mm) : Option (Int32 × Mm) := bp (f_T_here c) fun r_37 => if r_37 = (-1) then lt (mst c 2 0 0) fun m_50 => some (m_50 2 5, m_50) else bp (f_T_fail c) fun m_45 => lt (mst m_45 2 0 0) fun m_50 => some (m_50 2 5, m_50)
section RDE
variable {B : Nat → Nat} {L o key N : Nat}
theorem ct_bad (hL : L ≤ 96) {c : Mm} (cb : CB B L c) {F : Nat} (hF : F ≤ L) (e2 : c 2 2 = nI F) (e5 : c 2 5 = nI F) : ctail c = some (nI F, mst c 2 0 0) := by
  unfold ctail
  have e : f_T_fail c = some c := by
    unfold f_T_fail
    rw [if_neg (by rw [e5]; exact nI_m1 (by omega))]
  have e3 : mst c 2 0 0 2 5 = nI F := by rw [mst_i (by decide)]; exact e5
  rw [T_here cb hL hF e2, bp_some, e, bp_some, lt_eq, e3]
  exact ite_self _
theorem ct_ok (hL : L ≤ 96) {c : Mm} (cb : CB B L c) {F : Nat} (hF : F = L) (e2 : c 2 2 = nI F) (e5 : c 2 5 = (-1)) : ctail c = some (-1, mst c 2 0 0) := by
  unfold ctail
  rw [T_here cb hL (by omega) e2, if_neg (by omega), bp_some, if_pos rfl, lt_eq, mst_i (by decide), e5]
theorem ct_more (hL : L ≤ 96) (hB : ∀ j, j < L → B j < 256) {c : Mm} (cb : CB B L c) {F : Nat} (hF : F < L) (e2 : c 2 2 = nI F) (e5 : c 2 5 = (-1)) : ctail c = some (nI F, mst (mst c 2 5 (nI F)) 2 0 0) := by
  unfold ctail
  have := hB F hF
  rw [T_here cb hL (by omega) e2, if_pos hF, bp_some, if_neg (nI_m1 (by omega)), T_fail e5 e2, bp_some, lt_eq, mst_i (by decide), mst_at]
theorem READ (hL : L ≤ 96) (hB : ∀ j, j < L → B j < 256) (hN : 500 ≤ N) (ho : 7 ≤ o) (hk : key < 3) {c m : Mm} {F T : Nat} {st : Bool} (hj : Jn B L o key c m F T st [] [] [] 0) (ht : m 101 0 = 0) : ∃ r c3 w m3, (bp (f_T_readLevel N o 0 0 0 c) fun m_33 => ctail m_33) = some (r, c3) ∧ f_M_takesE_L28 N N 0 0 1 m = some (w, m3) ∧ (∀ k, k ≠ 2 → k ≠ o → k ≠ o + 1 → c3 k = c k) ∧ c3 2 0 = 0 ∧ MFr m m3 ∧ ((r = (-1) ∧ w = 1 ∧ ∃ X a, VX key X ∧ XS c3 o X a key ∧ MZ m3 X [] a key ∧ X.length ≤ 96) ∨ (∃ Fe, Fe ≤ 96 ∧ r = nI Fe ∧ w = 0 ∧ m3 91 9 = nI Fe)) := by
  have hFL := hj.F
  have c0 : cN [] = 0 := rfl
  have hih := (RD hL hB hN ho hk MD).1 0 c m F T st [] [] 0 0 N (by omega) hj (Or.inl rfl) (by rw [c0]; omega) (by omega) (by rw [c0]; decide) (by omega) (Or.inl ht) (fun _ => ht)
  unfold f_T_readLevel
  rcases hih with ⟨c5, m5, F3, T3, st3, X2, R2, S2, a2, fu2, v1, v2, v3, v4, v5, v6, v7, v8, v9, v10, v11, v12, v13, v14⟩ | ⟨c5, m5, Fe, k2, v1, v2, v3, v4, v5, v6, v7, v8, v9⟩
  · have v1' : (f_rd N MD).1 o 0 0 0 c = some c5 := v1
    have v2' : f_M_takesE_L28 N N 0 0 1 m = f_M_takesE_L28 N fu2 (nI 0) (nI (cN [])) 0 m5 := v2
    rw [v1', bp_some, v2']
    have f3 := v3.F
    obtain ⟨fu2, rfl⟩ : ∃ f, fu2 = f + 1 := ⟨fu2 - 1, by omega⟩
    obtain ⟨m6, w1, w2, w3, w4⟩ := R_end (fu := fu2) (b2 := nI (cN [])) hL hB hN v3 (by omega) (Or.inl rfl) (fun x hx => (v7 x hx).1) (fun _ _ => rfl) v8
    rw [w1]
    have lc := v3.lc
    by_cases q : F3 = L
    · rw [if_pos ⟨q, rfl⟩, ct_ok hL v3.cb q v3.cs.1 v3.c5]
      refine ⟨_, _, _, _, rfl, rfl, fun k k1 k2 k3 => by rw [mst_ck k1]; exact v12.1 k k1 k2 k3, mst_at _ _ _ _, v13.tr w3, Or.inl ⟨rfl, rfl, X2, a2, v14, ?_, ?_, ?_⟩⟩
      · obtain ⟨y1, y2, y3, y4⟩ := v3.xs
        exact ⟨by rw [mst_ck (by omega)]; exact y1, by rw [mst_ck (by omega)]; exact y2, by rw [mst_ck (by omega)]; exact y3, fun j hj => by rw [mst_ck (by omega)]; exact y4 j hj⟩
      · have := w4 q
        rw [← v4] at this
        exact this
      · have lc : X2.length ≤ F3 := lc
        omega
    · rw [if_neg (fun z => q z.1), ct_more hL hB v3.cb (by omega) v3.cs.1 v3.c5]
      exact ⟨_, _, _, _, rfl, rfl, fun k k1 k2 k3 => by rw [mst_ck k1, mst_ck k1]; exact v12.1 k k1 k2 k3, mst_at _ _ _ _, v13.tr w3, Or.inr ⟨F3, by omega, rfl, rfl, w2⟩⟩
  · have v1' : (f_rd N MD).1 o 0 0 0 c = some c5 := v1
    have v2' : f_M_takesE_L28 N N 0 0 1 m = some (0, m5) := v2
    have cb : CB B L c5 := ⟨v8.2.trans hj.cb.1, fun j hj2 => by rw [v8.1 3 (by omega) (by omega) (by omega)]; exact hj.cb.2 j hj2⟩
    rw [v1', bp_some, v2', ct_bad hL cb v5 v3.2 v3.1]
    exact ⟨_, _, _, _, rfl, rfl, fun k k1 k2 k3 => by rw [mst_ck k1]; exact v8.1 k k1 k2 k3, mst_at _ _ _ _, v9, Or.inr ⟨Fe, by omega, rfl, rfl, v4⟩⟩
/-- the reference's text, once it is read -/
def mtail (N : Nat) (m_36 : Mm) : Option (Int32 × Mm) := if m_36 92 (ix 6) = 14 then some ((-1000000003), m_36) else lt (m_36 92 (ix 6)) fun x_73 => if inb (64 + (2 * x_73)) 1436 = true then lt (mst m_36 92 (ix (64 + (2 * x_73))) ((1000 * (m_36 91 13)) + (m_36 91 17))) fun m_97 => if inb ((64 + (2 * x_73)) + 1) 1436 = true then lt (mst m_97 92 (ix ((64 + (2 * x_73)) + 1)) (m_97 91 18)) fun m_114 => bd (f_M_text_L117 N 1 x_73 0 m_114) fun y_117 m_117 => lt (mst m_117 92 (ix 6) ((m_117 92 (ix 6)) + 1)) fun m_161 => some (x_73, m_161) else none else none
/-- all but the cells of reading -/
def M91 (m m2 : Mm) : Prop := (∀ k, k ≠ 91 → k ≠ 99 → k ≠ 100 → k ≠ 101 → m2 k = m k) ∧ ∀ i, i < 7 ∨ 20 < i → m2 91 i = m 91 i
theorem INTO (hL : L ≤ 96) (hB : ∀ j, j < L → B j < 256) (hN : 500 ≤ N) (ho : 7 ≤ o) {c m : Mm} (hc : CB B L c) (hm : RB B L m) (gk : GKey m) : ∃ r c3 m3, f_T_readInto N o c = some (r, c3) ∧ (∀ k, k ≠ 2 → k ≠ o → k ≠ o + 1 → c3 k = c k) ∧ c3 2 0 = 0 ∧ M91 m m3 ∧ m3 91 7 = 0 ∧ ((r = (-1) ∧ f_M_text N m = mtail N m3 ∧ ∃ key X a, key < 3 ∧ VX key X ∧ XS c3 o X a key ∧ MZ m3 X [] a key ∧ X.length ≤ 96) ∨ (∃ Fe, Fe ≤ 96 ∧ r = nI Fe ∧ f_M_text N m = some ((-100) - nI Fe, m3))) := by
  -- the class begins
  have ec : ∃ c0, (∃ K : Mm → Option (Int32 × Mm), f_T_readInto N o c = bp (f_T_step N c0) K ∧ ∀ x, K x = bp (f_T_readKey N o x) fun m_25 => bp (f_T_readLevel N o 0 0 0 m_25) fun m_33 => ctail m_33) ∧ c0 2 2 = nI 0 ∧ c0 2 3 = nI 0 ∧ c0 2 5 = (-1) ∧ c0 o 1 = 0 ∧ c0 o 2 = 0 ∧ CB B L c0 ∧ ∀ k, k ≠ 2 → k ≠ o → k ≠ o + 1 → c0 k = c k := by
    unfold f_T_readInto f_X_clear
    rw [lt_eq, lt_eq, bp_some, lt_eq, lt_eq, lt_eq]
    refine ⟨_, ⟨_, rfl, fun x => rfl⟩, by rw [mst_i (by decide), mst_i (by decide), mst_at]; rfl, by rw [mst_i (by decide), mst_at]; rfl, mst_at _ _ _ _, by rw [mst_ck (by omega), mst_ck (by omega), mst_ck (by omega), mst_at], by rw [mst_ck (by omega), mst_ck (by omega), mst_ck (by omega), mst_i (by decide), mst_at], ⟨?_, fun j hj => ?_⟩, fun k k1 k2 k3 => ?_⟩
    · rw [mst_i (by decide), mst_i (by decide), mst_i (by decide), mst_ck (by omega), mst_ck (by omega)]; exact hc.1
    · rw [mst_ck (by omega), mst_ck (by omega), mst_ck (by omega), mst_ck (by omega), mst_ck (by omega)]; exact hc.2 j hj
    · rw [mst_ck k1, mst_ck k1, mst_ck k1, mst_ck k2, mst_ck k2]
  obtain ⟨c0, ⟨K, eK, hK⟩, a1, a2, a3, a4, a5, a6, a7⟩ := ec
  obtain ⟨c1, F, T, u1, u2, u3, u4⟩ := T_step hL hB a6 (Nat.zero_le _) (Nat.zero_le _) a1 a2 hN
  rw [decide_eq_false (show ¬ (0 < 0) by omega), Bool.false_and] at u3
  rw [eK, u1, bp_some, hK]
  have cb1 := a6.tf u4
  have e5 : c1 2 5 = (-1) := (u4.2 5 (by omega) (by omega) (by omega)).trans a3
  have co : ∀ k, k ≠ 2 → c1 k = c0 k := u4.1
  -- the reference begins
  have g0 : GF m (mst (mst m 91 8 0) 91 12 (-1)) := (GF.rf.put 8 _ (by omega)).put 12 _ (by omega)
  obtain ⟨m1, F', T', w1, w2, w3, w4⟩ := M_go (p := 0) (w := false) hL hB (hm.gf g0) (Nat.zero_le _) ⟨by rw [mst_i (by decide), mst_at]; rfl, fun z => absurd z (by decide), fun _ => Or.inl (mst_at _ _ _ _)⟩ hN
  obtain ⟨eF, eT⟩ := u2.uq w2
  subst eF
  subst eT
  rw [Bool.false_and] at w3
  have g1 : GF m m1 := g0.tr w4
  have rb1 := hm.gf g1
  have gk1 : GKey m1 := gk.cg (g1.1 97 (by decide)) (g1.1 98 (by decide))
  have htk := u2.T
  have hFT : F ≤ T := by
    by_cases q : F < L
    · exact Nat.le_of_lt (htk.2.2.2 q)
    · have : F = L := by omega
      rw [u2.2.1 this, this]; exact Nat.le_refl _
  have mt : f_M_text N m = bd (f_M_takesKey N m1) fun r_15 m_15 => if r_15 = 0 then lt (mst m_15 91 7 0) fun m_36 => some ((-100) - (m_36 91 9), m_36) else bd (f_M_takesE N m_15) fun r_22 m_22 => if r_22 = 0 then some ((-100) - (m_22 91 9), mst m_22 91 7 0) else mtail N (mst m_22 91 7 0) := by
    unfold f_M_text
    rw [lt_eq, lt_eq, w1, bp_some]
    congr 1
    funext r_15 m_15
    congr 1
    congr 1
    funext r_22 m_22
    rw [lt_eq, lt_eq]
    by_cases z : r_22 = 0
    · rw [if_pos z, if_pos rfl, if_pos z, mst_i (by decide)]
    · rw [if_neg z, if_neg nz1, if_neg z]
      rfl
  rw [mt]
  obtain ⟨k1, k2⟩ := M_key hL hB rb1 gk1 w3 hFT htk.2.2.1 hN
  rcases T_key (o := o) hL hB cb1 hFT htk.2.2.1 u3.1 u3.2.1 e5 hN with ⟨k, hk, hw, e⟩ | ⟨hn, e⟩
  · rw [e, k1 k hk hw]
    have hF : F < L := by have := hw.1; omega
    have cb2 : CB B L (mst c1 o 0 (nI k)) := ⟨by rw [mst_ck (by omega)]; exact cb1.1, fun j hj => by rw [mst_ck (by omega)]; exact cb1.2 j hj⟩
    have cs2 : CS (mst c1 o 0 (nI k)) F T false := ⟨by rw [mst_ck (by omega)]; exact u3.1, by rw [mst_ck (by omega)]; exact u3.2.1, by rw [mst_ck (by omega)]; exact u3.2.2⟩
    have rb2 : RB B L (mst m1 91 13 (nI k)) := rb1.cg (mst_i (by decide)) (mst_ck (by decide))
    have rs2 : RS B L (mst m1 91 13 (nI k)) F T false := w3.cg (fun i h1 h2 => mst_i (by omega))
    obtain ⟨c2, m2, F2, T2, st2, p1, p2, p3, p4, p5, p6, p7, p8⟩ := J_step hL hB cb2 rb2 u2 hF cs2 rs2 hN
    rw [p1, p2, bp_some, bp_some, bd_some, if_neg nz1]
    have te : f_M_takesE N m2 = f_M_takesE_L28 N N 0 0 1 (mst (mst (mst (mst m2 91 17 0) 91 18 0) 91 20 0) 101 0 0) := by
      unfold f_M_takesE
      rw [lt_eq, lt_eq, lt_eq, ixc_0, lt_eq]
    rw [te]
    have e13 : m2 91 13 = nI k := (p7.2 13 (by omega) (by omega) (by omega) (by omega) (by omega)).trans (mst_at _ _ _ _)
    have co2 : c2 o = mst c1 o 0 (nI k) o := p6.1 o (by omega)
    have hj : Jn B L o k c2 (mst (mst (mst (mst m2 91 17 0) 91 18 0) 91 20 0) 101 0 0) F2 T2 st2 [] [] [] 0 := by
      refine ⟨cb2.tf p6, p3, (p6.2 5 (by omega) (by omega) (by omega)).trans (by rw [mst_ck (by omega)]; exact e5), ⟨?_, ?_, ?_, fun j hj => absurd hj (Nat.not_lt_zero j)⟩, (rb2.gf p7).cg ?_ ?_, p4.cg (fun i h1 h2 => ?_), ⟨?_, fun j hj => absurd hj (Nat.not_lt_zero j), ?_, fun j hj => absurd hj (Nat.not_lt_zero j), ?_, ?_⟩, ⟨T, p5⟩, Nat.zero_le _, Nat.zero_le _⟩
      · rw [co2, mst_at]
      · rw [co2, mst_i (by decide), co o (by omega), a4]; rfl
      · rw [co2, mst_i (by decide), co o (by omega), a5]; rfl
      · rw [mst_ck (by decide), mst_i (by decide), mst_i (by decide), mst_i (by decide)]
      · rw [mst_ck (by decide), mst_ck (by decide), mst_ck (by decide), mst_ck (by decide)]
      · rw [mst_ck (by decide), mst_i (by omega), mst_i (by omega), mst_i (by omega)]
      · rw [mst_ck (by decide), mst_i (by decide), mst_i (by decide), mst_at]; rfl
      · rw [mst_ck (by decide), mst_at]; rfl
      · rw [mst_ck (by decide), mst_i (by decide), mst_at]; rfl
      · rw [mst_ck (by decide), mst_i (by decide), mst_i (by decide), mst_i (by decide)]; exact e13
    obtain ⟨r, c3, w, m3, q1, q2, q3, q4, q5, q6⟩ := READ hL hB hN ho hk hj (mst_at _ _ _ _)
    rw [q1, q2, bd_some]
    have fr : M91 m m3 := by
      constructor
      · intro k h1 h2 h3 h4
        rw [q5.1 k h1 h2 h3 h4, mst_ck h4, mst_ck h1, mst_ck h1, mst_ck h1, p7.1 k h1, mst_ck h1, g1.1 k h1]
      · intro i hi
        rw [q5.2 i (by omega) (by omega) (by omega) (by omega) (by omega) (by omega) (by omega) (by omega), mst_ck (by decide), mst_i (by omega), mst_i (by omega), mst_i (by omega), p7.2 i (by omega) (by omega) (by omega) (by omega) (by omega), mst_i (by omega), g1.2 i (by omega) (by omega) (by omega) (by omega) (by omega)]
    have fr2 : M91 m (mst m3 91 7 0) := ⟨fun k h1 h2 h3 h4 => by rw [mst_ck h1]; exact fr.1 k h1 h2 h3 h4, fun i hi => by rw [mst_i (by omega)]; exact fr.2 i hi⟩
    have fc : ∀ k, k ≠ 2 → k ≠ o → k ≠ o + 1 → c3 k = c k := fun k h1 h2 h3 => by rw [q3 k h1 h2 h3, p6.1 k h1, mst_ck h2, co k h1, a7 k h1 h2 h3]
    rcases q6 with ⟨z1, z2, X, a, y1, y2, y3, y4⟩ | ⟨Fe, y1, y2, y3, y4⟩
    · refine ⟨r, c3, mst m3 91 7 0, rfl, fc, q4, fr2, mst_at _ _ _ _, Or.inl ⟨z1, by rw [z2, if_neg nz1], k, X, a, hk, y1, y2, ?_, y4⟩⟩
      obtain ⟨x1, x2, x3, x4, x5, x6⟩ := y3
      exact ⟨by rw [mst_i (by decide)]; exact x1, by rw [mst_ck (by decide)]; exact x2, by rw [mst_i (by decide)]; exact x3, by rw [mst_ck (by decide)]; exact x4, by rw [mst_i (by decide)]; exact x5, by rw [mst_i (by decide)]; exact x6⟩
    · exact ⟨r, c3, mst m3 91 7 0, rfl, fc, q4, fr2, mst_at _ _ _ _, Or.inr ⟨Fe, y1, y2, by rw [y3, if_pos rfl, y4]⟩⟩
  · rw [e, k2 hn, bp_some, bd_some, if_pos rfl, lt_eq]
    have n5 : ¬ mst c1 2 5 (nI F) 2 5 = (-1) := by rw [mst_at]; exact nI_m1 (by omega)
    have cb2 : CB B L (mst c1 2 5 (nI F)) := ⟨by rw [mst_i (by decide)]; exact cb1.1, fun j hj => by rw [mst_ck (by decide)]; exact cb1.2 j hj⟩
    have rl : f_T_readLevel N o 0 0 0 (mst c1 2 5 (nI F)) = some (mst c1 2 5 (nI F)) := RL_bad (by omega) n5 MD 0 0 0 (by omega) (by decide)
    rw [rl, bp_some, ct_bad hL cb2 htk.2.1 (by rw [mst_i (by decide)]; exact u3.1) (mst_at _ _ _ _)]
    refine ⟨_, _, mst m1 91 7 0, rfl, fun k h1 h2 h3 => by rw [mst_ck h1, mst_ck h1, co k h1, a7 k h1 h2 h3], mst_at _ _ _ _, ⟨fun k h1 h2 h3 h4 => by rw [mst_ck h1, g1.1 k h1], fun i hi => by rw [mst_i (by omega), g1.2 i (by omega) (by omega) (by omega) (by omega) (by omega)]⟩, mst_at _ _ _ _, Or.inr ⟨F, by omega, rfl, ?_⟩⟩
    rw [mst_i (by decide), w3.1]
end RDE
