/-! PURE: text -/
theorem M_tL {f : Nat → Int32} {T n : Nat} (hT : T < 14) (hn : n ≤ 96) (b1 : Int32) : ∀ (d k F : Nat) (m : Mm), k + d = n → d < F → m 91 17 = nI n → m 99 = f → (∀ j, j < k → m 92 (92 + 96 * T + j) = f j) → ∃ y m2, f_M_text_L117 F b1 (nI T) (nI k) m = some (y, m2) ∧ (∀ j, j < n → m2 92 (92 + 96 * T + j) = f j) ∧ (∀ q, q ≠ 92 → m2 q = m q) ∧ ∀ i, ¬ (92 + 96 * T ≤ i ∧ i < 92 + 96 * T + 96) → m2 92 i = m 92 i
  | 0, k, F, m, h, hF, e17, e99, hj => by
    obtain ⟨F, rfl⟩ : ∃ f, F = f + 1 := ⟨F - 1, by omega⟩
    have : k = n := by omega
    subst this
    exact ⟨_, m, by rw [f_M_text_L117, e17, if_pos (nI_le (Nat.le_refl _) (by omega))], hj, fun _ _ => rfl, fun _ _ => rfl⟩
  | d + 1, k, F, m, h, hF, e17, e99, hj => by
    obtain ⟨F, rfl⟩ : ∃ f, F = f + 1 := ⟨F - 1, by omega⟩
    have ei : (92 + 96 * nI T) + nI k = nI (92 + 96 * T + k) := by
      rw [show (92 : Int32) = nI 92 from rfl, show (96 : Int32) = nI 96 from rfl, pk_mul, nI_add, nI_add]
    rw [f_M_text_L117, e17, if_neg (nI_ge (by omega) (by omega)), if_pos (inb_nI (by omega) (by decide)), ei, if_pos (inb_nI (by omega) (by decide)), ix_nI (by omega), ix_nI (by omega), lt_eq, nI_1]
    obtain ⟨y, m2, u1, u2, u3, u4⟩ := M_tL (f := f) hT hn b1 d (k + 1) F (mst m 92 (92 + 96 * T + k) (m 99 k)) (by omega) (by omega) (by rw [mst_ck (by decide)]; exact e17) (by rw [mst_ck (by decide)]; exact e99) (fun j hj2 => by
      by_cases e : j = k
      · rw [e, mst_at, e99]
      · rw [mst_i (by omega)]; exact hj j (by omega))
    exact ⟨y, m2, u1, u2, fun q hq => (u3 q hq).trans (mst_ck hq), fun i hi => (u4 i hi).trans (mst_i (by omega))⟩
section TXTS
variable {B : Nat → Nat} {L N : Nat}
theorem TXT (hL : L ≤ 96) (hB : ∀ j, j < L → B j < 256) (hN : 500 ≤ N) {c m : Mm} {T : Nat} (hT : T ≤ 14) (hc : CB B L c) (hm : RB B L m) (gk : GKey m) (e38 : c 38 2 = nI T) (e92 : m 92 6 = nI T) : ∃ v c2 m2, f_S_text N c = some (v, c2) ∧ f_M_text N m = some (v, m2) ∧ c2 2 0 = 0 ∧ m2 91 7 = 0 ∧ (∀ i, i < 7 ∨ 20 < i → m2 91 i = m 91 i) ∧ (∀ k, k ≠ 2 → k ≠ 7 + 2 * T → k ≠ 7 + 2 * T + 1 → k ≠ 38 → k ≠ 39 → c2 k = c k) ∧ (∀ k, k ≠ 91 → k ≠ 92 → k ≠ 99 → k ≠ 100 → k ≠ 101 → m2 k = m k) ∧ ((c2 38 = c 38 ∧ c2 39 = c 39 ∧ m2 92 = m 92) ∨ (T < 14 ∧ ∃ key X a, key < 3 ∧ X.length ≤ 96 ∧ VX key X ∧ c2 (7 + 2 * T) 0 = nI key ∧ c2 (7 + 2 * T) 1 = a ∧ c2 (7 + 2 * T) 2 = nI X.length ∧ (∀ j, j < X.length → c2 (7 + 2 * T + 1) j = trc (X.getD j 0)) ∧ c2 38 = upd (c 38) 2 (nI (T + 1)) ∧ c2 39 = upd (c 39) key (nI T) ∧ m2 92 6 = nI (T + 1) ∧ m2 92 (64 + 2 * T) = nI (1000 * key + X.length) ∧ m2 92 (65 + 2 * T) = a ∧ (∀ j, j < X.length → m2 92 (92 + 96 * T + j) = X.getD j 0) ∧ ∀ i, i ≠ 6 → i ≠ 64 + 2 * T → i ≠ 65 + 2 * T → ¬ (92 + 96 * T ≤ i ∧ i < 92 + 96 * T + 96) → m2 92 i = m 92 i)) := by
  obtain ⟨r, c3, m3, u1, u2, u3, u4, u5, u6⟩ := INTO (N := N) (o := 7 + 2 * T) hL hB hN (by omega) hc hm gk
  have ex : (if (14 : Int32) < c 38 2 then (14 : Int32) else c 38 2) = nI T := by rw [e38, if_neg (l_nlt (n := 14) hT (by decide))]
  have m92 : m3 92 = m 92 := u4.1 92 (by decide) (by decide) (by decide) (by decide)
  have c38 : c3 38 = c 38 := u2 38 (by omega) (by omega) (by omega)
  have c39 : c3 39 = c 39 := u2 39 (by omega) (by omega) (by omega)
  have same : ∀ v, f_S_text N c = some (v, c3) → f_M_text N m = some (v, m3) → ∃ v c2 m2, f_S_text N c = some (v, c2) ∧ f_M_text N m = some (v, m2) ∧ c2 2 0 = 0 ∧ m2 91 7 = 0 ∧ (∀ i, i < 7 ∨ 20 < i → m2 91 i = m 91 i) ∧ (∀ k, k ≠ 2 → k ≠ 7 + 2 * T → k ≠ 7 + 2 * T + 1 → k ≠ 38 → k ≠ 39 → c2 k = c k) ∧ (∀ k, k ≠ 91 → k ≠ 92 → k ≠ 99 → k ≠ 100 → k ≠ 101 → m2 k = m k) ∧ ((c2 38 = c 38 ∧ c2 39 = c 39 ∧ m2 92 = m 92) ∨ (T < 14 ∧ ∃ key X a, key < 3 ∧ X.length ≤ 96 ∧ VX key X ∧ c2 (7 + 2 * T) 0 = nI key ∧ c2 (7 + 2 * T) 1 = a ∧ c2 (7 + 2 * T) 2 = nI X.length ∧ (∀ j, j < X.length → c2 (7 + 2 * T + 1) j = trc (X.getD j 0)) ∧ c2 38 = upd (c 38) 2 (nI (T + 1)) ∧ c2 39 = upd (c 39) key (nI T) ∧ m2 92 6 = nI (T + 1) ∧ m2 92 (64 + 2 * T) = nI (1000 * key + X.length) ∧ m2 92 (65 + 2 * T) = a ∧ (∀ j, j < X.length → m2 92 (92 + 96 * T + j) = X.getD j 0) ∧ ∀ i, i ≠ 6 → i ≠ 64 + 2 * T → i ≠ 65 + 2 * T → ¬ (92 + 96 * T ≤ i ∧ i < 92 + 96 * T + 96) → m2 92 i = m 92 i)) :=
    fun v h1 h2 => ⟨v, c3, m3, h1, h2, u3, u5, u4.2, fun k k1 k2 k3 _ _ => u2 k k1 k2 k3, fun k k1 k2 k3 k4 k5 => u4.1 k k1 k3 k4 k5, Or.inl ⟨c38, c39, m92⟩⟩
  have eS : f_S_text N c = if r < 0 then if nI T < 14 then lt (mst c3 38 2 (nI T + 1)) fun m_52 => if inb (m_52 (7 + 2 * T) 0) 3 = true then lt (mst m_52 39 (ix (m_52 (7 + 2 * T) 0)) (nI T)) fun m_72 => some (nI T, m_72) else none else some ((-1000000003), c3) else some ((-100) - r, c3) := by
    unfold f_S_text
    rw [ex, lt_eq, if_pos (inb_nI (by omega) (by decide)), ix_nI (by omega), u1, bd_some]
  rcases u6 with ⟨z1, z2, key, X, a, hk, y1, y2, y3, y4⟩ | ⟨Fe, y1, y2, y3⟩
  · rw [z1, if_pos (by decide)] at eS
    by_cases h14 : T < 14
    · rw [if_pos (r_lt (n := 14) h14 (by decide)), nI_1, lt_eq, mst_ck (k2 := 7 + 2 * T) (by omega), y2.1, if_pos (inb_nI hk (by decide)), ix_nI (by omega), lt_eq] at eS
      unfold mtail at z2
      have e6 : m3 92 6 = nI T := by rw [m92]; exact e92
      have i1 : (64 : Int32) + 2 * nI T = nI (64 + 2 * T) := by rw [show (64 : Int32) = nI 64 from rfl, show (2 : Int32) = nI 2 from rfl, pk_mul, nI_add]
      rw [ixc_6, e6, if_neg (fun z => by have := (r_eq (n := 14) (show T < 2 ^ 31 by omega) (by decide)).mp z; omega), lt_eq, i1, if_pos (inb_nI (by omega) (by decide)), ix_nI (by omega), y3.1, y3.2.2.2.2.2, lt_eq, nI_1, if_pos (inb_nI (by omega) (by decide)), ix_nI (by omega), mst_ck (k2 := 91) (by decide), y3.2.2.2.2.1, lt_eq] at z2
      have ek : (1000 : Int32) * nI key + nI X.length = nI (1000 * key + X.length) := by rw [show (1000 : Int32) = nI 1000 from rfl, pk_mul, nI_add]
      rw [ek] at z2
      obtain ⟨y, m5, v1, v2, v3, v4⟩ := M_tL (f := m3 99) h14 y4 1 X.length 0 N (mst (mst m3 92 (64 + 2 * T) (nI (1000 * key + X.length))) 92 (64 + 2 * T + 1) (nI a)) (by omega) (by omega) (by rw [mst_ck (by decide), mst_ck (by decide)]; exact y3.1) (by rw [mst_ck (by decide), mst_ck (by decide)]) (fun j hj => by omega)
      rw [show f_M_text_L117 N 1 (nI T) 0 _ = _ from v1, bd_some, lt_eq, v4 6 (by omega), mst_i (by omega), mst_i (by omega), e6, nI_1] at z2
      refine ⟨nI T, _, _, eS, z2, ?_, ?_, ?_, ?_, ?_, Or.inr ⟨h14, key, X, nI a, hk, y4, y1, ?_, ?_, ?_, ?_, ?_, ?_, ?_, ?_, ?_, ?_, ?_⟩⟩
      · rw [mst_ck (by decide), mst_ck (by decide)]; exact u3
      · rw [mst_ck (by decide), v3 91 (by decide), mst_ck (by decide), mst_ck (by decide)]; exact u5
      · intro i hi
        rw [mst_ck (by decide), v3 91 (by decide), mst_ck (by decide), mst_ck (by decide)]; exact u4.2 i hi
      · intro k k1 k2 k3 k4 k5
        rw [mst_ck k5, mst_ck k4]; exact u2 k k1 k2 k3
      · intro k k1 k2 k3 k4 k5
        rw [mst_ck k2, v3 k k2, mst_ck k2, mst_ck k2]; exact u4.1 k k1 k3 k4 k5
      · rw [mst_ck (by omega), mst_ck (by omega)]; exact y2.1
      · rw [mst_ck (by omega), mst_ck (by omega)]; exact y2.2.1
      · rw [mst_ck (by omega), mst_ck (by omega)]; exact y2.2.2.1
      · intro j hj
        rw [mst_ck (by omega), mst_ck (by omega)]; exact y2.2.2.2 j hj
      · rw [mst_ck (by decide), mst_row, c38]
      · rw [mst_row, mst_ck (by decide), c39]
      · exact mst_at _ _ _ _
      · rw [mst_i (by omega), v4 _ (by omega), mst_i (by omega), mst_at]
      · rw [mst_i (by omega), v4 _ (by omega), show 65 + 2 * T = 64 + 2 * T + 1 by omega, mst_at]
      · intro j hj
        rw [mst_i (by omega), v2 j hj]; exact y3.2.1 j hj
      · intro i h1 h2 h3 h4
        rw [mst_i h1, v4 i h4, mst_i (by omega), mst_i h2, m92]
    · rw [if_neg (r_nlt (n := 14) (by omega) (by omega))] at eS
      refine same _ eS ?_
      rw [z2]
      unfold mtail
      rw [ixc_6, m92, e92, if_pos (show nI T = 14 by rw [show T = 14 by omega]; rfl)]
  · rw [y2, if_neg (nI_pos (by omega))] at eS
    exact same _ eS y3
theorem Txt.lo {c c2 : Mm} {r : Row} {T : Nat} (h : Txt c r) (hT : ix (r 6) ≤ T) (hc : ∀ k, 7 ≤ k → k < 7 + 2 * T → c2 k = c k) : Txt c2 r := by
  obtain ⟨S, h1, h2, h3⟩ := h
  rw [h2, ix_nI (by omega)] at hT
  refine ⟨S, h1, h2, fun n hn => ?_⟩
  obtain ⟨key, sz, q1, q2, q3, q4, q5, q6, q7⟩ := h3 n hn
  exact ⟨key, sz, q1, q2, by rw [hc _ (by omega) (by omega)]; exact q3, by rw [hc _ (by omega) (by omega)]; exact q4, by rw [hc _ (by omega) (by omega)]; exact q5, fun j hj => by rw [hc _ (by omega) (by omega)]; exact q6 j hj, q7⟩
theorem lastT_lo {r r2 : Row} {key : Nat} : ∀ T, (∀ n, n < T → r2 (64 + 2 * n) = r (64 + 2 * n)) → lastT r2 key T = lastT r key T
  | 0, _ => rfl
  | T + 1, h => by unfold lastT; rw [h T (by omega), lastT_lo T (fun n hn => h n (by omega))]
theorem ok_text {m : Mm} (g : Good m) (hN : 1500 ≤ N) : Ok2 (f_S_text N) (f_M_text N) m := by
  obtain ⟨⟨⟨n1, n2, n3, n4⟩, n5, n6, n7⟩, i, t, w, sh, sl, ky⟩ := g
  obtain ⟨L, hL, t1, t2, t3⟩ := t
  obtain ⟨B, hB, tB⟩ : ∃ B : Nat → Nat, (∀ j, j < L → B j < 256) ∧ ∀ j, j < L → m 96 j = nI (B j) := by
    refine ⟨fun j => if h : j < L then Classical.choose (t3 j h).2 else 0, fun j hj => ?_, fun j hj => ?_⟩
    · show (if h : j < L then Classical.choose (t3 j h).2 else 0) < 256
      rw [dif_pos hj]
      exact (Classical.choose_spec (t3 j hj).2).1
    · show _ = nI (if h : j < L then Classical.choose (t3 j h).2 else 0)
      rw [dif_pos hj]
      exact (Classical.choose_spec (t3 j hj).2).2
  have n3' := n3
  obtain ⟨T, hT, eT, hX⟩ := n3'
  have cb : CB B L m := ⟨t1, fun j hj => by rw [(t3 j hj).1]; exact tB j hj⟩
  have rb : RB B L m := ⟨t2, tB⟩
  have e38 : m 38 2 = nI T := (e_tc n1).trans eT
  -- the class's run alone
  obtain ⟨v0, c0, -, s1, -, -, -, -, s2, -⟩ := TXT hL hB (show 500 ≤ N by omega) hT cb rb ky e38 eT
  have hi : ∀ k, 91 ≤ k → c0 k = m k := fun k hk => s2 k (by omega) (by omega) (by omega) (by omega) (by omega)
  have rb2 : RB B L c0 := ⟨by rw [hi 91 (by omega)]; exact t2, fun j hj => by rw [hi 96 (by omega)]; exact tB j hj⟩
  obtain ⟨v, c2, m2, u1, u2, u3, u4, u5, u6, u7, u8⟩ := TXT hL hB (show 500 ≤ N by omega) hT cb rb2 (ky.cg (hi 97 (by omega)) (hi 98 (by omega))) e38 (by rw [hi 92 (by omega)]; exact eT)
  have e := u1.symm.trans s1
  have e1 : v = v0 := congrArg Prod.fst (Option.some.inj e)
  have e2 : c2 = c0 := congrArg Prod.snd (Option.some.inj e)
  subst e1
  subst e2
  refine ⟨v, c2, m2, u1, u2, ?_⟩
  have fk : ∀ k, k ≠ 2 → k ≠ 7 + 2 * T → k ≠ 7 + 2 * T + 1 → k ≠ 38 → k ≠ 39 → k ≠ 91 → k ≠ 92 → k ≠ 99 → k ≠ 100 → k ≠ 101 → m2 k = m k := fun k a1 a2 a3 a4 a5 a6 a7 a8 a9 a10 => (u7 k a6 a7 a8 a9 a10).trans (u6 k a1 a2 a3 a4 a5)
  have f91 : ∀ i, i < 7 ∨ 20 < i → m2 91 i = m 91 i := fun i hi2 => by rw [u5 i hi2, hi 91 (by omega)]
  have z : ∀ k, k = 0 ∨ k = 3 ∨ k = 6 ∨ (40 ≤ k ∧ k < 91) ∨ k = 93 ∨ (96 ≤ k ∧ k ≤ 98) ∨ (104 ≤ k ∧ k ≤ 110) ∨ k = 112 → m2 k = m k := fun k hk => fk k (by omega) (by omega) (by omega) (by omega) (by omega) (by omega) (by omega) (by omega) (by omega) (by omega)
  have lo : ∀ k, 7 ≤ k → k < 7 + 2 * T → m2 k = m k := fun k h1 h2 => fk k (by omega) (by omega) (by omega) (by omega) (by omega) (by omega) (by omega) (by omega) (by omega) (by omega)
  have gt : GTape m2 := ⟨0, by omega, by rw [u7 2 (by decide) (by decide) (by decide) (by decide) (by decide)]; exact u3, u4, fun j hj => by omega⟩
  have gw : GWait m2 := w.cg (by rw [z 0 (by omega)]) (z 6 (by omega)) (f91 33 (by omega)) (z 112 (by omega))
  have gs : GSheet m2 := sh.cg (fun k _ _ => z k (by omega)) (z 104 (by omega)) (z 105 (by omega)) (z 106 (by omega))
  have gl : GSlot m2 := sl.cg (fun k _ _ => z k (by omega)) (z 107 (by omega)) (z 108 (by omega)) (z 109 (by omega)) (z 110 (by omega))
  have gk : GKey m2 := ky.cg (z 97 (by omega)) (z 98 (by omega))
  have m38 : ∀ k, k = 38 ∨ k = 39 → m2 k = c2 k := fun k hk => u7 k (by omega) (by omega) (by omega) (by omega) (by omega)
  have gi : T ≤ ix (m2 92 6) → GImg m2 := by
    intro hle
    rcases i with ⟨q1, q2⟩ | ⟨q1, q2, q3, q4, q5⟩
    · exact Or.inl ⟨by rw [z 0 (by omega)]; exact q1, (f91 3 (by omega)).trans q2⟩
    · rw [eT, ix_nI (by omega)] at q5
      have e93 : m2 93 = m 93 := z 93 (by omega)
      refine Or.inr ⟨by rw [z 0 (by omega)]; exact q1, (f91 3 (by omega)).trans q2, ?_, by rw [e93]; exact q4, by rw [e93]; omega⟩
      rw [e93]
      obtain ⟨p1, p2, p3, p4⟩ := q3
      exact ⟨p1.cg (fun k _ _ => z k (by omega)), fun key hy => by rw [z _ (by omega)]; exact p2 key hy, p3.lo q5 lo, p4⟩
  rcases u8 with ⟨x1, x2, x3⟩ | ⟨hT2, key, X, a, hk, hl, hv, y1, y2, y3, y4, y5, y6, y7, y8, y9, y10, y11⟩
  · have e92 : m2 92 = m 92 := by rw [x3, hi 92 (by omega)]
    have e38 : m2 38 = m 38 := by rw [m38 38 (by omega)]; exact x1
    have e39 : m2 39 = m 39 := by rw [m38 39 (by omega)]; exact x2
    have zz : ∀ k, 38 ≤ k → k ≤ 47 → m2 k = m k := by
      intro k h1 h2
      by_cases q : k = 38
      · rw [q]; exact e38
      by_cases q2 : k = 39
      · rw [q2]; exact e39
      exact z k (by omega)
    refine ⟨⟨⟨?_, ?_, ?_, ?_⟩, by rw [e92]; exact n5, by rw [e38]; exact n6, (f91 4 (by omega)).trans n7⟩, gi (by rw [e92, eT, ix_nI (by omega)]; exact Nat.le_refl _), gt, gw, gs, gl, gk⟩
    · rw [e92]; exact n1.cg (fun k h1 h2 => zz k h1 h2)
    · rw [e92]; exact fun key hy => by rw [e39]; exact n2 key hy
    · rw [e92]; exact n3.lo (by rw [eT, ix_nI (by omega)]; exact Nat.le_refl _) lo
    · rw [e92]; exact n4
  · have e92 : ∀ i, i ≠ 6 → i ≠ 64 + 2 * T → i ≠ 65 + 2 * T → ¬ (92 + 96 * T ≤ i ∧ i < 92 + 96 * T + 96) → m2 92 i = m 92 i := fun i h1 h2 h3 h4 => by rw [y11 i h1 h2 h3 h4, hi 92 (by omega)]
    have rlo : ∀ i, i < 64 → i ≠ 6 → m2 92 i = m 92 i := fun i h1 h2 => e92 i h2 (by omega) (by omega) (by omega)
    have e38 : m2 38 = upd (m 38) 2 (nI (T + 1)) := by rw [m38 38 (by omega)]; exact y5
    have e39 : m2 39 = upd (m 39) key (nI T) := by rw [m38 39 (by omega)]; exact y6
    have hE : Eqv 38 m2 (m2 92) := by
      have h0 := (u_tc n1 (nI (T + 1))).rowk (r2 := m2 92) (fun j hj => by
        by_cases q : j = 6
        · rw [q, y7, pk_us]
        · rw [rlo j hj q, pk_un q])
      refine h0.keep (fun k h1 h2 i hi2 => ?_)
      by_cases q : k = 0
      · subst q
        show m2 38 i = mst m 38 2 (nI (T + 1)) 38 i
        rw [e38, mst_row]
      · rw [z _ (by omega), mst_ck (by omega)]
    have h68 : ∀ n, n < T → Txt1 m2 (m2 92) n := by
      intro n hn
      obtain ⟨key, sz, q1, q2, q3, q4, q5, q6, q7⟩ := hX n hn
      have hs := q7.2.2
      exact ⟨key, sz, q1, (e92 _ (by omega) (by omega) (by omega) (by omega)).trans q2, by rw [lo _ (by omega) (by omega)]; exact q3, by rw [lo _ (by omega) (by omega), e92 _ (by omega) (by omega) (by omega) (by omega)]; exact q4, by rw [lo _ (by omega) (by omega)]; exact q5, fun j hj => by rw [lo _ (by omega) (by omega), e92 _ (by omega) (by omega) (by omega) (by omega)]; exact q6 j hj, vld_cg (fun j hj => e92 _ (by omega) (by omega) (by omega) (by omega)) q7⟩
    have mT : ∀ k, k = 7 + 2 * T ∨ k = 7 + 2 * T + 1 → m2 k = c2 k := fun k hk => u7 k (by omega) (by omega) (by omega) (by omega) (by omega)
    have hT1 : Txt1 m2 (m2 92) T := ⟨key, X.length, hk, y8, by rw [mT _ (by omega)]; exact y1, by rw [mT _ (by omega), y2, y9], by rw [mT _ (by omega)]; exact y3, fun j hj => by rw [mT _ (by omega), y4 j hj, y10 j hj], hv.vld hl (fun j hj => y10 j hj)⟩
    have hTx : Txt m2 (m2 92) := ⟨T + 1, by omega, y7, fun n hn => by
      by_cases q : n = T
      · rw [q]; exact hT1
      · exact h68 n (by omega)⟩
    have hLw : Law 38 m2 (m2 92) := by
      intro k2 hk2
      show m2 39 k2 = lawN (m2 92) k2
      unfold lawN
      rw [e39, y7, ix_nI (by omega)]
      have es : lastT (m2 92) k2 (T + 1) = if key = k2 then some T else lastT (m 92) k2 T := by
        unfold lastT
        rw [y8, lastT_lo T (fun n hn => e92 _ (by omega) (by omega) (by omega) (by omega))]
        by_cases q : key = k2
        · rw [if_pos q, if_pos ((key_of hk hk2 hl).mpr q)]
        · rw [if_neg q, if_neg (fun z => q ((key_of hk hk2 hl).mp z))]
          cases T <;> rfl
      rw [es]
      by_cases q : key = k2
      · rw [if_pos q, q, pk_us]
      · rw [if_neg q, pk_un (by omega)]
        have := n2 k2 hk2
        unfold lawN at this
        rw [eT, ix_nI (by omega)] at this
        exact this
    have hI : Inv 999 (m2 92) := by
      obtain ⟨h1, h2, h3, h4⟩ := n4
      exact ⟨by rw [rlo _ (by omega) (by omega)]; exact h1, fun i hi => by rw [rlo _ (by omega) (by omega)]; exact h2 i hi, fun t ht => by rw [rlo _ (by omega) (by omega), rlo _ (by omega) (by omega)]; exact h3 t ht, fun m hm => by rw [rlo _ (by omega) (by omega), rlo _ (by omega) (by omega)]; exact h4 m hm⟩
    refine ⟨⟨⟨hE, hLw, hTx, hI⟩, n5.cg (rlo 2 (by omega) (by omega)) (rlo 5 (by omega) (by omega)), by rw [e38, pk_un (by decide)]; exact n6, (f91 4 (by omega)).trans n7⟩, gi (by rw [y7, ix_nI (by omega)]; omega), gt, gw, gs, gl, gk⟩
end TXTS
