/-! PURE: the levels of the two readers -/
section RDB
variable {B : Nat → Nat} {L o key N : Nat}
/-- a level's loop stops where no sign joins -/
theorem LV_stop (hL : L ≤ 96) (hB : ∀ j, j < L → B j < 256) {rl : Nat → Int32 → Int32 → Int32 → Mm → Option Mm} {rp : Nat → Int32 → Int32 → Mm → Option Mm} {G l : Nat} {b3 b4 b5 b6 : Int32} {c : Mm} (hG : 1 ≤ G) (hl : l < 5) (cb : CB B L c) {F : Nat} (e2 : c 2 2 = nI F) (hF : F ≤ L) (h : b5 ≤ b6 ∨ ¬ (¬ sgF B L F = 0 ∧ rk (sgF B L F) = l + 1)) : f_T_readLevelF_L41 rl rp N o G (nI l) b3 b4 b5 b6 c = some (b6, c) := by
  obtain ⟨G, rfl⟩ : ∃ f, G = f + 1 := ⟨G - 1, by omega⟩
  rw [f_T_readLevelF_L41]
  by_cases h1 : b5 ≤ b6
  · rw [if_pos h1]
  rw [if_neg h1]
  have hj := h.resolve_left h1
  split
  · rw [T_here cb hL hF e2, bp_some]
    by_cases q : F < L
    · unfold sgF at hj
      rw [if_pos q] at hj ⊢
      rw [sgn_j _ (hB F q) l hl, bp_some, if_neg hj, if_pos rfl]
    · rw [if_neg q, sgn_n l hl, bp_some, if_pos rfl]
  · rfl
theorem LV_go (hL : L ≤ 96) (hB : ∀ j, j < L → B j < 256) {rl : Nat → Int32 → Int32 → Int32 → Mm → Option Mm} {rp : Nat → Int32 → Int32 → Mm → Option Mm} {G l : Nat} {b3 b4 b5 b6 : Int32} {c : Mm} (hl : l < 5) (cb : CB B L c) {F : Nat} (e2 : c 2 2 = nI F) (hF : F < L) (h1 : ¬ b5 ≤ b6) (h5 : c 2 5 = (-1)) (hj : ¬ sgn (B F) = 0 ∧ rk (sgn (B F)) = l + 1) : f_T_readLevelF_L41 rl rp N o (G + 1) (nI l) b3 b4 b5 b6 c = bp (f_T_step N c) fun m_74 => bp (rl o (nI (l + 1)) b3 b4 m_74) fun m_85 => bp (f_X_addSign o (nI (B F)) m_85) fun m_91 => f_T_readLevelF_L41 rl rp N o G (nI l) b3 b4 b5 (b6 + 1) m_91 := by
  rw [f_T_readLevelF_L41, if_neg h1, if_pos h5, T_here cb hL (by omega) e2, bp_some, bp_some, if_pos hF, sgn_j _ (hB F hF) l hl, bp_some, if_pos hj, if_neg nz1, nI_1]
/-- the reference takes a sign -/
theorem R_sign (hL : L ≤ 96) (hB : ∀ j, j < L → B j < 256) (hN : 500 ≤ N) {m : Mm} {F T : Nat} {st : Bool} {R W S : List Int32} {a pp fu : Nat} {b2 : Int32} (rs : RS B L m F T st) (mz : MZ m R (W ++ S) a key) (ln : R.length + (W ++ S).length ≤ F) (hF : F < L) (hs : ¬ sgn (B F) = 0) (hp : pp ≤ 8) (t01 : m 101 pp = 0 ∨ m 101 pp = 1) (ht : rk (sgn (B F)) = 3 → m 101 pp = 0) (hst : stops W (rk (sgn (B F)))) (hS : ∀ x ∈ S, x ≠ (-11) ∧ rk (sgn (B F)) ≤ rk x) : ∃ m3, f_M_takesE_L28 N (fu + 1) (nI pp) b2 0 m = (bp (f_M_go N m3) fun m_339 => f_M_takesE_L28 N fu (nI pp) b2 1 m_339) ∧ MZ m3 (R ++ S.reverse) (W ++ [sgn (B F)]) a key ∧ m3 96 = m 96 ∧ (∀ i, 7 ≤ i → i ≤ 12 → m3 91 i = m 91 i) ∧ MFr m m3 ∧ (∀ i, i ≠ pp → m3 101 i = m 101 i) ∧ m3 101 pp = (if rk (sgn (B F)) = 3 then 1 else if rk (sgn (B F)) ≤ 3 then 0 else m 101 pp) := by
  obtain ⟨h10, h11⟩ := rs.sgs hB hF hs
  have ss := sgn_s _ (hB F hF) hs
  have hr5 := ss.2.2.2.2.1
  have hlen : (W ++ S).length = W.length + S.length := List.length_append
  have e3 : (nI (rk (sgn (B F))) = 3) ↔ rk (sgn (B F)) = 3 := r_eq (n := 3) (by omega) (by decide)
  have el : (nI (rk (sgn (B F))) ≤ 3) ↔ rk (sgn (B F)) ≤ 3 := by
    constructor
    · intro z
      by_cases q : rk (sgn (B F)) ≤ 3
      · exact q
      · exact absurd z (r_ge (n := 3) (by omega) (by omega))
    · intro z; exact r_le (n := 3) z (by decide)
  have ipp : ix (nI pp) = pp := ix_nI (by omega)
  rw [U_sign (n := fu) h10 (by rw [h11]; intro z; exact ss.2.2.2.2.2.1 ((r_eq (n := 41) (by have := hB F hF; omega) (by decide)).mp z)) (inb_nI (by omega) (by decide)) (show f_M_signHere m = some (sgn (B F)) by have := M_sign hB rs (by omega); unfold sgF at this; rw [if_pos hF] at this; exact this) hs (fun z => by rw [ipp]; exact ht (e3.mp z)) (by rw [ipp]; exact t01), ipp, lt_eq]
  have ev : (if nI (rk (sgn (B F))) = 3 then (1 : Int32) else if nI (rk (sgn (B F))) ≤ 3 then 0 else m 101 pp) = (if rk (sgn (B F)) = 3 then 1 else if rk (sgn (B F)) ≤ 3 then 0 else m 101 pp) := by
    simp only [e3, el]
  rw [ev]
  generalize (if rk (sgn (B F)) = 3 then (1 : Int32) else if rk (sgn (B F)) ≤ 3 then 0 else m 101 pp) = v
  obtain ⟨z1, z2, z3, z4, z5, z6⟩ := mz
  have mz1 : MZ (mst m 101 pp v) R (W ++ S) a key := ⟨by rw [mst_ck (by decide)]; exact z1, by rw [mst_ck (by decide)]; exact z2, by rw [mst_ck (by decide)]; exact z3, by rw [mst_ck (by decide)]; exact z4, by rw [mst_ck (by decide)]; exact z5, by rw [mst_ck (by decide)]; exact z6⟩
  obtain ⟨m2, u1, u2, u3⟩ := M_settle (r := rk (sgn (B F))) (by omega) hst hN hS (by omega) mz1
  have l20 := u2.2.2.1
  rw [u1, bp_some, l20, if_pos (inb_nI (by omega) (by decide)), ix_nI (by omega), lt_eq, mst_ck (k2 := 91) (by decide), l20, nI_1, lt_eq]
  obtain ⟨y1, y2, y3, y4, y5, y6⟩ := u2
  refine ⟨_, rfl, ⟨by rw [mst_i (by decide), mst_ck (by decide)]; exact y1, by rw [mst_ck (by decide), mst_ck (by decide)]; exact y2, by rw [mst_at, List.length_append]; rfl, by
      rw [mst_ck (by decide), mst_row]
      exact y4.sn (fun j hj => pk_un (by omega)) pk_us, by rw [mst_i (by decide), mst_ck (by decide)]; exact y5, by rw [mst_i (by decide), mst_ck (by decide)]; exact y6⟩, by rw [mst_ck (by decide), mst_ck (by decide), u3.1 96 (by decide) (by decide), mst_ck (by decide)], fun i h1 h2 => by rw [mst_i (by omega), mst_ck (by decide), u3.2 i (by omega) (by omega), mst_ck (by decide)], ?_, fun i hi => by rw [mst_ck (by decide), mst_ck (by decide), u3.1 101 (by decide) (by decide), mst_i hi], by rw [mst_ck (by decide), mst_ck (by decide), u3.1 101 (by decide) (by decide), mst_at]⟩
  exact (((MFr.rf.pk 101 _ _ (by omega)).tr u3.mf).pk 100 _ _ (by omega)).p91 20 _ (by omega)
theorem LOOP (hL : L ≤ 96) (hB : ∀ j, j < L → B j < 256) (hN : 500 ≤ N) (ho : 7 ≤ o) {n l pp : Nat} (ih : LEVEL B L o key N n) (hl : l ≤ 4) (hp : pp ≤ 8) {C W : List Int32} (hst : stops W (l + 1)) (hw : cN W ≤ 8) (hms : 7 * (8 - pp) + (8 - cN W) + (7 - l) ≤ n + 1) {c0 m0 : Mm} {F0 : Nat} : ∀ (d : Nat) (c m : Mm) (F T : Nat) (st : Bool) (X R S : List Int32) (a fu k G : Nat), F + d = L → d < G → Jn B L o key c m F T st (C ++ X) R (W ++ S) a → C ++ X = R ++ S.reverse → VX key X → (∀ x ∈ S, x ≠ (-11) ∧ x ≠ (-10) ∧ l + 1 ≤ rk x) → NJ B L (l + 1) pp F m → (m 101 pp = 0 ∨ m 101 pp = 1) → k ≤ F → (l = 2 → (k = 0 ∧ m 101 pp = 0) ∨ (k = 1 ∧ m 101 pp = 1)) → L + 2 ≤ fu + F → F0 < F → CFr o c0 c → MFr m0 m → (∀ i, i < pp → m 101 i = m0 101 i) → (3 ≤ l → m 101 pp = m0 101 pp) → OKL B L o key N c0 m0 F0 pp l C W (bd (f_T_readLevelF_L41 (f_rd N n).1 (f_rd N n).2 N o G (nI l) (nI pp) (nI (cN W)) (if l = 2 then 1 else 96) (nI k) c) fun _ m_41 => some m_41) (f_M_takesE_L28 N fu (nI pp) (nI (cN W)) 0 m) ∨ FA o L c0 m0 (bd (f_T_readLevelF_L41 (f_rd N n).1 (f_rd N n).2 N o G (nI l) (nI pp) (nI (cN W)) (if l = 2 then 1 else 96) (nI k) c) fun _ m_41 => some m_41) (f_M_takesE_L28 N fu (nI pp) (nI (cN W)) 0 m) := by
  intro d
  induction d using Nat.strongRecOn with
  | ind d IH =>
  intro c m F T st X R S a fu k G hd hG hj hCX hX hS hNJ t01 hk hl2 hfu hF0 hcf hmf ht htl
  have hFL := hj.F
  by_cases hstop : (l = 2 ∧ k = 1) ∨ ¬ (¬ sgF B L F = 0 ∧ rk (sgF B L F) = l + 1)
  · left
    have e := LV_stop (rl := (f_rd N n).1) (rp := (f_rd N n).2) (N := N) (o := o) (G := G) (b3 := nI pp) (b4 := nI (cN W)) (b5 := if l = 2 then (1 : Int32) else 96) (b6 := nI k) hL hB (by omega) (show l < 5 by omega) hj.cb hj.cs.1 hFL (by
      rcases hstop with ⟨z1, z2⟩ | z
      · left; rw [if_pos z1, z2]; decide
      · exact Or.inr z)
    rw [e, bd_some]
    refine ⟨c, m, F, T, st, X, R, S, a, fu, rfl, rfl, hj, hCX, hfu, hF0, hS, ?_, t01, ht, htl, hcf, hmf, hX⟩
    rcases hNJ with z | z | z
    · exact Or.inl z
    · by_cases q : rk (sgF B L F) ≤ l
      · exact Or.inr (Or.inl q)
      · by_cases z0 : sgF B L F = 0
        · exact Or.inl z0
        rcases hstop with ⟨y1, y2⟩ | y
        · refine Or.inr (Or.inr ⟨by omega, ?_⟩)
          rcases hl2 y1 with ⟨w1, w2⟩ | ⟨w1, w2⟩
          · omega
          · rw [w2]; exact nz1
        · exact absurd ⟨z0, by omega⟩ y
    · exact Or.inr (Or.inr z)
  · have hns : ¬ (l = 2 ∧ k = 1) := fun z => hstop (Or.inl z)
    have hjn : ¬ sgF B L F = 0 ∧ rk (sgF B L F) = l + 1 := Classical.byContradiction (fun z => hstop (Or.inr z))
    have hF : F < L := by
      by_cases q : F < L
      · exact q
      · have := hjn.1; unfold sgF at this; rw [if_neg q] at this; exact absurd rfl this
    have hsg : sgF B L F = sgn (B F) := by unfold sgF; rw [if_pos hF]
    rw [hsg] at hjn
    have hkn : ¬ (if l = 2 then (1 : Int32) else 96) ≤ nI k := by
      by_cases q : l = 2
      · rw [if_pos q]
        have : k = 0 := by
          rcases hl2 q with z | z
          · exact z.1
          · exact absurd ⟨q, z.1⟩ hns
        rw [this]; decide
      · rw [if_neg q]; exact l_ge (n := 96) (by omega) (by decide)
    obtain ⟨G, rfl⟩ : ∃ f, G = f + 1 := ⟨G - 1, by omega⟩
    obtain ⟨fu, rfl⟩ : ∃ f, fu = f + 1 := ⟨fu - 1, by omega⟩
    rw [LV_go hL hB (show l < 5 by omega) hj.cb hj.cs.1 hF hkn hj.c5 hjn]
    have hlen : (C ++ X).length = R.length + S.length := by rw [hCX, List.length_append, List.length_reverse]
    have hln := hj.ln
    rw [List.length_append] at hln
    have ss := sgn_s _ (hB F hF) hjn.1
    obtain ⟨m3, r1, r2, r3, r4, r5, r6, r7⟩ := R_sign (N := N) (fu := fu) (b2 := nI (cN W)) hL hB hN hj.rs hj.mz hj.ln hF hjn.1 hp t01 (fun z => by
      have : l = 2 := by omega
      rcases hl2 this with y | y
      · exact y.2
      · exact absurd ⟨this, y.1⟩ hns) (by rw [hjn.2]; exact hst) (fun x hx => ⟨(hS x hx).1, by rw [hjn.2]; exact (hS x hx).2.2⟩)
    rw [r1]
    rw [← hCX] at r2
    obtain ⟨c4, m4, F2, T2, st2, g1, g2, g3, g4, g5, g6⟩ := Jn.go hL hB hN ho hj hF rfl rfl r3 r4 hj.xs r2 (by rw [hlen, List.length_append]; show _ + (W.length + 1) ≤ _; omega) (by have := hj.lc; omega)
    rw [g1, g2, bp_some, bp_some]
    have hcw : cN (W ++ [sgn (B F)]) = cN W := by rw [cN_sn, if_neg ss.2.2.1]; rfl
    have m4t : m4 101 = m3 101 := g6.1 101 (by decide)
    have r7' : m4 101 pp = if l = 2 then 1 else if l ≤ 2 then 0 else m 101 pp := by
      rw [m4t, r7, hjn.2]
      by_cases q : l = 2
      · rw [if_pos q, if_pos (show l + 1 = 3 by omega)]
      · rw [if_neg q, if_neg (show ¬ l + 1 = 3 by omega)]
        by_cases q2 : l ≤ 2
        · rw [if_pos q2, if_pos (show l + 1 ≤ 3 by omega)]
        · rw [if_neg q2, if_neg (show ¬ l + 1 ≤ 3 by omega)]
    have t4 : m4 101 pp = 0 ∨ m4 101 pp = 1 := by
      rw [r7']
      split
      · exact Or.inr rfl
      · split
        · exact Or.inl rfl
        · exact t01
    have hcf4 : CFr o c0 c4 := hcf.tr g5.cf
    have hmf4 : MFr m0 m4 := (hmf.tr r5).tr g6.mf
    have hih := ih (l + 1) c4 m4 F2 T2 st2 (C ++ X) (W ++ [sgn (B F)]) a pp fu (by omega) g3 (Or.inr ⟨W, _, rfl, Or.inr (by omega)⟩) (by rw [hcw]; exact hw) hp (by rw [hcw]; omega) (by omega) t4 (fun z => by rw [r7', if_neg (show ¬ l = 2 by omega), if_pos (show l ≤ 2 by omega)])
    rw [hcw] at hih
    rcases hih with ⟨c5, m5, F3, T3, st3, X2, R2, S2, a2, fu2, v1, v2, v3, v4, v5, v6, v7, v8, v9, v10, v11, v12, v13, v14⟩ | ⟨c5, m5, Fe, k2, v1, v2, v3, v4, v5, v6, v7, v8, v9⟩
    · rw [v1, v2, hcw, bp_some]
      have l3 := v3.ln
      rw [List.length_append, List.length_append] at l3
      have l3 : R2.length + (W.length + 1 + S2.length) ≤ F3 := l3
      have l4 : (C ++ X ++ X2).length = R2.length + S2.length := by rw [v4, List.length_append, List.length_reverse]
      have f3 := v3.F
      obtain ⟨c6, x1, x2, x3⟩ := X_sign ho v3.xs (by omega) ss.1
      rw [x1, bp_some, nI_1]
      have j6 : Jn B L o key c6 m5 F3 T3 st3 (C ++ (X ++ X2 ++ [sgn (B F)])) R2 (W ++ ([sgn (B F)] ++ S2)) a2 := by
        have e1 : C ++ (X ++ X2 ++ [sgn (B F)]) = C ++ X ++ X2 ++ [sgn (B F)] := by simp only [List.append_assoc]
        have e2 : W ++ ([sgn (B F)] ++ S2) = W ++ [sgn (B F)] ++ S2 := by rw [List.append_assoc]
        have k2 : c6 2 = c5 2 := x3 2 (by omega) (by omega)
        have k3 : c6 3 = c5 3 := x3 3 (by omega) (by omega)
        rw [e1, e2]
        refine ⟨⟨by rw [k2]; exact v3.cb.1, fun j hj => by rw [k3]; exact v3.cb.2 j hj⟩, ⟨by rw [k2]; exact v3.cs.1, by rw [k2]; exact v3.cs.2.1, by rw [k2]; exact v3.cs.2.2⟩, by rw [k2]; exact v3.c5, x2, v3.rb, v3.rs, v3.mz, v3.tk, v3.ln, ?_⟩
        rw [List.length_append]
        show _ + 1 ≤ _
        omega
      refine IH (L - F3) (by omega) c6 m5 F3 T3 st3 (X ++ X2 ++ [sgn (B F)]) R2 ([sgn (B F)] ++ S2) a2 fu2 (k + 1) G (by omega) (by omega) j6 ?_ (hX.two v14 (sgn_c hjn.1) ss.2.2.2.2.2.2 ss.2.2.1) ?_ v8 v9 (by omega) ?_ v5 (by omega) ?_ (hmf4.tr v13) ?_ ?_
      · rw [List.reverse_append, List.reverse_singleton]
        have e1 : C ++ (X ++ X2 ++ [sgn (B F)]) = C ++ X ++ X2 ++ [sgn (B F)] := by simp only [List.append_assoc]
        rw [e1, v4, List.append_assoc]
      · intro x hx
        rcases List.mem_append.mp hx with q | q
        · rw [List.mem_singleton.mp q]; exact ⟨ss.2.1, ss.2.2.1, by omega⟩
        · have := v7 x q; exact ⟨this.1, this.2.1, by omega⟩
      · intro q
        right
        have : k = 0 := by
          rcases hl2 q with z | z
          · exact z.1
          · exact absurd ⟨q, z.1⟩ hns
        exact ⟨by omega, by rw [v11 (by omega), r7', if_pos q]⟩
      · exact (hcf4.tr v12).tr ⟨fun q _ h2 h3 => x3 q h2 h3, by rw [x3 2 (by omega) (by omega)]⟩
      · intro i hi
        rw [v10 i hi, m4t, r6 i (by omega)]; exact ht i hi
      · intro q
        rw [v11 (by omega), r7', if_neg (show ¬ l = 2 by omega), if_neg (show ¬ l ≤ 2 by omega)]; exact htl q
    · rw [v1, v2, bp_some]
      obtain ⟨c6, k3, x1, x2, x3, x4⟩ := X_any v6 v7 (nI (B F))
      have k5 : c6 2 = c5 2 := x4 2 (by omega) (by omega)
      rw [x1, bp_some, LV_bad (by omega) (by rw [k5, v3.1]; exact nI_m1 (by omega)), bd_some]
      exact Or.inr ⟨c6, m5, Fe, k3, rfl, rfl, by rw [k5]; exact v3, v4, v5, x2, x3, (hcf4.tr v8).tr ⟨fun q _ h2 h3 => x4 q h2 h3, by rw [k5]⟩, hmf4.tr v9⟩
theorem LEVEL_succ (hL : L ≤ 96) (hB : ∀ j, j < L → B j < 256) (hN : 500 ≤ N) (ho : 7 ≤ o) {n : Nat} (ih : LEVEL B L o key N n) (ihp : PIECE B L o key N n) : LEVEL B L o key N (n + 1) := by
  intro l c m F T st C W a pp fu hl hj hst hw hp hms hfu t01 ht
  show OKL B L o key N c m F pp l C W (f_T_readLevelF (f_rd N n).1 (f_rd N n).2 N o (nI l) (nI pp) (nI (cN W)) c) _ ∨ FA o L c m (f_T_readLevelF (f_rd N n).1 (f_rd N n).2 N o (nI l) (nI pp) (nI (cN W)) c) _
  unfold f_T_readLevelF
  by_cases h4 : l ≤ 4
  · rw [if_pos (r_le (n := 4) h4 (by decide)), nI_1]
    have e2 : ∀ x y : Int32, (if nI l = 2 then x else y) = if l = 2 then x else y := by
      intro x y
      by_cases q : l = 2
      · rw [if_pos q, if_pos (by rw [q]; rfl)]
      · rw [if_neg q, if_neg (fun z => q ((r_eq (n := 2) (by omega) (by decide)).mp z))]
    rw [e2]
    rcases ih (l + 1) c m F T st C W a pp fu (by omega) hj (hst.mono (by omega)) hw hp (by omega) hfu t01 (fun z => ht (by omega)) with ⟨c5, m5, F3, T3, st3, X2, R2, S2, a2, fu2, v1, v2, v3, v4, v5, v6, v7, v8, v9, v10, v11, v12, v13, v14⟩ | ⟨c5, m5, Fe, k2, v1, v2, v3, v4, v5, v6, v7, v8, v9⟩
    · rw [v1, v2, bp_some, lt_eq]
      have f3 := v3.F
      exact LOOP hL hB hN ho ih h4 hp hst hw hms (L - F3) c5 m5 F3 T3 st3 X2 R2 S2 a2 fu2 0 N (by omega) (by omega) v3 v4 v14 (fun x hx => ⟨(v7 x hx).1, (v7 x hx).2.1, by have := (v7 x hx).2.2; omega⟩) v8 v9 (Nat.zero_le _) (fun z => Or.inl ⟨rfl, by rw [v11 (by omega)]; exact ht (by omega)⟩) v5 v6 v12 v13 v10 (fun z => v11 (by omega))
    · rw [v1, v2, bp_some, lt_eq, LV_bad (by omega) (by rw [v3.1]; exact nI_m1 (by omega)), bd_some]
      exact Or.inr ⟨c5, m5, Fe, k2, rfl, rfl, v3, v4, v5, v6, v7, v8, v9⟩
  · have h5 : l = 5 := by omega
    subst h5
    rw [if_neg (show ¬ nI 5 ≤ 4 by decide)]
    have hih := ihp c m F T st C W 0 a pp fu (by rw [List.replicate_zero, List.append_nil]; exact hj) hst (by omega) hp (by omega) hfu
    rw [Nat.add_zero] at hih
    rcases hih with ⟨c5, m5, F3, T3, st3, X2, a2, fu2, v1, v2, v3, v4, v5, v6, v7, v8, v9⟩ | ⟨c5, m5, Fe, k2, v1, v2, v3, v4, v5, v6, v7, v8, v9⟩
    · rw [v1, v2, bp_some]
      rw [List.replicate_zero, List.append_nil] at v3
      refine Or.inl ⟨c5, m5, F3, T3, st3, X2, C ++ X2, [], a2, fu2, rfl, rfl, by rw [List.append_nil]; exact v3, by rw [List.reverse_nil, List.append_nil], v4, v5, fun x hx => absurd hx (by simp), ?_, by rw [v6 pp (Nat.le_refl _)]; exact t01, fun i hi => v6 i (by omega), fun _ => v6 pp (Nat.le_refl _), v7, v8, v9⟩
      by_cases z : sgF B L F3 = 0
      · exact Or.inl z
      · refine Or.inr (Or.inl ?_)
        unfold sgF at z ⊢
        by_cases q : F3 < L
        · rw [if_pos q] at z ⊢; exact (sgn_s _ (hB F3 q) z).2.2.2.2.1
        · rw [if_neg q] at z; exact absurd rfl z
    · rw [v1, v2, bp_some]
      exact Or.inr ⟨c5, m5, Fe, k2, rfl, rfl, v3, v4, v5, v6, v7, v8, v9⟩
end RDB
