/-! PURE: not and brackets; the readers' induction -/
theorem pm1 : ∀ p, p < 8 → nI (p + 1) + (-1) = nI p := by decide +kernel
section RDD
variable {B : Nat → Nat} {L o key N : Nat}
/-- the reference lays a not, or a bracket, by -/
theorem R_push (m : Mm) {R W : List Int32} {a : Nat} (mz : MZ m R W a key) (hl : W.length < 96) (x : Int32) : MZ (mst (mst m 100 W.length x) 91 20 (nI (W.length + 1))) R (W ++ [x]) a key := by
  obtain ⟨y1, y2, y3, y4, y5, y6⟩ := mz
  exact ⟨by rw [mst_i (by decide), mst_ck (by decide)]; exact y1, by rw [mst_ck (by decide), mst_ck (by decide)]; exact y2, by rw [mst_at, List.length_append]; rfl, by
      rw [mst_ck (by decide), mst_row]
      exact y4.sn (fun j hj => pk_un (by omega)) pk_us, by rw [mst_i (by decide), mst_ck (by decide)]; exact y5, by rw [mst_i (by decide), mst_ck (by decide)]; exact y6⟩
theorem MZ.t {m : Mm} {R W : List Int32} {a : Nat} (mz : MZ m R W a key) (i : Nat) (v : Int32) : MZ (mst m 101 i v) R W a key := by
  obtain ⟨y1, y2, y3, y4, y5, y6⟩ := mz
  exact ⟨by rw [mst_ck (by decide)]; exact y1, by rw [mst_ck (by decide)]; exact y2, by rw [mst_ck (by decide)]; exact y3, by rw [mst_ck (by decide)]; exact y4, by rw [mst_ck (by decide)]; exact y5, by rw [mst_ck (by decide)]; exact y6⟩
theorem P_not (hL : L ≤ 96) (hB : ∀ j, j < L → B j < 256) (hN : 500 ≤ N) (ho : 7 ≤ o) {n : Nat} (ihp : PIECE B L o key N n) {c m : Mm} {F T : Nat} {st : Bool} {C W0 : List Int32} {j a pp fu : Nat} (hj : Jn B L o key c m F T st C C (W0 ++ List.replicate j (-10)) a) (hst : stops W0 6) (hw : cN W0 + j < 8) (hp : pp ≤ 8) (hms : 7 * (8 - pp) + (8 - (cN W0 + j)) + 1 ≤ n + 1) (hF : F < L) (h33 : B F = 33) (hfu : L + 2 ≤ fu + F) : OKP B L o key N c m F pp j C W0 (bp (f_T_step N c) fun m_61 => bp ((f_rd N n).2 o (nI pp) (nI (cN W0 + j) + 1) m_61) fun m_70 => bp (f_X_addSign o 33 m_70) fun m_76 => some m_76) (f_M_takesE_L28 N fu (nI pp) (nI (cN W0 + j)) 1 m) ∨ FA o L c m (bp (f_T_step N c) fun m_61 => bp ((f_rd N n).2 o (nI pp) (nI (cN W0 + j) + 1) m_61) fun m_70 => bp (f_X_addSign o 33 m_70) fun m_76 => some m_76) (f_M_takesE_L28 N fu (nI pp) (nI (cN W0 + j)) 1 m) := by
  obtain ⟨fu, rfl⟩ : ∃ f, fu = f + 1 := ⟨fu - 1, by omega⟩
  obtain ⟨r10, r11⟩ := hj.rs.sg hF (by rw [h33]; decide) (by rw [h33]; decide)
  rw [h33] at r11
  have ln := hj.ln
  have lc := hj.lc
  have l20 := hj.mz.2.2.1
  rw [U_not r10 r11 (l_ge (n := 8) hw (by decide)), l20, if_pos (inb_nI (by omega) (by decide)), ix_nI (by omega), lt_eq, mst_ck (k2 := 91) (by decide), l20, nI_1, lt_eq, nI_1]
  have mz2 := R_push m hj.mz (by omega) (-10)
  have ew : W0 ++ List.replicate j (-10 : Int32) ++ [-10] = W0 ++ List.replicate (j + 1) (-10) := by rw [List.replicate_succ', List.append_assoc]
  rw [ew] at mz2
  have hl1 : (W0 ++ List.replicate (j + 1) (-10 : Int32)).length = (W0 ++ List.replicate j (-10 : Int32)).length + 1 := by rw [← ew, List.length_append]; rfl
  generalize em2 : mst (mst m 100 (W0 ++ List.replicate j (-10)).length (-10)) 91 20 (nI ((W0 ++ List.replicate j (-10)).length + 1)) = m2 at mz2 ⊢
  have f91 : ∀ i, i ≠ 20 → m2 91 i = m 91 i := fun i hi => by rw [← em2, mst_i hi, mst_ck (by decide)]
  have fk : ∀ k, k ≠ 91 → k ≠ 100 → m2 k = m k := fun k h1 h2 => by rw [← em2, mst_ck h1, mst_ck h2]
  obtain ⟨c4, m4, F2, T2, st2, g1, g2, g3, g4, g5, g6⟩ := Jn.go hL hB hN ho hj hF rfl rfl (fk 96 (by decide) (by decide)) (fun i h1 h2 => f91 i (by omega)) hj.xs mz2 (by rw [hl1]; omega) (by omega)
  have f2 := g3.F
  have ln3 := g3.ln
  rw [g1, g2, bp_some, bp_some, M_nots hN g3.mz (by omega), bp_some, cN_rep]
  have hmf : MFr m m4 := MFr.tr ⟨fun k k1 _ k3 _ => fk k k1 k3, fun i _ _ _ _ _ _ _ a8 => f91 i a8⟩ g6.mf
  rcases ihp c4 m4 F2 T2 st2 C W0 (j + 1) a pp fu g3 hst (by omega) hp (by omega) (by omega) with ⟨c5, m5, F3, T3, st3, X2, a2, fu2, v1, v2, v3, v4, v5, v6, v7, v8, v9⟩ | ⟨c5, m5, Fe, k2, v1, v2, v3, v4, v5, v6, v7, v8, v9⟩
  · left
    have v1' : (f_rd N n).2 o (nI pp) (nI (cN W0 + j + 1)) c4 = some c5 := v1
    rw [v1', bp_some, show f_M_takesE_L28 N fu (nI pp) (nI (cN W0 + (j + 1))) 1 m4 = _ from v2]
    have l3 := v3.ln
    have f3 := v3.F
    rw [List.length_append, List.length_replicate] at l3
    obtain ⟨c6, x1, x2, x3⟩ := X_sign (x := (-10 : Int32)) (b := 33) ho v3.xs (by omega) (by decide)
    rw [x1, bp_some]
    have k2 : c6 2 = c5 2 := x3 2 (by omega) (by omega)
    have k3 : c6 3 = c5 3 := x3 3 (by omega) (by omega)
    refine ⟨c6, m5, F3, T3, st3, X2 ++ [-10], a2, fu2, rfl, rfl, ⟨⟨by rw [k2]; exact v3.cb.1, fun j hj => by rw [k3]; exact v3.cb.2 j hj⟩, ⟨by rw [k2]; exact v3.cs.1, by rw [k2]; exact v3.cs.2.1, by rw [k2]; exact v3.cs.2.2⟩, by rw [k2]; exact v3.c5, by rw [← List.append_assoc]; exact x2, v3.rb, v3.rs, ?_, v3.tk, ?_, ?_⟩, v4, by omega, fun i hi => by rw [v6 i hi, g6.1 101 (by decide), fk 101 (by decide) (by decide)], (g5.cf.tr v7).tr ⟨fun q _ h2 h3 => x3 q h2 h3, by rw [k2]⟩, hmf.tr v8, v9.neg⟩
    · have e : C ++ (X2 ++ [-10]) ++ List.replicate j (-10) = C ++ X2 ++ List.replicate (j + 1) (-10 : Int32) := by rw [List.replicate_succ]; simp only [List.append_assoc, List.singleton_append]
      rw [e]; exact v3.mz
    · rw [← List.append_assoc, List.length_append, List.length_append, List.length_replicate]
      show _ + 1 + j + _ ≤ _
      omega
    · rw [← List.append_assoc, List.length_append]
      show _ + 1 ≤ _
      omega
  · right
    have v1' : (f_rd N n).2 o (nI pp) (nI (cN W0 + j + 1)) c4 = some c5 := v1
    rw [v1', bp_some, show f_M_takesE_L28 N fu (nI pp) (nI (cN W0 + (j + 1))) 1 m4 = _ from v2]
    obtain ⟨c6, k3, x1, x2, x3, x4⟩ := X_any v6 v7 33
    have k5 : c6 2 = c5 2 := x4 2 (by omega) (by omega)
    rw [x1, bp_some]
    exact ⟨c6, m5, Fe, k3, rfl, rfl, by rw [k5]; exact v3, v4, v5, x2, x3, (g5.cf.tr v8).tr ⟨fun q _ h2 h3 => x4 q h2 h3, by rw [k5]⟩, hmf.tr v9⟩
/-- where the reference ends without a bracket that closes -/
theorem R_end (hL : L ≤ 96) (hB : ∀ j, j < L → B j < 256) (hN : 500 ≤ N) {c m : Mm} {F T : Nat} {st : Bool} {C R W S : List Int32} {a pp fu : Nat} {b2 : Int32} (hj : Jn B L o key c m F T st C R (W ++ S) a) (hp : pp ≤ 9) (hst : stops W 0) (hS : ∀ x ∈ S, x ≠ (-11)) (h41 : F < L → B F = 41 → pp = 0) (hNJ : NJ B L 0 pp F m) : ∃ m2, f_M_takesE_L28 N (fu + 1) (nI pp) b2 0 m = some (if F = L ∧ pp = 0 then 1 else 0, m2) ∧ m2 91 9 = nI F ∧ MFr m m2 ∧ (F = L → MZ m2 (R ++ S.reverse) W a key) := by
  have hF := hj.F
  by_cases q : F = L
  · have ln := hj.ln
    rw [List.length_append] at ln
    obtain ⟨m2, u1, u2, u3⟩ := M_settle (r := 0) (by decide) hst hN (fun x hx => ⟨hS x hx, Nat.zero_le _⟩) (by omega) hj.mz
    rw [U_end (hj.rs.2.2.1 q), show f_M_settle N 0 m = _ from u1, bp_some]
    refine ⟨m2, ?_, by rw [u3.2 9 (by decide) (by decide)]; exact hj.rs.1, u3.mf, fun _ => u2⟩
    by_cases z : pp = 0
    · rw [if_pos (show nI pp = 0 by rw [z]; rfl), if_pos ⟨q, z⟩]
    · rw [if_neg (show ¬ nI pp = 0 from fun y => z ((r_eq (n := 0) (by omega) (by decide)).mp y)), if_neg (fun y => z y.2)]
  · have hl : F < L := by omega
    refine ⟨m, ?_, hj.rs.1, MFr.rf, fun z => absurd z q⟩
    rw [if_neg (fun y => q y.1)]
    have h10 : ¬ m 91 10 = 0 := by
      by_cases l : isLb (B F) = true
      · rw [(hj.rs.2.2.2.1 hl l).1]; split <;> decide
      by_cases d : isDb (B F) = true
      · rw [(hj.rs.2.2.2.2.1 hl d).1]; split <;> decide
      rw [(hj.rs.sg hl l d).1]; decide
    refine U_stop h10 ?_ (M_sign hB hj.rs hF) ?_
    · by_cases h3 : m 91 10 = 3
      · by_cases z : pp = 0
        · exact Or.inr (Or.inr (by rw [z]; decide))
        · refine Or.inr (Or.inl ?_)
          have hB8 := hB F hl
          have l : ¬ isLb (B F) = true := fun l => by rw [(hj.rs.2.2.2.1 hl l).1] at h3; revert h3; cases st <;> decide
          have d : ¬ isDb (B F) = true := fun d => by
            rw [(hj.rs.2.2.2.2.1 hl d).1] at h3
            by_cases y : st = true ∨ 4 < T - F
            · rw [if_pos y] at h3; exact absurd h3 (by decide)
            · rw [if_neg y] at h3; exact absurd h3 (by decide)
          rw [(hj.rs.sg hl l d).2]
          intro y
          exact z (h41 hl ((r_eq (n := 41) (by omega) (by decide)).mp y))
      · exact Or.inl h3
    · rcases hNJ with z | z | ⟨z1, z2⟩
      · exact Or.inl z
      · left
        by_cases y : sgF B L F = 0
        · exact y
        · unfold sgF at y z
          rw [if_pos hl] at y z
          have := (sgn_s _ (hB F hl) y).2.2.2.1
          omega
      · exact Or.inr ⟨by rw [z1]; rfl, inb_nI (by omega) (by decide), by rw [ix_nI (by omega)]; exact z2⟩
theorem T_clos (hL : L ≤ 96) {c : Mm} (cb : CB B L c) {F : Nat} (hF : F ≤ L) (e2 : c 2 2 = nI F) (e5 : c 2 5 = (-1)) (hB : ∀ j, j < L → B j < 256) : f_T_readClosing N c = if F < L ∧ B F = 41 then f_T_step N c else some (mst c 2 5 (nI F)) := by
  unfold f_T_readClosing
  rw [if_pos e5, T_here cb hL hF e2, bp_some, T_fail e5 e2, bp_some]
  by_cases hl : F < L
  · have := hB F hl
    rw [if_pos hl]
    by_cases q : B F = 41
    · rw [if_pos (show nI (B F) = 41 from (r_eq (n := 41) (by omega) (by decide)).mpr q), if_pos ⟨hl, q⟩]
      cases f_T_step N c <;> rfl
    · rw [if_neg (show ¬ nI (B F) = 41 from fun z => q ((r_eq (n := 41) (by omega) (by decide)).mp z)), if_neg (fun z => q z.2)]
  · rw [if_neg hl, if_neg (show ¬ (-1 : Int32) = 41 by decide), if_neg (fun z => hl z.1)]
theorem P_open (hL : L ≤ 96) (hB : ∀ j, j < L → B j < 256) (hN : 500 ≤ N) (ho : 7 ≤ o) {n : Nat} (ih : LEVEL B L o key N n) {c m : Mm} {F T : Nat} {st : Bool} {C W0 : List Int32} {j a pp fu : Nat} (hj : Jn B L o key c m F T st C C (W0 ++ List.replicate j (-10)) a) (hst : stops W0 6) (hw : cN W0 + j ≤ 8) (hp : pp < 8) (hms : 7 * (8 - pp) + (8 - (cN W0 + j)) + 1 ≤ n + 1) (hF : F < L) (h40 : B F = 40) (hfu : L + 2 ≤ fu + F) : OKP B L o key N c m F pp j C W0 (bp (f_T_step N c) fun m_96 => bp ((f_rd N n).1 o 0 (nI pp + 1) (nI (cN W0 + j)) m_96) fun m_106 => bp (f_T_readClosing N m_106) fun m_110 => some m_110) (f_M_takesE_L28 N fu (nI pp) (nI (cN W0 + j)) 1 m) ∨ FA o L c m (bp (f_T_step N c) fun m_96 => bp ((f_rd N n).1 o 0 (nI pp + 1) (nI (cN W0 + j)) m_96) fun m_106 => bp (f_T_readClosing N m_106) fun m_110 => some m_110) (f_M_takesE_L28 N fu (nI pp) (nI (cN W0 + j)) 1 m) := by
  obtain ⟨fu, rfl⟩ : ∃ f, fu = f + 1 := ⟨fu - 1, by omega⟩
  obtain ⟨r10, r11⟩ := hj.rs.sg hF (by rw [h40]; decide) (by rw [h40]; decide)
  rw [h40] at r11
  have ln := hj.ln
  have lc := hj.lc
  have l20 := hj.mz.2.2.1
  generalize eW : W0 ++ List.replicate j (-10 : Int32) = W at *
  have hcw : cN W = cN W0 + j := by rw [← eW]; exact cN_rep W0 j
  have hcw2 : cN (W ++ [-11]) = cN W0 + j := by rw [cN_sn, if_neg (by decide), hcw]; rfl
  rw [U_open r10 r11 (l_ge (n := 8) hp (by decide)), l20, if_pos (inb_nI (by omega) (by decide)), ix_nI (by omega), lt_eq, mst_ck (k2 := 91) (by decide), l20, nI_1, lt_eq, nI_1, if_pos (inb_nI (by omega) (by decide)), ix_nI (by omega), lt_eq]
  have mz2 := (R_push m hj.mz (by omega) (-11)).t (pp + 1) 0
  have hl1 : (W ++ [(-11 : Int32)]).length = W.length + 1 := by rw [List.length_append]; rfl
  generalize em2 : mst (mst (mst m 100 W.length (-11)) 91 20 (nI (W.length + 1))) 101 (pp + 1) 0 = m2 at mz2 ⊢
  have f91 : ∀ i, i ≠ 20 → m2 91 i = m 91 i := fun i hi => by rw [← em2, mst_ck (by decide), mst_i hi, mst_ck (by decide)]
  have fk : ∀ k, k ≠ 91 → k ≠ 100 → k ≠ 101 → m2 k = m k := fun k h1 h2 h3 => by rw [← em2, mst_ck h3, mst_ck h1, mst_ck h2]
  have ft : ∀ i, i ≠ pp + 1 → m2 101 i = m 101 i := fun i hi => by rw [← em2, mst_i hi, mst_ck (by decide), mst_ck (by decide)]
  have ft0 : m2 101 (pp + 1) = 0 := by rw [← em2, mst_at]
  obtain ⟨c4, m4, F2, T2, st2, g1, g2, g3, g4, g5, g6⟩ := Jn.go hL hB hN ho hj hF rfl rfl (fk 96 (by decide) (by decide) (by decide)) (fun i h1 h2 => f91 i (by omega)) hj.xs mz2 (by rw [hl1]; omega) (by omega)
  have f2 := g3.F
  have ln3 := g3.ln
  have m4t : m4 101 = m2 101 := g6.1 101 (by decide)
  rw [g1, g2, bp_some, bp_some, M_nots hN g3.mz (by omega), bp_some, hcw2]
  have hmf : MFr m m4 := MFr.tr ⟨fun k k1 _ k3 k4 => fk k k1 k3 k4, fun i _ _ _ _ _ _ _ a8 => f91 i a8⟩ g6.mf
  have hih := ih 0 c4 m4 F2 T2 st2 C (W ++ [-11]) a (pp + 1) fu (by omega) g3 (Or.inr ⟨W, _, rfl, Or.inl rfl⟩) (by rw [hcw2]; exact hw) (by omega) (by rw [hcw2]; omega) (by omega) (Or.inl (by rw [m4t]; exact ft0)) (fun _ => by rw [m4t]; exact ft0)
  rw [hcw2] at hih
  rcases hih with ⟨c5, m5, F3, T3, st3, X2, R2, S2, a2, fu2, v1, v2, v3, v4, v5, v6, v7, v8, v9, v10, v11, v12, v13, v14⟩ | ⟨c5, m5, Fe, k2, v1, v2, v3, v4, v5, v6, v7, v8, v9⟩
  · have v1' : (f_rd N n).1 o 0 (nI (pp + 1)) (nI (cN W0 + j)) c4 = some c5 := v1
    rw [v1', bp_some, v2, hcw2]
    have f3 := v3.F
    rw [T_clos hL v3.cb f3 v3.cs.1 v3.c5 hB]
    obtain ⟨fu2, rfl⟩ : ∃ f, fu2 = f + 1 := ⟨fu2 - 1, by omega⟩
    have hcf5 : CFr o c c5 := g5.cf.tr v12
    have hmf5 : MFr m m5 := hmf.tr v13
    have ln5 := v3.ln
    have hlW : W.length = W0.length + j := by rw [← eW, List.length_append, List.length_replicate]
    rw [List.length_append, hl1] at ln5
    by_cases hcl : F3 < L ∧ B F3 = 41
    · left
      rw [if_pos hcl]
      obtain ⟨hF3, h41⟩ := hcl
      obtain ⟨s10, s11⟩ := v3.rs.sg hF3 (by rw [h41]; decide) (by rw [h41]; decide)
      rw [h41] at s11
      obtain ⟨m6, w1, w2, w3⟩ := M_settle (r := 0) (by decide) (Or.inr ⟨W, (-11), rfl, Or.inl rfl⟩) hN (fun x hx => ⟨(v7 x hx).1, Nat.zero_le _⟩) (by rw [hl1]; omega) v3.mz
      rw [U_close s10 s11 (show ¬ nI (pp + 1) ≤ 0 from nI_nle (by omega) (by omega)), show f_M_settle N 0 m5 = _ from w1, bp_some, lt_eq, w2.2.2.1, hl1, nI_pred]
      have mz7 : MZ (mst m6 91 20 (nI W.length)) (C ++ X2) (W0 ++ List.replicate j (-10)) a2 key := by
        obtain ⟨y1, y2, y3, y4, y5, y6⟩ := w2
        rw [← v4] at y1 y2
        rw [eW]
        exact ⟨by rw [mst_i (by decide)]; exact y1, by rw [mst_ck (by decide)]; exact y2, mst_at _ _ _ _, by rw [mst_ck (by decide)]; exact y4.pre, by rw [mst_i (by decide)]; exact y5, by rw [mst_i (by decide)]; exact y6⟩
      have lX : (C ++ X2).length = R2.length + S2.length := by rw [v4, List.length_append, List.length_reverse]
      obtain ⟨m8, z1, z2, z3⟩ := M_settle (r := 6) (by decide) hst hN (fun x hx => by rw [List.eq_of_mem_replicate hx]; exact ⟨by decide, by decide⟩) (by rw [List.length_replicate]; omega) mz7
      rw [List.reverse_replicate] at z2
      rw [show f_M_settle N 6 (mst m6 91 20 (nI W.length)) = _ from z1, bp_some, M_nots hN z2 (by omega), bp_some]
      have f91b : ∀ i, i ≠ 17 → i ≠ 20 → m8 91 i = m5 91 i := fun i h1 h2 => by rw [z3.2 i h1 h2, mst_i h2, w3.2 i h1 h2]
      have fkb : ∀ k, k ≠ 91 → k ≠ 99 → m8 k = m5 k := fun k h1 h2 => by rw [z3.1 k h1 h2, mst_ck h1, w3.1 k h1 h2]
      obtain ⟨c9, m9, F4, T4, st4, p1, p2, p3, p4, p5, p6⟩ := Jn.go hL hB hN ho v3 hF3 rfl rfl (fkb 96 (by decide) (by decide)) (fun i h1 h2 => f91b i (by omega) (by omega)) v3.xs z2 (by rw [List.length_append, List.length_replicate]; omega) (by omega)
      rw [p1, p2, bp_some, bp_some, pm1 pp hp]
      exact ⟨c9, m9, F4, T4, st4, X2, a2, fu2, rfl, rfl, p3, by omega, by omega, fun i hi => by rw [p6.1 101 (by decide), fkb 101 (by decide) (by decide), v10 i (by omega), m4t, ft i (by omega)], hcf5.tr p5.cf, (hmf5.tr ⟨fun k k1 k2 _ _ => fkb k k1 k2, fun i _ _ _ _ _ a6 _ a8 => f91b i a6 a8⟩).tr p6.mf, v14⟩
    · right
      rw [if_neg hcl, bp_some]
      obtain ⟨m6, w1, w2, w3, w4⟩ := R_end (fu := fu2) (b2 := nI (cN W0 + j)) hL hB hN v3 (by omega) (Or.inr ⟨W, (-11), rfl, Or.inl rfl⟩) (fun x hx => (v7 x hx).1) (fun h1 h2 => absurd ⟨h1, h2⟩ hcl) v8
      rw [if_neg (fun y => by have := y.2; omega)] at w1
      have lc5 := v3.lc
      exact ⟨_, m6, F3, (C ++ X2).length, rfl, w1, ⟨mst_at _ _ _ _, by rw [mst_i (by decide)]; exact v3.cs.1⟩, w2, f3, by omega, by rw [mst_ck (by omega)]; exact v3.xs.2.2.1, hcf5.tr ⟨fun k k1 _ _ => mst_ck k1, mst_i (by decide)⟩, hmf5.tr w3⟩
  · right
    have v1' : (f_rd N n).1 o 0 (nI (pp + 1)) (nI (cN W0 + j)) c4 = some c5 := v1
    rw [v1', bp_some, v2]
    have : f_T_readClosing N c5 = some c5 := by
      unfold f_T_readClosing
      rw [if_neg (by rw [v3.1]; exact nI_m1 (by omega))]
    rw [this, bp_some]
    exact ⟨c5, m5, Fe, k2, rfl, rfl, v3, v4, v5, v6, v7, g5.cf.tr v8, hmf.tr v9⟩
theorem PIECE_succ (hL : L ≤ 96) (hB : ∀ j, j < L → B j < 256) (hN : 500 ≤ N) (ho : 7 ≤ o) (hk : key < 3) {n : Nat} (ih : LEVEL B L o key N n) (ihp : PIECE B L o key N n) : PIECE B L o key N (n + 1) := by
  intro c m F T st C W0 j a pp fu hj hst hw hp hms hfu
  show OKP B L o key N c m F pp j C W0 (f_T_readPieceF (f_rd N n).1 (f_rd N n).2 N o (nI pp) (nI (cN W0 + j)) c) _ ∨ FA o L c m (f_T_readPieceF (f_rd N n).1 (f_rd N n).2 N o (nI pp) (nI (cN W0 + j)) c) _
  unfold f_T_readPieceF
  have hFL := hj.F
  have hfl : f_T_fail c = some (mst c 2 5 (nI F)) := T_fail hj.c5 hj.cs.1
  have nrm : ∀ x : Option Mm, (bp x fun m_1 => some m_1) = x := fun x => by cases x <;> rfl
  rw [if_pos hj.c5, T_here hj.cb hL hFL hj.cs.1, bp_some]
  by_cases hF : F < L
  · have hb := hB F hF
    rw [if_pos hF, T_isL hb, bp_some]
    by_cases l : isLb (B F) = true
    · rw [if_pos l, if_neg nz1, nrm]
      exact P_name hL hB hN ho hk hj hst hF l hfu
    rw [if_neg l, if_pos rfl, T_isD hb, bp_some]
    by_cases d : isDb (B F) = true
    · rw [if_pos d, if_neg nz1, nrm]
      exact P_num hL hB hN ho hj hst hF d hfu
    rw [if_neg d, if_pos rfl]
    obtain ⟨r10, r11⟩ := hj.rs.sg hF l d
    have n2 : ¬ m 91 10 = 2 := by rw [r10]; decide
    have n1 : ¬ m 91 10 = 1 := by rw [r10]; decide
    have e33 : nI (B F) = 33 ↔ B F = 33 := r_eq (n := 33) (by omega) (by decide)
    have e40 : nI (B F) = 40 ↔ B F = 40 := r_eq (n := 40) (by omega) (by decide)
    by_cases h33 : B F = 33
    · have h40 : ¬ nI (B F) = 40 := fun z => by have := e40.mp z; omega
      rw [if_pos (e33.mpr h33), if_neg h40]
      by_cases h8 : cN W0 + j < 8
      · rw [if_neg (l_ge (n := 8) h8 (by decide))]
        exact P_not hL hB hN ho ihp hj hst h8 hp hms hF h33 hfu
      · right
        rw [if_pos (l_le (n := 8) (by omega) (by omega)), hfl, bp_some]
        obtain ⟨fu, rfl⟩ : ∃ f, fu = f + 1 := ⟨fu - 1, by omega⟩
        exact P_bad hL ho hj rfl (R_bad3 (Or.inr (Or.inr (Or.inl ⟨by rw [r11]; exact e33.mpr h33, l_le (n := 8) (by omega) (by omega)⟩))) ⟨n2, n1⟩)
    rw [if_neg (fun z => h33 (e33.mp z))]
    by_cases h40 : B F = 40
    · rw [if_pos (e40.mpr h40)]
      by_cases h8 : pp < 8
      · rw [if_neg (l_ge (n := 8) h8 (by decide))]
        exact P_open hL hB hN ho ih hj hst hw h8 hms hF h40 hfu
      · right
        rw [if_pos (l_le (n := 8) (by omega) (by omega)), hfl, bp_some]
        obtain ⟨fu, rfl⟩ : ∃ f, fu = f + 1 := ⟨fu - 1, by omega⟩
        exact P_bad hL ho hj rfl (R_bad3 (Or.inr (Or.inr (Or.inr ⟨by rw [r11]; exact e40.mpr h40, l_le (n := 8) (by omega) (by omega)⟩))) ⟨n2, n1⟩)
    · right
      rw [if_neg (fun z => h40 (e40.mp z)), hfl, bp_some]
      obtain ⟨fu, rfl⟩ : ∃ f, fu = f + 1 := ⟨fu - 1, by omega⟩
      exact P_bad hL ho hj rfl (R_bad3 (Or.inr (Or.inl ⟨by rw [r11]; exact fun z => h33 (e33.mp z), by rw [r11]; exact fun z => h40 (e40.mp z)⟩)) ⟨n2, n1⟩)
  · right
    rw [if_neg hF, show f_T_isLetter (-1) = some 0 from rfl, bp_some, if_pos rfl, show f_T_isDigit (-1) = some 0 from rfl, bp_some, if_pos rfl, if_neg (show ¬ (-1 : Int32) = 33 by decide), if_neg (show ¬ (-1 : Int32) = 40 by decide), hfl, bp_some]
    obtain ⟨fu, rfl⟩ : ∃ f, fu = f + 1 := ⟨fu - 1, by omega⟩
    have e0 := hj.rs.2.2.1 (show F = L by omega)
    exact P_bad hL ho hj rfl (R_bad3 (Or.inl (by rw [e0]; decide)) ⟨by rw [e0]; decide, by rw [e0]; decide⟩)
theorem RD (hL : L ≤ 96) (hB : ∀ j, j < L → B j < 256) (hN : 500 ≤ N) (ho : 7 ≤ o) (hk : key < 3) : ∀ n, LEVEL B L o key N n ∧ PIECE B L o key N n
  | 0 => ⟨fun l c m F T st C W a pp fu hl _ _ _ _ h _ _ _ => by omega, fun c m F T st C W0 j a pp fu _ _ _ _ h _ => by omega⟩
  | n + 1 => by
    obtain ⟨h1, h2⟩ := RD hL hB hN ho hk n
    exact ⟨LEVEL_succ hL hB hN ho h1 h2, PIECE_succ hL hB hN ho hk h1 h2⟩
end RDD
