/-! PURE: copy, lay -/
theorem M_cp1 {m0 : Mm} {s pl n : Nat} (hs : s < 4) (hp : pl + n ≤ 24) (b3 b4 : Int32) : ∀ (d k F : Nat) (m : Mm), k + d = n → d < F → (∀ q, q ≠ 111 → m q = m0 q) → (∀ j, j < k → m 111 j = m0 106 (24 * s + pl + j)) → ∃ m2, f_M_copy_L103 F (nI s) (nI pl) b3 b4 (nI n) (nI k) m = some (nI n, m2) ∧ (∀ j, j < n → m2 111 j = m0 106 (24 * s + pl + j)) ∧ ∀ q, q ≠ 111 → m2 q = m0 q
  | 0, k, F, m, h, hF, hq, hj => by
    obtain ⟨F, rfl⟩ : ∃ f, F = f + 1 := ⟨F - 1, by omega⟩
    have : k = n := by omega
    subst this
    exact ⟨m, by rw [f_M_copy_L103, if_pos (nI_le (Nat.le_refl _) (by omega))], hj, hq⟩
  | d + 1, k, F, m, h, hF, hq, hj => by
    obtain ⟨F, rfl⟩ : ∃ f, F = f + 1 := ⟨F - 1, by omega⟩
    have ex : (24 : Int32) * nI s + nI pl + nI k = nI (24 * s + pl + k) := by rw [show (24 : Int32) = nI 24 from rfl, pk_mul, nI_add, nI_add]
    rw [f_M_copy_L103, if_neg (nI_ge (by omega) (by omega)), ex, if_pos (inb_nI (by omega) (by decide)), if_pos (inb_nI (by omega) (by decide)), ix_nI (by omega), ix_nI (by omega), lt_eq, nI_1]
    exact M_cp1 (m0 := m0) hs hp b3 b4 d (k + 1) F _ (by omega) (by omega) (fun q h => by rw [mst_ck h]; exact hq q h) (fun j hjk => by
      by_cases e : j = k
      · rw [e, mst_at, hq 106 (by omega)]
      · rw [mst_i e]; exact hj j (by omega))
theorem M_cp2 {m0 : Mm} {s at0 n : Nat} {f : Nat → Int32} (hs : s < 4) (hp : at0 + n ≤ 24) (b1 b2 : Int32) : ∀ (d k F : Nat) (m : Mm), k + d = n → d < F → (∀ j, j < n → m 111 j = f j) → (∀ q, q ≠ 106 → m q = m0 q) → (∀ q, m 106 q = if 24 * s + at0 ≤ q ∧ q < 24 * s + at0 + k then f (q - (24 * s + at0)) else m0 106 q) → ∃ m2, f_M_copy_L140 F b1 b2 (nI s) (nI at0) (nI n) (nI k) m = some (nI n, m2) ∧ (∀ q, m2 106 q = if 24 * s + at0 ≤ q ∧ q < 24 * s + at0 + n then f (q - (24 * s + at0)) else m0 106 q) ∧ ∀ q, q ≠ 106 → m2 q = m0 q
  | 0, k, F, m, h, hF, hm, hq, hj => by
    obtain ⟨F, rfl⟩ : ∃ f, F = f + 1 := ⟨F - 1, by omega⟩
    have : k = n := by omega
    subst this
    exact ⟨m, by rw [f_M_copy_L140, if_pos (nI_le (Nat.le_refl _) (by omega))], hj, hq⟩
  | d + 1, k, F, m, h, hF, hm, hq, hj => by
    obtain ⟨F, rfl⟩ : ∃ f, F = f + 1 := ⟨F - 1, by omega⟩
    have ex : (24 : Int32) * nI s + nI at0 + nI k = nI (24 * s + at0 + k) := by rw [show (24 : Int32) = nI 24 from rfl, pk_mul, nI_add, nI_add]
    rw [f_M_copy_L140, if_neg (nI_ge (by omega) (by omega)), ex, if_pos (inb_nI (by omega) (by decide)), if_pos (inb_nI (by omega) (by decide)), ix_nI (by omega), ix_nI (by omega), lt_eq, nI_1]
    refine M_cp2 (m0 := m0) (f := f) hs hp b1 b2 d (k + 1) F _ (by omega) (by omega) (fun j hjn => by rw [mst_ck (by omega)]; exact hm j hjn) (fun q h => by rw [mst_ck h]; exact hq q h) (fun q => ?_)
    by_cases e : q = 24 * s + at0 + k
    · rw [e, mst_at, if_pos ⟨by omega, by omega⟩, hm k (by omega)]
      congr 1; omega
    · rw [mst_i e, hj q]
      by_cases z : 24 * s + at0 ≤ q ∧ q < 24 * s + at0 + k
      · rw [if_pos z, if_pos ⟨z.1, by omega⟩]
      · rw [if_neg z, if_neg (fun y => z ⟨y.1, by omega⟩)]
/-- places copied on both sides -/
theorem Good.cpy {m m2 : Mm} (g : Good m) {s u pl at0 n : Nat} (hs : s < 4) (hu : u < 4) (hp : pl + n ≤ 24) (ha : at0 + n ≤ 24) (h1 : ∀ q, q ≠ 68 + 2 * u + 1 → q ≠ 106 → q ≠ 111 → m2 q = m q) (h2 : m2 (68 + 2 * u + 1) = va_cpy (m (68 + 2 * s + 1)) (m (68 + 2 * u + 1)) pl at0 n) (h3 : ∀ q, m2 106 q = if 24 * u + at0 ≤ q ∧ q < 24 * u + at0 + n then m 106 (24 * s + pl + (q - (24 * u + at0))) else m 106 q) : Good m2 := by
  refine g.rep (fun q hq => h1 q (by omega) (by omega) (by omega)) (by rw [h1 0 (by omega) (by omega) (by omega)]) (by rw [h1 91 (by omega) (by omega) (by omega)]) (by rw [h1 91 (by omega) (by omega) (by omega)]) (g.2.2.1.cg (by rw [h1 2 (by omega) (by omega) (by omega)]) (h1 3 (by omega) (by omega) (by omega)) (by rw [h1 91 (by omega) (by omega) (by omega)]) (h1 96 (by omega) (by omega) (by omega))) (g.2.2.2.1.cg (by rw [h1 0 (by omega) (by omega) (by omega)]) (h1 6 (by omega) (by omega) (by omega)) (by rw [h1 91 (by omega) (by omega) (by omega)]) (h1 112 (by omega) (by omega) (by omega))) ?_ (g.2.2.2.2.2.1.cg (fun q _ _ => h1 q (by omega) (by omega) (by omega)) (h1 107 (by omega) (by omega) (by omega)) (h1 108 (by omega) (by omega) (by omega)) (h1 109 (by omega) (by omega) (by omega)) (h1 110 (by omega) (by omega) (by omega)))
  intro v hv
  obtain ⟨q1, q2, q3, q4⟩ := g.2.2.2.2.1 v hv
  by_cases e : v = u
  · subst e
    refine ⟨by rw [h1 _ (by omega) (by omega) (by omega), h1 104 (by omega) (by omega) (by omega)]; exact q1, by rw [h1 104 (by omega) (by omega) (by omega)]; exact q2, by rw [h1 _ (by omega) (by omega) (by omega), h1 104 (by omega) (by omega) (by omega), h1 105 (by omega) (by omega) (by omega)]; exact q3, fun j hj => ?_⟩
    rw [h2, h3]
    by_cases z : at0 ≤ j ∧ j < at0 + n
    · rw [pk_cpy_in z.1 z.2, if_pos ⟨by omega, by omega⟩, show 24 * v + j - (24 * v + at0) = j - at0 by omega, show 24 * s + pl + (j - at0) = 24 * s + (pl + (j - at0)) by omega]
      exact (g.2.2.2.2.1 s hs).2.2.2 (pl + (j - at0)) (by omega)
    · rw [pk_cpy_out (by omega), if_neg (by omega)]
      exact q4 j hj
  · exact (g.2.2.2.2.1 v hv).cg (h1 _ (by omega) (by omega) (by omega)) (h1 _ (by omega) (by omega) (by omega)) (by rw [h1 104 (by omega) (by omega) (by omega)]) (by rw [h1 105 (by omega) (by omega) (by omega)]) (fun j hj => by rw [h3, if_neg (by omega)])
theorem ok_copy {m : Mm} (g : Good m) (a b c d e : Int32) {N : Nat} (hN : 500 ≤ N) : Ok2 (f_S_copy a b c d e) (f_M_copy N a b c d e) m := by
  unfold Ok2 f_S_copy
  rcases sh_cases a with ⟨s, hs, rfl, s1, s2⟩ | ⟨s1, s2⟩
  case inr => exact ⟨_, m, m, by rw [s1, bp_some, if_pos rfl], by unfold f_M_copy; rw [s2, bp_some, if_pos rfl], g⟩
  rcases sh_cases c with ⟨u, hu, rfl, t1, t2⟩ | ⟨t1, t2⟩
  case inr => exact ⟨_, m, m, by rw [s1, bp_some, if_neg nz1, t1, bp_some, if_pos rfl], by unfold f_M_copy; rw [s2, bp_some, if_neg nz1, t2, bp_some, if_pos rfl], g⟩
  obtain ⟨q1, q2, ⟨n, q3, q4, q5, -⟩, q6⟩ := g.2.2.2.2.1 s hs
  obtain ⟨p1, p2, ⟨k, p3, p4, p5, -⟩, p6⟩ := g.2.2.2.2.1 u hu
  have is1 : inb (nI s) 4 = true := inb_nI hs (by decide)
  have iu1 : inb (nI u) 4 = true := inb_nI hu (by decide)
  have is2 : ix (nI s) = s := ix_nI (by omega)
  have iu2 : ix (nI u) = u := ix_nI (by omega)
  rw [s1, bp_some, if_neg nz1, t1, bp_some, if_neg nz1, if_pos is1, if_pos iu1, is2, iu2, q1, p1]
  have hM : ∀ d0 : Mm, (∀ q, q ≠ 68 + 2 * u + 1 → d0 q = m q) → f_M_copy N (nI s) b (nI u) d e d0 = (if m 104 s < 0 then some ((-1000000011), d0) else if 0 ≤ m 104 u then if m 104 s = m 104 u then if b < 0 then some ((-1000000013), d0) else if d < 0 then some ((-1000000013), d0) else if e < 0 then some ((-1000000013), d0) else if (nI n) - e < b then some ((-1000000013), d0) else if d ≤ (nI k) - e then bd (f_M_copy_L103 N (nI s) b (nI u) d e 0 d0) fun y_103 m_103 => bd (f_M_copy_L140 N (nI s) b (nI u) d e 0 m_103) fun y_140 m_140 => some (e, m_140) else some ((-1000000013), d0) else some ((-1000000012), d0) else some ((-1000000011), d0)) := by
    intro d0 hd
    unfold f_M_copy
    rw [s2, bp_some, if_neg nz1, t2, bp_some, if_neg nz1, if_pos is1, if_pos iu1, is2, iu2, hd 104 (by omega), hd 105 (by omega), q5, p5]
  have hMm := hM m (fun _ _ => rfl)
  rcases sort_cases g hs with ⟨z1, z2, z3⟩ | ⟨z1, z2, z3⟩
  · rw [if_pos z1]
    rw [if_pos z3] at hMm
    exact ⟨_, m, m, rfl, hMm, g⟩
  rw [if_neg z1]
  rw [if_neg z3] at hMm
  rcases sort_cases g hu with ⟨y1, y2, y3⟩ | ⟨y1, y2, y3⟩
  · rw [if_pos y1]
    rw [if_neg y2] at hMm
    exact ⟨_, m, m, rfl, hMm, g⟩
  rw [if_neg y1]
  rw [if_pos y2] at hMm
  by_cases se : m 104 s = m 104 u
  case neg =>
    rw [if_neg se]
    rw [if_neg se] at hMm
    exact ⟨_, m, m, rfl, hMm, g⟩
  rw [if_pos se]
  rw [if_pos se] at hMm
  unfold f_H_hasStretch
  rw [q4, p4, bp_some, bp_some]
  have zn := ti_nI (n := n) (by omega)
  have zk := ti_nI (n := k) (by omega)
  have z0 : (0 : Int32).toInt = 0 := rfl
  have rb := rng b
  have rd := rng d
  have re := rng e
  -- what both sides ask
  by_cases ok : 0 ≤ b.toInt ∧ 0 ≤ d.toInt ∧ 0 ≤ e.toInt ∧ b.toInt + e.toInt ≤ n ∧ d.toInt + e.toInt ≤ k
  · obtain ⟨pl, hpl, rfl⟩ := nat_of (x := b) (n := 25) (by omega) (by omega)
    obtain ⟨at0, hat, rfl⟩ := nat_of (x := d) (n := 25) (by omega) (by omega)
    obtain ⟨cn, hcn, rfl⟩ := nat_of (x := e) (n := 25) (by omega) (by omega)
    have x1 := ti_nI (n := pl) (by omega)
    have x2 := ti_nI (n := at0) (by omega)
    have x3 := ti_nI (n := cn) (by omega)
    have l1 : pl + cn ≤ n := by omega
    have l2 : at0 + cn ≤ k := by omega
    have e1 : nI n - nI pl = nI (n - pl) := pk_sub (by omega)
    have e2 : nI k - nI at0 = nI (k - at0) := pk_sub (by omega)
    have e3 : nI n - nI cn = nI (n - cn) := pk_sub (by omega)
    have e4 : nI k - nI cn = nI (k - cn) := pk_sub (by omega)
    have hst1 : (if nI pl < 0 then (0 : Int32) else if nI cn < 0 then (0 : Int32) else if nI n < nI pl then (0 : Int32) else if nI n - nI pl < nI cn then (0 : Int32) else 1) = 1 := by
      rw [if_neg (nI_pos (by omega)), if_neg (nI_pos (by omega)), if_neg (nI_nlt (by omega) (by omega)), e1, if_neg (nI_nlt (by omega) (by omega))]
    have hst2 : (if nI at0 < 0 then (0 : Int32) else if nI cn < 0 then (0 : Int32) else if nI k < nI at0 then (0 : Int32) else if nI k - nI at0 < nI cn then (0 : Int32) else 1) = 1 := by
      rw [if_neg (nI_pos (by omega)), if_neg (nI_pos (by omega)), if_neg (nI_nlt (by omega) (by omega)), e2, if_neg (nI_nlt (by omega) (by omega))]
    have ck1 : cpok (nI pl) (nI cn) 24 = true := by
      unfold cpok
      rw [ix_nI (by omega), ix_nI (by omega)]
      simp only [Bool.and_eq_true, decide_eq_true_eq]
      exact ⟨l_le (n := 0) (by omega) (by omega), by omega⟩
    have ck2 : cpok (nI at0) (nI cn) 24 = true := by
      unfold cpok
      rw [ix_nI (by omega), ix_nI (by omega)]
      simp only [Bool.and_eq_true, decide_eq_true_eq]
      exact ⟨l_le (n := 0) (by omega) (by omega), by omega⟩
    rw [hst1, hst2, if_neg nz1, if_neg nz1, if_pos (l_le (n := 0) (by omega) (by omega)), if_pos ck1, if_pos ck2, ix_nI (by omega), ix_nI (by omega), ix_nI (by omega), lt_eq]
    have fz : ∀ q, q ≠ 68 + 2 * u + 1 → va_up m (68 + 2 * u + 1) (va_cpy (m (68 + 2 * s + 1)) (m (68 + 2 * u + 1)) pl at0 cn) q = m q := fun q hq => va_up_ne _ _ hq
    have fs : va_up m (68 + 2 * u + 1) (va_cpy (m (68 + 2 * s + 1)) (m (68 + 2 * u + 1)) pl at0 cn) (68 + 2 * u + 1) = va_cpy (m (68 + 2 * s + 1)) (m (68 + 2 * u + 1)) pl at0 cn := va_up_self _ _ _
    have hMc := hM _ fz
    generalize va_up m (68 + 2 * u + 1) (va_cpy (m (68 + 2 * s + 1)) (m (68 + 2 * u + 1)) pl at0 cn) = c1 at *
    obtain ⟨m3, w1, w2, w3⟩ := M_cp1 (m0 := c1) (s := s) (pl := pl) (n := cn) hs (by omega) (nI u) (nI at0) cn 0 N c1 (by omega) (by omega) (fun _ _ => rfl) (fun j hj => absurd hj (Nat.not_lt_zero j))
    obtain ⟨m4, v1, v2, v3⟩ := M_cp2 (m0 := m3) (s := u) (at0 := at0) (n := cn) (f := fun j => m 106 (24 * s + pl + j)) hu (by omega) (nI s) (nI pl) cn 0 N m3 (by omega) (by omega) (fun j hj => by rw [w2 j hj, fz 106 (by omega)]) (fun _ _ => rfl) (fun q => by rw [if_neg (by omega)])
    refine ⟨_, c1, m4, rfl, ?_, g.cpy (s := s) (u := u) (pl := pl) (at0 := at0) (n := cn) hs hu (by omega) (by omega) (fun q h1 h2 h3 => by rw [v3 q h2, w3 q h3]; exact fz q h1) (by rw [v3 _ (by omega), w3 _ (by omega)]; exact fs) (fun q => by rw [v2 q, w3 106 (by omega), fz 106 (by omega)])⟩
    rw [if_neg z3, if_pos y2, if_pos se, if_neg (nI_pos (by omega)), if_neg (nI_pos (by omega)), if_neg (nI_pos (by omega)), e3, if_neg (nI_nlt (by omega) (by omega)), e4, if_pos (nI_le (by omega) (by omega)), show f_M_copy_L103 N (nI s) (nI pl) (nI u) (nI at0) (nI cn) 0 c1 = _ from w1, bd_some, show f_M_copy_L140 N (nI s) (nI pl) (nI u) (nI at0) (nI cn) 0 m3 = _ from v1, bd_some] at hMc
    exact hMc
  · -- not within: INDEX on both sides
    have hMi : f_M_copy N (nI s) b (nI u) d e m = some ((-1000000013), m) := by
      rw [hMm]
      by_cases h1 : b < 0
      · rw [if_pos h1]
      rw [if_neg h1]
      rw [lt_ti] at h1
      by_cases h2 : d < 0
      · rw [if_pos h2]
      rw [if_neg h2]
      rw [lt_ti] at h2
      by_cases h3 : e < 0
      · rw [if_pos h3]
      rw [if_neg h3]
      rw [lt_ti] at h3
      have s1 : (nI n - e).toInt = n - e.toInt := by rw [sub_ti (by omega) (by omega)]; omega
      have s2 : (nI k - e).toInt = k - e.toInt := by rw [sub_ti (by omega) (by omega)]; omega
      by_cases h4 : nI n - e < b
      · rw [if_pos h4]
      rw [if_neg h4]
      rw [lt_ti] at h4
      rw [if_neg (fun q => by have := le_ti.mp q; omega)]
    refine ⟨(-1000000013), m, m, ?_, hMi, g⟩
    by_cases h1 : (if b < 0 then (0 : Int32) else if e < 0 then (0 : Int32) else if nI n < b then (0 : Int32) else if nI n - b < e then (0 : Int32) else 1) = 0
    · rw [if_pos h1]
    · rw [if_neg h1]
      by_cases h2 : (if d < 0 then (0 : Int32) else if e < 0 then (0 : Int32) else if nI k < d then (0 : Int32) else if nI k - d < e then (0 : Int32) else 1) = 0
      · rw [if_pos h2]
      · exfalso
        by_cases a1 : b < 0
        · rw [if_pos a1] at h1; exact h1 rfl
        rw [if_neg a1] at h1
        by_cases a2 : e < 0
        · rw [if_pos a2] at h1; exact h1 rfl
        rw [if_neg a2] at h1 h2
        by_cases a3 : nI n < b
        · rw [if_pos a3] at h1; exact h1 rfl
        rw [if_neg a3] at h1
        by_cases a4 : nI n - b < e
        · rw [if_pos a4] at h1; exact h1 rfl
        by_cases b1 : d < 0
        · rw [if_pos b1] at h2; exact h2 rfl
        rw [if_neg b1] at h2
        by_cases b3 : nI k < d
        · rw [if_pos b3] at h2; exact h2 rfl
        rw [if_neg b3] at h2
        by_cases b4 : nI k - d < e
        · rw [if_pos b4] at h2; exact h2 rfl
        rw [lt_ti] at a1 a2 a3 a4 b1 b3 b4
        have s1 : (nI n - b).toInt = n - b.toInt := by rw [sub_ti (by omega) (by omega)]; omega
        have s2 : (nI k - d).toInt = k - d.toInt := by rw [sub_ti (by omega) (by omega)]; omega
        omega
