/-! PURE: the words and signs on a tape, in the class and in the reference -/
def isLb (b : Nat) : Bool := decide (97 ≤ b) && decide (b ≤ 122)
def isDb (b : Nat) : Bool := decide (48 ≤ b) && decide (b ≤ 57)
theorem isLb_iff {b : Nat} : isLb b = true ↔ 97 ≤ b ∧ b ≤ 122 := by unfold isLb; simp only [Bool.and_eq_true, decide_eq_true_eq]
theorem isDb_iff {b : Nat} : isDb b = true ↔ 48 ≤ b ∧ b ≤ 57 := by unfold isDb; simp only [Bool.and_eq_true, decide_eq_true_eq]
theorem LnD {b : Nat} (h : isLb b = true) : isDb b = false := by
  have := isLb_iff.mp h
  cases hd : isDb b with
  | false => rfl
  | true => have := isDb_iff.mp hd; omega
def Sk (B : Nat → Nat) (L p q : Nat) : Prop := p ≤ q ∧ q ≤ L ∧ (∀ j, p ≤ j → j < q → B j = 32) ∧ (q < L → B q ≠ 32)
def We (B : Nat → Nat) (P : Nat → Bool) (L p q : Nat) : Prop := p < q ∧ q ≤ L ∧ (∀ j, p ≤ j → j < q → P (B j) = true) ∧ (q < L → P (B q) = false)
theorem Sk.uq {B : Nat → Nat} {L p q r : Nat} (h : Sk B L p q) (h2 : Sk B L p r) : q = r := by
  obtain ⟨a1, a2, a3, a4⟩ := h
  obtain ⟨b1, b2, b3, b4⟩ := h2
  rcases Nat.lt_trichotomy q r with e | e | e
  · exact absurd (b3 q a1 e) (a4 (by omega))
  · exact e
  · exact absurd (a3 r b1 e) (b4 (by omega))
theorem We.uq {B : Nat → Nat} {P : Nat → Bool} {L p q r : Nat} (h : We B P L p q) (h2 : We B P L p r) : q = r := by
  obtain ⟨a1, a2, a3, a4⟩ := h
  obtain ⟨b1, b2, b3, b4⟩ := h2
  rcases Nat.lt_trichotomy q r with e | e | e
  · exact absurd (b3 q (by omega) e) (by rw [a4 (by omega)]; decide)
  · exact e
  · exact absurd (a3 r (by omega) e) (by rw [b4 (by omega)]; decide)
def wrd (B : Nat → Nat) (L F : Nat) : Bool := decide (F < L) && (isLb (B F) || isDb (B F))
def TokP (B : Nat → Nat) (L p F T : Nat) : Prop := Sk B L p F ∧ (F = L → T = L) ∧ (F < L → isLb (B F) = true → We B isLb L F T) ∧ (F < L → isDb (B F) = true → We B isDb L F T) ∧ (F < L → wrd B L F = false → T = F + 1)
theorem wrd_no {B : Nat → Nat} {L F : Nat} (h : F < L) (h1 : ¬ isLb (B F) = true) (h2 : ¬ isDb (B F) = true) : wrd B L F = false := by
  unfold wrd
  rw [Bool.eq_false_iff.mpr h1, Bool.eq_false_iff.mpr h2]
  simp
theorem TokP.uq {B : Nat → Nat} {L p F T F2 T2 : Nat} (h : TokP B L p F T) (h2 : TokP B L p F2 T2) : F = F2 ∧ T = T2 := by
  have e := h.1.uq h2.1
  subst e
  refine ⟨rfl, ?_⟩
  obtain ⟨-, a1, a2, a3, a4⟩ := h
  obtain ⟨hs, b1, b2, b3, b4⟩ := h2
  by_cases hF : F = L
  · rw [a1 hF, b1 hF]
  · have hl : F < L := by have := hs.2.1; omega
    by_cases l : isLb (B F) = true
    · exact (a2 hl l).uq (b2 hl l)
    by_cases d : isDb (B F) = true
    · exact (a3 hl d).uq (b3 hl d)
    rw [a4 hl (wrd_no hl l d), b4 hl (wrd_no hl l d)]
theorem TokP.T {B : Nat → Nat} {L p F T : Nat} (h : TokP B L p F T) : p ≤ F ∧ F ≤ L ∧ T ≤ L ∧ (F < L → F < T) := by
  obtain ⟨hs, a1, a2, a3, a4⟩ := h
  refine ⟨hs.1, hs.2.1, ?_, ?_⟩
  · by_cases hF : F = L
    · rw [a1 hF]; exact Nat.le_refl _
    · have hl : F < L := by have := hs.2.1; omega
      by_cases l : isLb (B F) = true
      · exact (a2 hl l).2.1
      by_cases d : isDb (B F) = true
      · exact (a3 hl d).2.1
      rw [a4 hl (wrd_no hl l d)]; omega
  · intro hl
    by_cases l : isLb (B F) = true
    · exact (a2 hl l).1
    by_cases d : isDb (B F) = true
    · exact (a3 hl d).1
    rw [a4 hl (wrd_no hl l d)]; omega
-- the class
def CB (B : Nat → Nat) (L : Nat) (c : Mm) : Prop := c 2 0 = nI L ∧ ∀ j, j < L → c 3 j = nI (B j)
def TF (c c2 : Mm) : Prop := (∀ k, k ≠ 2 → c2 k = c k) ∧ ∀ i, i ≠ 2 → i ≠ 3 → i ≠ 4 → c2 2 i = c 2 i
theorem TF.rf {c : Mm} : TF c c := ⟨fun _ _ => rfl, fun _ _ _ _ => rfl⟩
theorem TF.tr {a b c : Mm} (h : TF a b) (h2 : TF b c) : TF a c := ⟨fun k hk => (h2.1 k hk).trans (h.1 k hk), fun i h1 h3 h4 => (h2.2 i h1 h3 h4).trans (h.2 i h1 h3 h4)⟩
theorem TF.put {a b : Mm} (h : TF a b) (i : Nat) (v : Int32) (hi : i = 2 ∨ i = 3 ∨ i = 4) : TF a (mst b 2 i v) := ⟨fun k hk => (mst_ck hk).trans (h.1 k hk), fun j h1 h3 h4 => (mst_i (by omega)).trans (h.2 j h1 h3 h4)⟩
theorem CB.tf {B : Nat → Nat} {L : Nat} {c c2 : Mm} (h : CB B L c) (f : TF c c2) : CB B L c2 := ⟨(f.2 0 (by omega) (by omega) (by omega)).trans h.1, fun j hj => by rw [f.1 3 (by omega)]; exact h.2 j hj⟩
section LEX
variable {B : Nat → Nat} {L : Nat}
theorem T_here {c : Mm} (hb : CB B L c) (hL : L ≤ 96) {F : Nat} (hF : F ≤ L) (e : c 2 2 = nI F) : f_T_here c = some (if F < L then nI (B F) else (-1)) := by
  unfold f_T_here
  rw [hb.1, e]
  by_cases h : F < L
  · rw [if_neg (nI_ge h (by omega)), if_neg (l_ge (n := 96) (by omega) (by decide)), if_pos (inb_nI (by omega) (by decide)), ix_nI (by omega), hb.2 F h, if_pos h]
  · rw [if_pos (nI_le (by omega) (by omega)), if_neg h]
theorem T_isL {b : Nat} (h : b < 256) : f_T_isLetter (nI b) = some (if isLb b = true then (1 : Int32) else 0) := by
  unfold f_T_isLetter
  by_cases q : isLb b = true
  · have := isLb_iff.mp q
    rw [if_neg (r_nlt (n := 97) (by omega) (by omega)), if_neg (l_nlt (n := 122) (by omega) (by decide)), if_pos q]
  · rw [if_neg q]
    rw [isLb_iff] at q
    by_cases z : b < 97
    · rw [if_pos (r_lt (n := 97) z (by decide))]
    · rw [if_neg (r_nlt (n := 97) (by omega) (by omega)), if_pos (l_lt (n := 122) (by omega) (by omega))]
theorem T_isD {b : Nat} (h : b < 256) : f_T_isDigit (nI b) = some (if isDb b = true then (1 : Int32) else 0) := by
  unfold f_T_isDigit
  by_cases q : isDb b = true
  · have := isDb_iff.mp q
    rw [if_neg (r_nlt (n := 48) (by omega) (by omega)), if_neg (l_nlt (n := 57) (by omega) (by decide)), if_pos q]
  · rw [if_neg q]
    rw [isDb_iff] at q
    by_cases z : b < 48
    · rw [if_pos (r_lt (n := 48) z (by decide))]
    · rw [if_neg (r_nlt (n := 48) (by omega) (by omega)), if_pos (l_lt (n := 57) (by omega) (by omega))]
theorem T_skL (hL : L ≤ 96) (hB : ∀ j, j < L → B j < 256) (b1 b2 : Int32) {p : Nat} : ∀ (d q F : Nat) (c : Mm), q + d = L → d < F → CB B L c → c 2 2 = nI q → p ≤ q → (∀ j, p ≤ j → j < q → B j = 32) → ∃ c2 r, f_T_step_L50 F b1 b2 c = some c2 ∧ Sk B L p r ∧ c2 2 2 = nI r ∧ TF c c2 ∧ (∀ i, i ≠ 2 → c2 2 i = c 2 i)
  | d, q, F, c, h, hF, hb, e, hp, hj => by
    obtain ⟨F, rfl⟩ : ∃ f, F = f + 1 := ⟨F - 1, by omega⟩
    rw [f_T_step_L50, hb.1, e]
    by_cases hq : L ≤ q
    · rw [if_pos (nI_le hq (by omega))]
      exact ⟨c, q, rfl, ⟨hp, by omega, hj, fun z => by omega⟩, e, TF.rf, fun _ _ => rfl⟩
    rw [if_neg (nI_ge (by omega) (by omega)), if_pos (inb_nI (by omega) (by decide)), ix_nI (by omega), hb.2 q (by omega)]
    have hBq := hB q (by omega)
    by_cases hs : B q = 32
    · cases d with
      | zero => omega
      | succ d =>
        rw [if_pos ((r_eq (n := 32) (by omega) (by decide)).mpr hs), nI_1, lt_eq]
        have f1 : TF c (mst c 2 2 (nI (q + 1))) := TF.rf.put 2 _ (Or.inl rfl)
        obtain ⟨c2, r, u1, u2, u3, u4, u5⟩ := T_skL hL hB b1 b2 (p := p) d (q + 1) F (mst c 2 2 (nI (q + 1))) (by omega) (by omega) (hb.tf f1) (mst_at _ _ _ _) (by omega) (fun j h1 h2 => by
          by_cases ej : j = q
          · rw [ej]; exact hs
          · exact hj j h1 (by omega))
        exact ⟨c2, r, u1, u2, u3, f1.tr u4, fun i hi => (u5 i hi).trans (mst_i hi)⟩
    · rw [if_neg (fun z => hs ((r_eq (n := 32) (by omega) (by decide)).mp z))]
      exact ⟨c, q, rfl, ⟨hp, by omega, hj, fun _ => hs⟩, e, TF.rf, fun _ _ => rfl⟩
/-- the end of a word: P tells which bytes go on -/
theorem T_weL (hL : L ≤ 96) (hB : ∀ j, j < L → B j < 256) (b1 b2 : Int32) {w : Bool} {p : Nat} : ∀ (d q F : Nat) (c : Mm), q + d = L → d < F → CB B L c → c 2 3 = nI q → p < q → (∀ j, p ≤ j → j < q → (if w then isLb else isDb) (B j) = true) → ∃ c2 r, f_T_step_L122 F b1 b2 (if w then 1 else 0) (if w then 0 else 1) c = some c2 ∧ We B (if w then isLb else isDb) L p r ∧ c2 2 3 = nI r ∧ TF c c2 ∧ (∀ i, i ≠ 3 → c2 2 i = c 2 i)
  | d, q, F, c, h, hF, hb, e, hp, hj => by
    obtain ⟨F, rfl⟩ : ∃ f, F = f + 1 := ⟨F - 1, by omega⟩
    rw [f_T_step_L122, hb.1, e]
    by_cases hq : L ≤ q
    · rw [if_pos (nI_le hq (by omega))]
      exact ⟨c, q, rfl, ⟨hp, by omega, hj, fun z => by omega⟩, e, TF.rf, fun _ _ => rfl⟩
    rw [if_neg (nI_ge (by omega) (by omega)), if_pos (inb_nI (by omega) (by decide)), if_pos (inb_nI (by omega) (by decide)), ix_nI (by omega), hb.2 q (by omega), T_isL (hB q (by omega)), T_isD (hB q (by omega)), bp_some, bp_some, nI_1]
    have go : (if w then isLb else isDb) (B q) = true → ∃ c2 r, (lt (mst c 2 3 (nI (q + 1))) fun m_179 => f_T_step_L122 F b1 b2 (if w then 1 else 0) (if w then 0 else 1) m_179) = some c2 ∧ We B (if w then isLb else isDb) L p r ∧ c2 2 3 = nI r ∧ TF c c2 ∧ (∀ i, i ≠ 3 → c2 2 i = c 2 i) := by
      intro hs
      cases d with
      | zero => omega
      | succ d =>
        rw [lt_eq]
        have f1 : TF c (mst c 2 3 (nI (q + 1))) := TF.rf.put 3 _ (Or.inr (Or.inl rfl))
        obtain ⟨c2, r, u1, u2, u3, u4, u5⟩ := T_weL hL hB b1 b2 (w := w) (p := p) d (q + 1) F (mst c 2 3 (nI (q + 1))) (by omega) (by omega) (hb.tf f1) (mst_at _ _ _ _) (by omega) (fun j h1 h2 => by
          by_cases ej : j = q
          · rw [ej]; exact hs
          · exact hj j h1 (by omega))
        exact ⟨c2, r, u1, u2, u3, f1.tr u4, fun i hi => (u5 i hi).trans (mst_i hi)⟩
    cases w with
    | true =>
      simp only [if_true] at go ⊢
      rw [if_neg nz1]
      by_cases hs : isLb (B q) = true
      · rw [if_pos hs, if_neg nz1]; exact go hs
      · rw [if_neg hs, if_pos rfl]
        exact ⟨c, q, rfl, ⟨hp, by omega, hj, fun _ => Bool.eq_false_iff.mpr hs⟩, e, TF.rf, fun _ _ => rfl⟩
    | false =>
      simp only [Bool.false_eq_true, if_false] at go ⊢
      rw [if_pos trivial, if_neg nz1]
      by_cases hs : isDb (B q) = true
      · rw [if_pos hs, if_neg nz1]; exact go hs
      · rw [if_neg hs, if_pos rfl]
        exact ⟨c, q, rfl, ⟨hp, by omega, hj, fun _ => Bool.eq_false_iff.mpr hs⟩, e, TF.rf, fun _ _ => rfl⟩
theorem T_core (hL : L ≤ 96) (hB : ∀ j, j < L → B j < 256) {c : Mm} (hb : CB B L c) {p : Nat} (hp : p ≤ L) (e2 : c 2 2 = nI p) (b1 x : Int32) {N : Nat} (hN : 500 ≤ N) {α : Type} (K : Int32 → Int32 → Mm → Option α) : ∃ c2 F T, (bp (f_T_step_L50 N b1 x c) fun m_50 => bp (f_T_here m_50) fun r_89 => bp (f_T_isLetter r_89) fun r_92 => bp (f_T_here m_50) fun r_97 => bp (f_T_isDigit r_97) fun r_100 => lt (mst m_50 2 3 (if ((m_50 2 2) + 1) < (m_50 2 0) then (m_50 2 2) + 1 else m_50 2 0)) fun m_119 => bp (f_T_step_L122 N b1 x r_92 r_100 m_119) fun m_122 => K r_92 r_100 m_122) = K (if F < L ∧ isLb (B F) = true then 1 else 0) (if F < L ∧ isDb (B F) = true then 1 else 0) c2 ∧ TokP B L p F T ∧ c2 2 2 = nI F ∧ c2 2 3 = nI T ∧ TF c c2 := by
  obtain ⟨c1, F, u1, u2, u3, u4, u5⟩ := T_skL hL hB b1 x (p := p) (L - p) p N c (by omega) (by omega) hb e2 (Nat.le_refl _) (fun j h1 h2 => by omega)
  have hb1 := hb.tf u4
  have hF := u2.2.1
  have f2 : ∀ v : Int32, TF c (mst c1 2 3 v) := fun v => u4.put 3 v (Or.inr (Or.inl rfl))
  rw [u1, bp_some, T_here hb1 hL hF u3, bp_some, u3, hb1.1, nI_1]
  by_cases hl : F < L
  · have e1 : (if nI (F + 1) < nI L then nI (F + 1) else nI L) = nI (F + 1) := by
      by_cases q : F + 1 < L
      · rw [if_pos (nI_lt q (by omega))]
      · rw [if_neg (nI_nlt (by omega) (by omega))]; congr 1; omega
    rw [if_pos hl, T_isL (hB F hl), bp_some, bp_some, T_isD (hB F hl), bp_some, e1, lt_eq]
    have e22 : mst c1 2 3 (nI (F + 1)) 2 2 = nI F := by rw [mst_i (by decide)]; exact u3
    have hb2 := hb.tf (f2 (nI (F + 1)))
    by_cases l : isLb (B F) = true
    · have d := LnD l
      obtain ⟨c2, T, v1, v2, v3, v4, v5⟩ := T_weL hL hB b1 x (w := true) (p := F) (L - (F + 1)) (F + 1) N (mst c1 2 3 (nI (F + 1))) (by omega) (by omega) hb2 (mst_at _ _ _ _) (by omega) (fun j h1 h2 => by rw [show j = F by omega]; exact l)
      refine ⟨c2, F, T, ?_, ⟨u2, fun z => by omega, fun _ _ => v2, fun _ z => absurd z (by rw [d]; decide), fun _ z => absurd z (by unfold wrd; rw [l, d, decide_eq_true hl]; decide)⟩, (v5 2 (by decide)).trans e22, v3, (f2 _).tr v4⟩
      rw [if_pos l, if_neg (by rw [d]; decide), show f_T_step_L122 N b1 x 1 0 (mst c1 2 3 (nI (F + 1))) = _ from v1, bp_some, if_pos ⟨hl, l⟩, if_neg (fun z => by rw [d] at z; exact absurd z.2 (by decide))]
    by_cases d : isDb (B F) = true
    · obtain ⟨c2, T, v1, v2, v3, v4, v5⟩ := T_weL hL hB b1 x (w := false) (p := F) (L - (F + 1)) (F + 1) N (mst c1 2 3 (nI (F + 1))) (by omega) (by omega) hb2 (mst_at _ _ _ _) (by omega) (fun j h1 h2 => by rw [show j = F by omega]; exact d)
      refine ⟨c2, F, T, ?_, ⟨u2, fun z => by omega, fun _ z => absurd z l, fun _ _ => v2, fun _ z => absurd z (by unfold wrd; rw [d, decide_eq_true hl, Bool.or_true]; decide)⟩, (v5 2 (by decide)).trans e22, v3, (f2 _).tr v4⟩
      rw [if_neg l, if_pos d, show f_T_step_L122 N b1 x 0 1 (mst c1 2 3 (nI (F + 1))) = _ from v1, bp_some, if_neg (fun z => l z.2), if_pos ⟨hl, d⟩]
    · obtain ⟨M, eM⟩ : ∃ f, N = f + 1 := ⟨N - 1, by omega⟩
      have st : f_T_step_L122 N b1 x 0 0 (mst c1 2 3 (nI (F + 1))) = some (mst c1 2 3 (nI (F + 1))) := by
        rw [eM, f_T_step_L122]
        split
        · rfl
        · rw [if_pos rfl, if_pos rfl]
      refine ⟨mst c1 2 3 (nI (F + 1)), F, F + 1, ?_, ⟨u2, fun z => by omega, fun _ z => absurd z l, fun _ z => absurd z d, fun _ _ => rfl⟩, e22, mst_at _ _ _ _, f2 _⟩
      rw [if_neg l, if_neg d, st, bp_some, if_neg (fun z => l z.2), if_neg (fun z => d z.2)]
  · have hFL : F = L := by omega
    have e1 : (if nI (F + 1) < nI L then nI (F + 1) else nI L) = nI L := by rw [if_neg (nI_nlt (by omega) (by omega))]
    obtain ⟨M, eM⟩ : ∃ f, N = f + 1 := ⟨N - 1, by omega⟩
    have e20 : mst c1 2 3 (nI L) 2 0 = nI L := by rw [mst_i (by decide)]; exact hb1.1
    have st : f_T_step_L122 N b1 x 0 0 (mst c1 2 3 (nI L)) = some (mst c1 2 3 (nI L)) := by
      rw [eM, f_T_step_L122, e20, mst_at, if_pos (nI_le (Nat.le_refl _) (by omega))]
    rw [if_neg hl, show f_T_isLetter (-1) = some 0 from rfl, bp_some, bp_some, show f_T_isDigit (-1) = some 0 from rfl, bp_some, e1, lt_eq, st, bp_some]
    refine ⟨mst c1 2 3 (nI L), F, L, by rw [if_neg (fun z => hl z.1), if_neg (fun z => hl z.1)], ⟨u2, fun _ => rfl, fun z => absurd z hl, fun z => absurd z hl, fun z => absurd z hl⟩, by rw [mst_i (by decide)]; exact u3, mst_at _ _ _ _, f2 _⟩
/-- the class stands at a word or sign: from F to T, st: stuck -/
def CS (c : Mm) (F T : Nat) (st : Bool) : Prop := c 2 2 = nI F ∧ c 2 3 = nI T ∧ c 2 4 = (if st then 1 else 0)
theorem T_step (hL : L ≤ 96) (hB : ∀ j, j < L → B j < 256) {c : Mm} (hb : CB B L c) {F T : Nat} (hF : F ≤ L) (hT : T ≤ L) (e2 : c 2 2 = nI F) (e3 : c 2 3 = nI T) {N : Nat} (hN : 500 ≤ N) : ∃ c2 F2 T2, f_T_step N c = some c2 ∧ TokP B L T F2 T2 ∧ CS c2 F2 T2 (decide (F < T) && (wrd B L F && (decide (F2 = T) && wrd B L F2))) ∧ TF c c2 := by
  have f1 : TF c (mst c 2 2 (nI T)) := TF.rf.put 2 _ (Or.inl rfl)
  have hb1 := hb.tf f1
  have lw : ∀ F2, (if F2 < L ∧ isLb (B F2) = true then (1 : Int32) else 0) = 0 → (if F2 < L ∧ isDb (B F2) = true then (1 : Int32) else 0) = 0 → wrd B L F2 = false := by
    intro F2 h1 h2
    by_cases a : F2 < L ∧ isLb (B F2) = true
    · rw [if_pos a] at h1; exact absurd h1 nz1
    by_cases b : F2 < L ∧ isDb (B F2) = true
    · rw [if_pos b] at h2; exact absurd h2 nz1
    unfold wrd
    by_cases z : F2 < L
    · rw [Bool.eq_false_iff.mpr (fun q => a ⟨z, q⟩), Bool.eq_false_iff.mpr (fun q => b ⟨z, q⟩)]; simp
    · rw [decide_eq_false z]; rfl
  have lt1 : ∀ F2, ¬ (if F2 < L ∧ isLb (B F2) = true then (1 : Int32) else 0) = 0 → wrd B L F2 = true := by
    intro F2 h1
    by_cases a : F2 < L ∧ isLb (B F2) = true
    · unfold wrd; rw [decide_eq_true a.1, a.2]; rfl
    · rw [if_neg a] at h1; exact absurd rfl h1
  have lt2 : ∀ F2, ¬ (if F2 < L ∧ isDb (B F2) = true then (1 : Int32) else 0) = 0 → wrd B L F2 = true := by
    intro F2 h1
    by_cases a : F2 < L ∧ isDb (B F2) = true
    · unfold wrd; rw [decide_eq_true a.1, a.2, Bool.or_true]; rfl
    · rw [if_neg a] at h1; exact absurd rfl h1
  have stk : ∀ (F2 : Nat) (c2 : Mm), F2 ≤ L → c2 2 2 = nI F2 → (if c2 2 2 = nI T then if (if F2 < L ∧ isLb (B F2) = true then (1 : Int32) else 0) = 0 then if (if F2 < L ∧ isDb (B F2) = true then (1 : Int32) else 0) = 0 then (0 : Int32) else 1 else 1 else 0) = if (decide (F2 = T) && wrd B L F2) = true then 1 else 0 := by
    intro F2 c2 hF2 h22
    rw [h22]
    by_cases q : F2 = T
    · rw [if_pos (by rw [q]), decide_eq_true q]
      by_cases a : (if F2 < L ∧ isLb (B F2) = true then (1 : Int32) else 0) = 0
      · by_cases b : (if F2 < L ∧ isDb (B F2) = true then (1 : Int32) else 0) = 0
        · rw [if_pos a, if_pos b, lw F2 a b]; rfl
        · rw [if_pos a, if_neg b, lt2 F2 b]; rfl
      · rw [if_neg a, lt1 F2 a]; rfl
    · rw [if_neg (fun z => q ((nI_eq (by omega) (by omega)).mp z)), decide_eq_false q]; rfl
  have fin : ∀ (F2 T2 : Nat) (c2 : Mm) (s : Bool) (v : Int32), TokP B L T F2 T2 → c2 2 2 = nI F2 → c2 2 3 = nI T2 → TF (mst c 2 2 (nI T)) c2 → v = (if s then 1 else 0) → CS (mst c2 2 4 v) F2 T2 s ∧ TF c (mst c2 2 4 v) := by
    intro F2 T2 c2 s v _ h2 h3 h4 hv
    exact ⟨⟨by rw [mst_i (by decide)]; exact h2, by rw [mst_i (by decide)]; exact h3, by rw [mst_at]; exact hv⟩, (f1.tr h4).put 4 v (Or.inr (Or.inr rfl))⟩
  unfold f_T_step
  rw [e3, e2]
  by_cases hle : T ≤ F
  · rw [if_pos (nI_le hle (by omega)), lt_eq, lt_eq]
    obtain ⟨c2, F2, T2, w1, w2, w3, w4, w5⟩ := T_core hL hB hb1 hT (mst_at _ _ _ _) 0 (nI T) hN (fun r_92 r_100 m_122 => lt (mst m_122 2 4 0) fun m_212 => some m_212)
    rw [w1, lt_eq]
    obtain ⟨g1, g2⟩ := fin F2 T2 c2 false 0 w2 w3 w4 w5 rfl
    exact ⟨_, F2, T2, rfl, w2, by rw [decide_eq_false (show ¬ F < T by omega)]; exact g1, g2⟩
  rw [if_neg (nI_ge (by omega) (by omega)), T_here hb hL hF e2, bp_some, bp_some, if_pos (show F < L by omega), T_isL (hB F (by omega)), bp_some, T_isD (hB F (by omega)), bp_some]
  have hFT : decide (F < T) = true := decide_eq_true (by omega)
  have tl : ∀ (v : Int32), (v = 0 → wrd B L F = false) → (¬ v = 0 → wrd B L F = true) → ∃ c2 F2 T2, (lt (nI T) fun x_41 => lt (mst c 2 2 (nI T)) fun m_47 => bp (f_T_step_L50 N v x_41 m_47) fun m_50 => bp (f_T_here m_50) fun r_89 => bp (f_T_isLetter r_89) fun r_92 => bp (f_T_here m_50) fun r_97 => bp (f_T_isDigit r_97) fun r_100 => lt (mst m_50 2 3 (if ((m_50 2 2) + 1) < (m_50 2 0) then (m_50 2 2) + 1 else m_50 2 0)) fun m_119 => bp (f_T_step_L122 N v x_41 r_92 r_100 m_119) fun m_122 => lt (mst m_122 2 4 (if v = 0 then (0 : Int32) else if m_122 2 2 = x_41 then if r_92 = 0 then if r_100 = 0 then (0 : Int32) else 1 else 1 else 0)) fun m_212 => some m_212) = some c2 ∧ TokP B L T F2 T2 ∧ CS c2 F2 T2 (decide (F < T) && (wrd B L F && (decide (F2 = T) && wrd B L F2))) ∧ TF c c2 := by
    intro v hv0 hv1
    rw [lt_eq, lt_eq]
    obtain ⟨c2, F2, T2, w1, w2, w3, w4, w5⟩ := T_core hL hB hb1 hT (mst_at _ _ _ _) v (nI T) hN (fun r_92 r_100 m_122 => lt (mst m_122 2 4 (if v = 0 then (0 : Int32) else if m_122 2 2 = nI T then if r_92 = 0 then if r_100 = 0 then (0 : Int32) else 1 else 1 else 0)) fun m_212 => some m_212)
    rw [w1, lt_eq, stk F2 c2 w2.1.2.1 w3]
    by_cases z : v = 0
    · obtain ⟨g1, g2⟩ := fin F2 T2 c2 false 0 w2 w3 w4 w5 rfl
      rw [if_pos z]
      exact ⟨_, F2, T2, rfl, w2, by rw [hFT, hv0 z]; exact g1, g2⟩
    · obtain ⟨g1, g2⟩ := fin F2 T2 c2 (decide (F2 = T) && wrd B L F2) _ w2 w3 w4 w5 rfl
      rw [if_neg z]
      exact ⟨_, F2, T2, rfl, w2, by rw [hFT, hv1 z]; exact g1, g2⟩
  by_cases l : isLb (B F) = true
  · rw [if_pos l, if_neg nz1]
    have hw : wrd B L F = true := by unfold wrd; rw [decide_eq_true (show F < L by omega), l]; rfl
    have h1 := tl 1 (fun z => absurd z nz1) (fun _ => hw)
    simp only [if_neg nz1] at h1
    exact h1
  · rw [if_neg l, if_pos rfl]
    by_cases d : isDb (B F) = true
    · have hw : wrd B L F = true := by unfold wrd; rw [decide_eq_true (show F < L by omega), d, Bool.or_true]; rfl
      rw [if_pos d, if_neg nz1, lt_eq]
      exact tl 1 (fun z => absurd z nz1) (fun _ => hw)
    · have hw : wrd B L F = false := wrd_no (by omega) l d
      rw [if_neg d, if_pos rfl, lt_eq]
      exact tl 0 (fun _ => hw) (fun z => absurd rfl z)
end LEX
