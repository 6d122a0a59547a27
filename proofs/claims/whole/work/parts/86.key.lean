/-! PURE: a text's key; a text read to its end -/
def KW (B : Nat → Nat) (F T k : Nat) : Prop := T = F + 4 ∧ ∀ i, i < 4 → B (F + i) = kyb (4 * k + i)
theorem kyb_l : ∀ j, j < 12 → kyb j < 256 ∧ isLb (kyb j) = true := by decide +kernel
theorem KW.uq {B : Nat → Nat} {F T k k2 : Nat} (hk : k < 3) (hk2 : k2 < 3) (h : KW B F T k) (h2 : KW B F T k2) : k = k2 := by
  have q : ∀ k, k < 3 → ∀ k2, k2 < 3 → kyb (4 * k) = kyb (4 * k2) → k = k2 := by decide +kernel
  exact q k hk k2 hk2 ((h.2 0 (by decide)).symm.trans (h2.2 0 (by decide)))
theorem kw_ch {m : Mm} {k i : Nat} (hk : k < 3) (hi : i < 4) : f_JS_charAt k (nI i) m = some (nI (kyb (4 * k + i))) := by
  have q1 : ∀ k, k < 3 → ∀ i, i < 4 → f_JL_charAt k (nI i) = some (nI (kyb (4 * k + i))) := by decide +kernel
  have q2 : ∀ j, j < 12 → isc (nI (kyb j)) = true := by decide +kernel
  unfold f_JS_charAt f_JS_isLatin1
  rw [bp_some, if_neg nz1, q1 k hk i hi, bp_some, if_pos (q2 _ (by omega))]
theorem kw_len {m : Mm} {k : Nat} (hk : k < 3) : f_JS_length k m = some (nI 4) := by
  have q : ∀ k, k < 3 → Int32.ofNat (sN k) >>> ((0 : Int32) &&& 31) = nI 4 := by decide +kernel
  unfold f_JS_length f_JS_coder
  rw [bp_some, q k hk]
section KEY
variable {B : Nat → Nat} {L : Nat}
theorem T_wL (hL : L ≤ 96) (hB : ∀ j, j < L → B j < 256) {c : Mm} (hb : CB B L c) {F k : Nat} (hF : F + 4 ≤ L) (e2 : c 2 2 = nI F) (hk : k < 3) : ∀ (d i G : Nat), i + d = 4 → d < G → (∀ j, j < i → B (F + j) = kyb (4 * k + j)) → ∃ v : Int32, f_T_wordIs_L20 k G (nI i) c = some v ∧ ((v = 1 ∧ KW B F (F + 4) k) ∨ (v = 0 ∧ ¬ KW B F (F + 4) k))
  | 0, i, G, h, hG, hj => by
    obtain ⟨G, rfl⟩ : ∃ f, G = f + 1 := ⟨G - 1, by omega⟩
    have : i = 4 := by omega
    subst this
    rw [f_T_wordIs_L20, kw_len hk, bp_some, if_pos (nI_le (Nat.le_refl _) (by omega))]
    exact ⟨1, rfl, Or.inl ⟨rfl, rfl, hj⟩⟩
  | d + 1, i, G, h, hG, hj => by
    obtain ⟨G, rfl⟩ : ∃ f, G = f + 1 := ⟨G - 1, by omega⟩
    have hb8 := hB (F + i) (by omega)
    have hk8 := (kyb_l (4 * k + i) (by omega)).1
    rw [f_T_wordIs_L20, kw_len hk, bp_some, if_neg (nI_ge (by omega) (by omega)), e2, nI_add, if_pos (inb_nI (by omega) (by decide)), kw_ch hk (by omega), bp_some, ix_nI (by omega), hb.2 _ (by omega), nI_1]
    by_cases q : B (F + i) = kyb (4 * k + i)
    · rw [if_pos (by rw [q])]
      exact T_wL hL hB hb hF e2 hk d (i + 1) G (by omega) (by omega) (fun j hj2 => by
        by_cases e : j = i
        · rw [e]; exact q
        · exact hj j (by omega))
    · rw [if_neg (fun z => q ((nI_eq (by omega) (by omega)).mp z))]
      exact ⟨0, rfl, Or.inr ⟨rfl, fun z => q (z.2 i (by omega))⟩⟩
theorem T_word (hL : L ≤ 96) (hB : ∀ j, j < L → B j < 256) {c : Mm} (hb : CB B L c) {F T k N : Nat} (hFT : F ≤ T) (hT : T ≤ L) (e2 : c 2 2 = nI F) (e3 : c 2 3 = nI T) (hk : k < 3) (hN : 500 ≤ N) : ∃ v : Int32, f_T_wordIs N k c = some v ∧ ((v = 1 ∧ KW B F T k) ∨ (v = 0 ∧ ¬ KW B F T k)) := by
  unfold f_T_wordIs
  rw [kw_len hk, bp_some, e2, e3, pk_sub (by omega)]
  by_cases q : T = F + 4
  · subst q
    rw [if_pos (by congr 1; omega)]
    exact T_wL hL hB hb hT e2 hk 4 0 N (by omega) (by omega) (fun j hj => by omega)
  · rw [if_neg (fun z => by rw [nI_eq (by omega) (by omega)] at z; omega)]
    exact ⟨0, rfl, Or.inr ⟨rfl, fun z => q z.1⟩⟩
/-- the class reads a key -/
theorem T_key (hL : L ≤ 96) (hB : ∀ j, j < L → B j < 256) {c : Mm} (hb : CB B L c) {F T N o : Nat} (hFT : F ≤ T) (hT : T ≤ L) (e2 : c 2 2 = nI F) (e3 : c 2 3 = nI T) (e5 : c 2 5 = (-1)) (hN : 500 ≤ N) : (∃ k, k < 3 ∧ KW B F T k ∧ f_T_readKey N o c = f_T_step N (mst c o 0 (nI k))) ∨ ((∀ k, k < 3 → ¬ KW B F T k) ∧ f_T_readKey N o c = some (mst c 2 5 (nI F))) := by
  obtain ⟨M, rfl⟩ : ∃ M, N = M + 4 := ⟨N - 4, by omega⟩
  have st : ∀ k, k < 3 → ∀ G, (KW B F T k ∧ f_T_readKey_L2 (M + 4) o (G + 1) (nI k) c = f_T_step (M + 4) (mst c o 0 (nI k))) ∨ (¬ KW B F T k ∧ f_T_readKey_L2 (M + 4) o (G + 1) (nI k) c = f_T_readKey_L2 (M + 4) o G (nI (k + 1)) c) := by
    intro k hk G
    obtain ⟨v, h1, h2⟩ := T_word hL hB hb hFT hT e2 e3 hk hN
    have kw : f_T_keyWord (nI k) = some k := by
      unfold f_T_keyWord
      match k, hk with
      | 0, _ => rfl
      | 1, _ => rfl
      | 2, _ => rfl
    rw [f_T_readKey_L2, if_neg (l_ge (n := 3) hk (by decide)), kw, bp_some, h1, bp_some, nI_1, lt_eq]
    rcases h2 with ⟨z, h⟩ | ⟨z, h⟩
    · left
      rw [z, if_neg nz1]
      exact ⟨h, by cases f_T_step (M + 4) (mst c o 0 (nI k)) <;> rfl⟩
    · right
      rw [z, if_pos rfl]
      exact ⟨h, rfl⟩
  unfold f_T_readKey
  rcases st 0 (by decide) (M + 3) with ⟨h, e⟩ | ⟨h0, e0⟩
  · exact Or.inl ⟨0, by decide, h, e⟩
  rcases st 1 (by decide) (M + 2) with ⟨h, e⟩ | ⟨h1, e1⟩
  · exact Or.inl ⟨1, by decide, h, e0.trans e⟩
  rcases st 2 (by decide) (M + 1) with ⟨h, e⟩ | ⟨h2, e2'⟩
  · exact Or.inl ⟨2, by decide, h, e0.trans (e1.trans e)⟩
  refine Or.inr ⟨fun k hk => ?_, e0.trans (e1.trans (e2'.trans ?_))⟩
  · match k, hk with
    | 0, _ => exact h0
    | 1, _ => exact h1
    | 2, _ => exact h2
  · rw [f_T_readKey_L2, if_pos (show (3 : Int32) ≤ nI (2 + 1) by decide), T_fail e5 e2, bp_some]
theorem M_kL (hL : L ≤ 96) (hB : ∀ j, j < L → B j < 256) {m : Mm} (hb : RB B L m) (gk : GKey m) {F k : Nat} (hF : F + 4 ≤ L) (e9 : m 91 9 = nI F) (hk : k < 3) : ∀ (d i G : Nat), i + d = 4 → d < G → (∀ j, j < i → B (F + j) = kyb (4 * k + j)) → ∃ v w : Int32, f_M_takesKey_L55 G (nI k) (nI 4) 1 (nI i) m = some (v, w) ∧ ((v = 1 ∧ KW B F (F + 4) k) ∨ (v = 0 ∧ ¬ KW B F (F + 4) k))
  | 0, i, G, h, hG, hj => by
    obtain ⟨G, rfl⟩ : ∃ f, G = f + 1 := ⟨G - 1, by omega⟩
    have : i = 4 := by omega
    subst this
    rw [f_M_takesKey_L55, if_pos (nI_le (Nat.le_refl _) (by omega))]
    exact ⟨1, _, rfl, Or.inl ⟨rfl, rfl, hj⟩⟩
  | d + 1, i, G, h, hG, hj => by
    obtain ⟨G, rfl⟩ : ∃ f, G = f + 1 := ⟨G - 1, by omega⟩
    have hb8 := hB (F + i) (by omega)
    have hk8 := (kyb_l (4 * k + i) (by omega)).1
    rw [f_M_takesKey_L55, if_neg (nI_ge (by omega) (by omega)), if_neg nz1, e9, nI_add, if_pos (inb_nI (by omega) (by decide)), if_pos (inb_nI (by omega) (by decide)), ix_nI (by omega), ix_nI (by omega), gk.2 k (by omega), nI_add, if_pos (inb_nI (by omega) (by decide)), ix_nI (by omega), hb.2 _ (by omega), gk.1 _ (by omega), lt_eq, nI_1]
    by_cases q : B (F + i) = kyb (4 * k + i)
    · rw [if_pos (by rw [q])]
      exact M_kL hL hB hb gk hF e9 hk d (i + 1) G (by omega) (by omega) (fun j hj2 => by
        by_cases e : j = i
        · rw [e]; exact q
        · exact hj j (by omega))
    · rw [if_neg (fun z => q ((nI_eq (by omega) (by omega)).mp z))]
      obtain ⟨G, rfl⟩ : ∃ f, G = f + 1 := ⟨G - 1, by omega⟩
      rw [f_M_takesKey_L55]
      refine ⟨0, nI (i + 1), ?_, Or.inr ⟨rfl, fun z => q (z.2 i (by omega))⟩⟩
      split
      · rfl
      · rw [if_pos rfl]
/-- the reference reads a key -/
theorem M_key (hL : L ≤ 96) (hB : ∀ j, j < L → B j < 256) {m : Mm} (hb : RB B L m) (gk : GKey m) {F T N : Nat} (rs : RS B L m F T false) (hFT : F ≤ T) (hT : T ≤ L) (hN : 500 ≤ N) : (∀ k, k < 3 → KW B F T k → f_M_takesKey N m = bp (f_M_go N (mst m 91 13 (nI k))) fun m_116 => some (1, m_116)) ∧ ((∀ k, k < 3 → ¬ KW B F T k) → f_M_takesKey N m = some (0, m)) := by
  obtain ⟨M, rfl⟩ : ∃ M, N = M + 4 := ⟨N - 4, by omega⟩
  have st : ∀ k, k < 3 → ∀ G, (KW B F T k ∧ f_M_takesKey_L12 (M + 4) (G + 1) (nI k) m = bp (f_M_go (M + 4) (mst m 91 13 (nI k))) fun m_116 => some (1, m_116)) ∨ (¬ KW B F T k ∧ f_M_takesKey_L12 (M + 4) (G + 1) (nI k) m = f_M_takesKey_L12 (M + 4) G (nI (k + 1)) m) := by
    intro k hk G
    rw [f_M_takesKey_L12, if_neg (l_ge (n := 3) hk (by decide)), nI_1, if_pos (inb_nI (by omega) (by decide)), if_pos (inb_nI (by omega) (by decide)), ix_nI (by omega), ix_nI (by omega), gk.2 _ (by omega), gk.2 _ (by omega), pk_sub (by omega), show 4 * (k + 1) - 4 * k = 4 by omega, rs.1, rs.2.1, pk_sub (by omega), lt_eq, lt_eq]
    by_cases q : T = F + 4
    · subst q
      obtain ⟨v, w, h1, h2⟩ := M_kL hL hB hb gk hT rs.1 hk 4 0 (M + 4) (by omega) (by omega) (fun j hj => by omega)
      rw [if_pos (show nI 4 = nI (F + 4 - F) by congr 1; omega), show f_M_takesKey_L55 (M + 4) (nI k) (nI 4) 1 0 m = _ from h1, bp_some]
      rcases h2 with ⟨z, h⟩ | ⟨z, h⟩
      · left
        rw [z, if_neg nz1, lt_eq]
        exact ⟨h, rfl⟩
      · right
        rw [z, if_pos rfl]
        exact ⟨h, rfl⟩
    · right
      refine ⟨fun z => q z.1, ?_⟩
      rw [if_neg (fun z => by rw [nI_eq (by omega) (by omega)] at z; omega)]
      have e : f_M_takesKey_L55 (M + 4) (nI k) (nI 4) 0 0 m = some (0, 0) := by
        rw [f_M_takesKey_L55, if_neg (show ¬ nI 4 ≤ 0 by decide), if_pos rfl]
      rw [e, bp_some, if_pos rfl]
  have h1 : ∀ k, k < 3 → KW B F T k → m 91 10 = 1 := by
    intro k hk hw
    have e := hw.2 0 (by decide)
    have hl : isLb (B F) = true := by
      have := (kyb_l (4 * k + 0) (by omega)).2
      rw [← e] at this
      exact this
    have := (rs.2.2.2.1 (by have := hw.1; omega) hl).1
    exact this
  unfold f_M_takesKey
  constructor
  · intro k hk hw
    rw [if_pos (h1 k hk hw)]
    rcases st 0 (by decide) (M + 3) with ⟨h, e⟩ | ⟨h0, e0⟩
    · rw [hw.uq hk (by decide) h]; exact e
    rcases st 1 (by decide) (M + 2) with ⟨h, e⟩ | ⟨h1, e1⟩
    · rw [hw.uq hk (by decide) h]; exact e0.trans e
    rcases st 2 (by decide) (M + 1) with ⟨h, e⟩ | ⟨h2, e2⟩
    · rw [hw.uq hk (by decide) h]; exact e0.trans (e1.trans e)
    match k, hk, hw with
    | 0, _, hw => exact absurd hw h0
    | 1, _, hw => exact absurd hw h1
    | 2, _, hw => exact absurd hw h2
  · intro hn
    by_cases q : m 91 10 = 1
    · rw [if_pos q]
      rcases st 0 (by decide) (M + 3) with ⟨h, e⟩ | ⟨h0, e0⟩
      · exact absurd h (hn 0 (by decide))
      rcases st 1 (by decide) (M + 2) with ⟨h, e⟩ | ⟨h1, e1⟩
      · exact absurd h (hn 1 (by decide))
      rcases st 2 (by decide) (M + 1) with ⟨h, e⟩ | ⟨h2, e2⟩
      · exact absurd h (hn 2 (by decide))
      refine e0.trans (e1.trans (e2.trans ?_))
      rw [f_M_takesKey_L12, if_pos (show (3 : Int32) ≤ nI (2 + 1) by decide)]
    · rw [if_neg q]
end KEY
-- a list of codes that is valid
theorem dl_run (f : Nat → Int32) : ∀ (Y : List Int32) (k e : Nat), (∀ j, j < Y.length → f (k + j) = Y.getD j 0) → dl (dpt f k) Y = some e → dpt f (k + Y.length) = e ∧ ∀ j, j < Y.length → f (k + j) < 0 → if f (k + j) = (-10) then 1 ≤ dpt f (k + j) else 2 ≤ dpt f (k + j)
  | [], k, e, _, h => ⟨Option.some.inj h, fun j hj => absurd hj (Nat.not_lt_zero j)⟩
  | x :: Y, k, e, hf, h => by
    have hx : f k = x := hf 0 (Nat.succ_pos _)
    have ed : dpt f (k + 1) = if f k < 0 then if f k = (-10) then dpt f k else dpt f k - 1 else dpt f k + 1 := rfl
    rw [dl_cons] at h
    have main : dl (dpt f (k + 1)) Y = some e ∧ (f k < 0 → if f k = (-10) then 1 ≤ dpt f k else 2 ≤ dpt f k) := by
      rw [ed, hx]
      by_cases h0 : x < 0
      · rw [if_pos h0] at h ⊢
        by_cases h10 : x = (-10)
        · rw [if_pos h10] at h ⊢
          by_cases hd : 1 ≤ dpt f k
          · rw [if_pos hd] at h; exact ⟨h, fun _ => by rw [if_pos h10]; exact hd⟩
          · rw [if_neg hd] at h; exact absurd h (by simp)
        · rw [if_neg h10] at h ⊢
          by_cases hd : 2 ≤ dpt f k
          · rw [if_pos hd] at h; exact ⟨h, fun _ => by rw [if_neg h10]; exact hd⟩
          · rw [if_neg hd] at h; exact absurd h (by simp)
      · rw [if_neg h0] at h ⊢
        exact ⟨h, fun z => absurd z h0⟩
    obtain ⟨u1, u2⟩ := dl_run f Y (k + 1) e (fun j hj => by
      have := hf (j + 1) (Nat.succ_lt_succ hj)
      rw [show k + 1 + j = k + (j + 1) by omega]
      exact this) main.1
    refine ⟨by rw [show k + (x :: Y).length = k + 1 + Y.length from by rw [List.length_cons]; omega]; exact u1, fun j hj => ?_⟩
    cases j with
    | zero => exact main.2
    | succ j =>
      have := u2 j (Nat.lt_of_succ_lt_succ hj)
      rw [show k + 1 + j = k + (j + 1) by omega] at this
      exact this
theorem VX.vld {key : Nat} {X : List Int32} (h : VX key X) (hl : X.length ≤ 96) {f : Nat → Int32} (hf : lay f X) : vld key f X.length := by
  obtain ⟨u1, u2⟩ := dl_run f X 0 1 (fun j hj => by rw [Nat.zero_add]; exact hf j hj) (h.1 0)
  rw [Nat.zero_add] at u1
  refine ⟨fun k hk => ⟨?_, fun z => ?_⟩, u1, hl⟩
  · rw [hf k hk]
    apply h.2
    rw [List.getD_eq_getElem?_getD, List.getElem?_eq_getElem hk]
    exact List.getElem_mem hk
  · have := u2 k hk
    rw [Nat.zero_add] at this
    exact this z
