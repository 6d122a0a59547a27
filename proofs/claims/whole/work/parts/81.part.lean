/-! PURE: parts of a text -/
theorem TP2 {N : Nat} {m : Mm} (h : m 91 10 = 2) : f_M_takesPart N m = (if inb (m 91 17) 96 = true then lt (mst m 99 (ix (m 91 17)) (m 91 11)) fun m_87 => lt (mst m_87 91 17 ((m_87 91 17) + 1)) fun m_95 => lt (mst m_95 91 18 ((m_95 91 18) + 1)) fun m_105 => bp (f_M_settle N 6 m_105) fun m_111 => bp (f_M_go N m_111) fun m_115 => some (1, m_115) else none) := by
  unfold f_M_takesPart
  simp only [h, if_neg (show ¬ (2 : Int32) = 1 by decide), if_true]
theorem TP1 {N : Nat} {m : Mm} (h : m 91 10 = 1) (hl : (m 91 8) - (m 91 9) = 1) {r : Int32} (hr : f_M_nameOf (m 91 11) m = some r) (h0 : ¬ r < 0) : f_M_takesPart N m = (if inb (m 91 17) 96 = true then lt (mst m 99 (ix (m 91 17)) (10000 + r)) fun m_87 => lt (mst m_87 91 17 ((m_87 91 17) + 1)) fun m_95 => lt (mst m_95 91 18 ((m_95 91 18) + 1)) fun m_105 => bp (f_M_settle N 6 m_105) fun m_111 => bp (f_M_go N m_111) fun m_115 => some (1, m_115) else none) := by
  unfold f_M_takesPart
  simp only [h, if_true, hl, hr, bp_some, if_neg h0, lt_eq, if_neg (show ¬ (1 : Int32) = 2 by decide), if_neg nz1]
theorem TP0 {N : Nat} {m : Mm} {r : Int32} (hr : f_M_nameOf (m 91 11) m = some r) (h : ¬ m 91 10 = 2 ∧ (¬ m 91 10 = 1 ∨ ¬ (m 91 8) - (m 91 9) = 1 ∨ r < 0)) : f_M_takesPart N m = some (0, m) := by
  unfold f_M_takesPart
  obtain ⟨h2, hh⟩ := h
  by_cases h1 : m 91 10 = 1
  · rcases hh with z | z | z
    · exact absurd h1 z
    · simp only [if_pos h1, if_neg z, if_neg h2]
    · by_cases y : (m 91 8) - (m 91 9) = 1
      · simp only [if_pos h1, if_pos y, hr, bp_some, if_pos z, lt_eq, if_neg h2, if_true]
      · simp only [if_pos h1, if_neg y, if_neg h2]
  · simp only [if_neg h1, if_neg h2]
theorem nm_some (x : Int32) (m : Mm) : ∃ r, f_M_nameOf x m = some r := by
  unfold f_M_nameOf
  repeat' split
  all_goals exact ⟨_, rfl⟩
/-- a name's place among a key's names -/
def nmI (key b : Nat) : Int32 := if key = 0 then (if b = 112 then 0 else if b = 100 then 1 else if b = 120 then 2 else (-1)) else if key = 1 then (if b = 100 then 0 else if b = 102 then 1 else if b = 119 then 2 else (-1)) else (if b = 104 then 0 else if b = 115 then 1 else (-1))
theorem nmI_c {key b : Nat} (hk : key < 3) : nmI key b < 0 ∨ ∃ i, i < 3 ∧ (key = 2 → i < 2) ∧ nmI key b = nI i := by
  unfold nmI
  repeat' split
  all_goals first
    | exact Or.inl (by decide)
    | exact Or.inr ⟨0, by decide, fun _ => by decide, rfl⟩
    | exact Or.inr ⟨1, by decide, fun _ => by decide, rfl⟩
    | exact Or.inr ⟨2, by decide, fun e => by omega, rfl⟩
theorem M_nameOf {m : Mm} {key b : Nat} (hk : key < 3) (hb : b < 256) (e : m 91 13 = nI key) : f_M_nameOf (nI b) m = some (nmI key b) := by
  have q : ∀ n : Nat, n < 256 → ∀ {α : Type} (x y : α), (if nI b = nI n then x else y) = if b = n then x else y := by
    intro n hn α x y
    by_cases z : b = n
    · rw [if_pos z, if_pos (by rw [z])]
    · rw [if_neg z, if_neg (fun w => z ((nI_eq (by omega) (by omega)).mp w))]
  unfold f_M_nameOf nmI
  rw [e]
  match key, hk with
  | 0, _ =>
    rw [if_pos (show nI 0 = 0 from rfl), if_pos (show 0 = 0 from rfl)]
    show some (if nI b = nI 112 then (0 : Int32) else if nI b = nI 100 then 1 else if nI b = nI 120 then 2 else (-1)) = _
    rw [q 112 (by decide), q 100 (by decide), q 120 (by decide)]
  | 1, _ =>
    rw [if_neg (show ¬ nI 1 = 0 by decide), if_pos (show nI 1 = 1 from rfl), if_neg (show ¬ (1 = 0) by decide), if_pos (show 1 = 1 from rfl)]
    show some (if nI b = nI 100 then (0 : Int32) else if nI b = nI 102 then 1 else if nI b = nI 119 then 2 else (-1)) = _
    rw [q 100 (by decide), q 102 (by decide), q 119 (by decide)]
  | 2, _ =>
    rw [if_neg (show ¬ nI 2 = 0 by decide), if_neg (show ¬ nI 2 = 1 by decide), if_neg (show ¬ (2 = 0) by decide), if_neg (show ¬ (2 = 1) by decide)]
    show some (if nI b = nI 104 then (0 : Int32) else if nI b = nI 115 then 1 else (-1)) = _
    rw [q 104 (by decide), q 115 (by decide)]
theorem i8_small : ∀ b, b < 128 → (nI b).toInt8.toInt32 = nI b := by decide +kernel
theorem ch_small {b : Nat} (h : b < 65536) : ((nI b).toUInt32 % 65536).toInt32 = nI b := by
  rw [pk_char, pk_tn (by omega), Nat.mod_eq_of_lt h]
theorem J_index {m : Mm} {key b N : Nat} (hk : key < 3) (hb : b < 128) (hN : 500 ≤ N) : f_JS_indexOf N (3 + key) (nI b) m = some (nmI key b) := by
  obtain ⟨M, rfl⟩ : ∃ M, N = M + 4 := ⟨N - 4, by omega⟩
  have q : ∀ n : Nat, n < 256 → ∀ {α : Type} (x y : α), (if nI n = nI b then x else y) = if b = n then x else y := by
    intro n hn α x y
    by_cases z : b = n
    · rw [if_pos z, if_pos (by rw [z])]
    · rw [if_neg z, if_neg (fun w => z ((nI_eq (by omega) (by omega)).mp w).symm)]
  have hc : f_JL_canEncode (nI b) = some 1 := by
    unfold f_JL_canEncode
    rw [if_neg (nI_pos (by omega)), if_neg (l_nlt (n := 255) (by omega) (by decide))]
  have hl : ∀ n, n < 4 → Int32.ofNat n >>> ((0 : Int32) &&& 31) = nI n := by decide +kernel
  have i0 : ix (0 : Int32) = 0 := ixc_0
  unfold f_JS_indexOf f_JS_indexOf2 f_JS_isLatin1 f_JS_length f_JS_coder f_JL_indexOf f_JL_indexOfChar
  rw [bp_some, if_neg nz1, bp_some, bp_some, hc, bp_some, if_neg nz1, i8_small b hb]
  unfold nmI
  match key, hk with
  | 0, _ =>
    show bp (bp (lt (if (0 : Int32) < 0 then 0 else 0) fun x_14 => lt (if (Int32.ofNat 3) < (Int32.ofNat 3 >>> ((0 : Int32) &&& 31)) then Int32.ofNat 3 else (Int32.ofNat 3 >>> ((0 : Int32) &&& 31))) fun x_21 => if x_14 < x_21 then bp (f_JL_indexOfChar_L7 3 (M + 4) (nI b) x_14 x_21 (nI b) x_14 m) fun r_33 => some r_33 else some (-1)) fun r_17 => some r_17) (fun r_3 => some r_3) = _
    rw [hl 3 (by decide), if_neg (show ¬ (0 : Int32) < 0 by decide), lt_eq, if_neg (show ¬ Int32.ofNat 3 < nI 3 by decide), lt_eq, if_pos (show (0 : Int32) < nI 3 by decide)]
    rw [f_JL_indexOfChar_L7, if_neg (show ¬ nI 3 ≤ 0 by decide), if_pos (show inb 0 (sN 3) = true by decide), i0, show sB 3 0 = nI 112 from rfl, q 112 (by decide), show (0 : Int32) + 1 = nI 1 from rfl]
    rw [f_JL_indexOfChar_L7, if_neg (show ¬ nI 3 ≤ nI 1 by decide), if_pos (show inb (nI 1) (sN 3) = true by decide), ix_nI (by decide), show sB 3 1 = nI 100 from rfl, q 100 (by decide), show nI 1 + 1 = nI 2 from rfl]
    rw [f_JL_indexOfChar_L7, if_neg (show ¬ nI 3 ≤ nI 2 by decide), if_pos (show inb (nI 2) (sN 3) = true by decide), ix_nI (by decide), show sB 3 2 = nI 120 from rfl, q 120 (by decide), show nI 2 + 1 = nI 3 from rfl]
    rw [f_JL_indexOfChar_L7, if_pos (show nI 3 ≤ nI 3 by decide), if_pos rfl]
    repeat' split
    all_goals rfl
  | 1, _ =>
    show bp (bp (lt (if (0 : Int32) < 0 then 0 else 0) fun x_14 => lt (if (Int32.ofNat 3) < (Int32.ofNat 3 >>> ((0 : Int32) &&& 31)) then Int32.ofNat 3 else (Int32.ofNat 3 >>> ((0 : Int32) &&& 31))) fun x_21 => if x_14 < x_21 then bp (f_JL_indexOfChar_L7 4 (M + 4) (nI b) x_14 x_21 (nI b) x_14 m) fun r_33 => some r_33 else some (-1)) fun r_17 => some r_17) (fun r_3 => some r_3) = _
    rw [hl 3 (by decide), if_neg (show ¬ (0 : Int32) < 0 by decide), lt_eq, if_neg (show ¬ Int32.ofNat 3 < nI 3 by decide), lt_eq, if_pos (show (0 : Int32) < nI 3 by decide)]
    rw [f_JL_indexOfChar_L7, if_neg (show ¬ nI 3 ≤ 0 by decide), if_pos (show inb 0 (sN 4) = true by decide), i0, show sB 4 0 = nI 100 from rfl, q 100 (by decide), show (0 : Int32) + 1 = nI 1 from rfl]
    rw [f_JL_indexOfChar_L7, if_neg (show ¬ nI 3 ≤ nI 1 by decide), if_pos (show inb (nI 1) (sN 4) = true by decide), ix_nI (by decide), show sB 4 1 = nI 102 from rfl, q 102 (by decide), show nI 1 + 1 = nI 2 from rfl]
    rw [f_JL_indexOfChar_L7, if_neg (show ¬ nI 3 ≤ nI 2 by decide), if_pos (show inb (nI 2) (sN 4) = true by decide), ix_nI (by decide), show sB 4 2 = nI 119 from rfl, q 119 (by decide), show nI 2 + 1 = nI 3 from rfl]
    rw [f_JL_indexOfChar_L7, if_pos (show nI 3 ≤ nI 3 by decide), if_neg (show ¬ (1 = 0) by decide), if_pos rfl]
    repeat' split
    all_goals rfl
  | 2, _ =>
    show bp (bp (lt (if (0 : Int32) < 0 then 0 else 0) fun x_14 => lt (if (Int32.ofNat 2) < (Int32.ofNat 2 >>> ((0 : Int32) &&& 31)) then Int32.ofNat 2 else (Int32.ofNat 2 >>> ((0 : Int32) &&& 31))) fun x_21 => if x_14 < x_21 then bp (f_JL_indexOfChar_L7 5 (M + 4) (nI b) x_14 x_21 (nI b) x_14 m) fun r_33 => some r_33 else some (-1)) fun r_17 => some r_17) (fun r_3 => some r_3) = _
    rw [hl 2 (by decide), if_neg (show ¬ (0 : Int32) < 0 by decide), lt_eq, if_neg (show ¬ Int32.ofNat 2 < nI 2 by decide), lt_eq, if_pos (show (0 : Int32) < nI 2 by decide)]
    rw [f_JL_indexOfChar_L7, if_neg (show ¬ nI 2 ≤ 0 by decide), if_pos (show inb 0 (sN 5) = true by decide), i0, show sB 5 0 = nI 104 from rfl, q 104 (by decide), show (0 : Int32) + 1 = nI 1 from rfl]
    rw [f_JL_indexOfChar_L7, if_neg (show ¬ nI 2 ≤ nI 1 by decide), if_pos (show inb (nI 1) (sN 5) = true by decide), ix_nI (by decide), show sB 5 1 = nI 115 from rfl, q 115 (by decide), show nI 1 + 1 = nI 2 from rfl]
    rw [f_JL_indexOfChar_L7, if_pos (show nI 2 ≤ nI 2 by decide), if_neg (show ¬ (2 = 0) by decide), if_neg (show ¬ (2 = 1) by decide)]
    repeat' split
    all_goals rfl
section PRT
variable {B : Nat → Nat} {L : Nat}
theorem T_numL (hL : L ≤ 96) (hB : ∀ j, j < L → B j < 256) {c : Mm} (hb : CB B L c) (o1 : Nat) {F n : Nat} (hF : F + n ≤ L) (hn : n ≤ 4) (e3 : c 2 3 = nI (F + n)) (hd : ∀ j, j < n → isDb (B (F + j)) = true) : ∀ (d k G : Nat), k + d = n → d < G → f_T_readNumber_L32 o1 G (nI (nv B F k)) (nI (F + k)) c = some (nI (nv B F n), nI (F + n))
  | 0, k, G, h, hG => by
    obtain ⟨G, rfl⟩ : ∃ f, G = f + 1 := ⟨G - 1, by omega⟩
    have : k = n := by omega
    subst this
    rw [f_T_readNumber_L32, e3, if_pos (nI_le (Nat.le_refl _) (by omega))]
  | d + 1, k, G, h, hG => by
    obtain ⟨G, rfl⟩ : ∃ f, G = f + 1 := ⟨G - 1, by omega⟩
    have hk := isDb_iff.mp (hd k (by omega))
    have hv := (nv_lt (B := B) (F := F) k (fun j hj => hd j (by omega))).2
    rw [f_T_readNumber_L32, e3, if_neg (nI_ge (by omega) (by omega)), if_pos (inb_nI (by omega) (by decide)), ix_nI (by omega), hb.2 _ (by omega), show nI (nv B F k) * 10 = nI (nv B F k * 10) from pk_mul _ 10, nI_add, show nI (nv B F k * 10 + B (F + k)) - 48 = nI (nv B F k * 10 + B (F + k) - 48) from pk_sub (b := 48) (by omega), lt_eq, nI_1]
    have e : nv B F k * 10 + B (F + k) - 48 = nv B F (k + 1) := by
      show _ = if 4 ≤ k then _ else _
      rw [if_neg (by omega)]
      omega
    rw [e]
    exact T_numL hL hB hb o1 hF hn e3 hd d (k + 1) G (by omega) (by omega)
theorem T_fail {c : Mm} {F : Nat} (h5 : c 2 5 = (-1)) (e : c 2 2 = nI F) : f_T_fail c = some (mst c 2 5 (nI F)) := by
  unfold f_T_fail
  rw [if_pos h5, e]
  rfl
theorem RB.cg {m m2 : Mm} (h : RB B L m) (h7 : m2 91 7 = m 91 7) (h96 : m2 96 = m 96) : RB B L m2 := ⟨h7.trans h.1, fun j hj => by rw [h96]; exact h.2 j hj⟩
theorem RS.cg {m m2 : Mm} {F T : Nat} {st : Bool} (h : RS B L m F T st) (f : ∀ i, 8 ≤ i → i ≤ 12 → m2 91 i = m 91 i) : RS B L m2 F T st := by
  obtain ⟨a1, a2, a3, a4, a5, a6, a7, a8⟩ := h
  refine ⟨by rw [f 9 (by omega) (by omega)]; exact a1, by rw [f 8 (by omega) (by omega)]; exact a2, by rw [f 10 (by omega) (by omega)]; exact a3, by rw [f 10 (by omega) (by omega), f 11 (by omega) (by omega)]; exact a4, by rw [f 10 (by omega) (by omega), f 11 (by omega) (by omega)]; exact a5, by rw [f 10 (by omega) (by omega), f 11 (by omega) (by omega)]; exact a6, by rw [f 12 (by omega) (by omega)]; exact a7, by rw [f 12 (by omega) (by omega)]; exact a8⟩
/-- a part's code in the reference, and the nots that waited for it -/
theorem M_ptail {m : Mm} {R W0 : List Int32} {j at0 key N : Nat} (hN : 500 ≤ N) (h : MZ m R (W0 ++ List.replicate j (-10)) at0 key) (hs : stops W0 6) (hl : R.length + 1 + (W0.length + j) ≤ 96) (x : Int32) : ∃ m2, (if inb (m 91 17) 96 = true then lt (mst m 99 (ix (m 91 17)) x) fun m_87 => lt (mst m_87 91 17 ((m_87 91 17) + 1)) fun m_95 => lt (mst m_95 91 18 ((m_95 91 18) + 1)) fun m_105 => bp (f_M_settle N 6 m_105) fun m_111 => bp (f_M_go N m_111) fun m_115 => some ((1 : Int32), m_115) else none) = (bp (f_M_go N m2) fun m_115 => some (1, m_115)) ∧ MZ m2 (R ++ [x] ++ List.replicate j (-10)) W0 (at0 + 1) key ∧ (∀ k, k ≠ 91 → k ≠ 99 → m2 k = m k) ∧ (∀ i, i ≠ 17 → i ≠ 18 → i ≠ 20 → m2 91 i = m 91 i) := by
  obtain ⟨h1, h2, h3, h4, h5, h6⟩ := h
  have hlr : (List.replicate j (-10 : Int32)).length = j := List.length_replicate
  rw [h1, if_pos (inb_nI (by omega) (by decide)), ix_nI (by omega), lt_eq, mst_ck (k2 := 91) (by decide), h1, nI_1, lt_eq, mst_i (i2 := 18) (by decide), mst_ck (k2 := 91) (by decide), h5, nI_1, lt_eq]
  obtain ⟨m2, u1, u2, u3⟩ := M_settle (r := 6) (by decide) (R := R ++ [x]) (W := W0) (S := List.replicate j (-10)) hs (at0 := at0 + 1) (key := key) (m := mst (mst (mst m 99 R.length x) 91 17 (nI (R.length + 1))) 91 18 (nI (at0 + 1))) hN (fun y hy => by rw [List.eq_of_mem_replicate hy]; exact ⟨by decide, by decide⟩) (by rw [List.length_append, hlr]; show R.length + 1 + _ ≤ _; omega) ⟨by rw [mst_i (by decide), mst_at, List.length_append]; rfl, by
      rw [mst_ck (by decide), mst_ck (by decide), mst_row]
      exact h2.sn (fun j hj => pk_un (by omega)) pk_us, by rw [mst_i (by decide), mst_i (by decide), mst_ck (by decide)]; exact h3, by rw [mst_ck (by decide), mst_ck (by decide), mst_ck (by decide)]; exact h4, mst_at _ _ _ _, by rw [mst_i (by decide), mst_i (by decide), mst_ck (by decide)]; exact h6⟩
  refine ⟨m2, by rw [show f_M_settle N 6 (mst (mst (mst m 99 R.length x) 91 17 (nI (R.length + 1))) 91 18 (nI (at0 + 1))) = _ from u1, bp_some], by rw [List.reverse_replicate] at u2; exact u2, fun k k1 k2 => by rw [u3.1 k k1 k2, mst_ck k1, mst_ck k1, mst_ck k2], fun i a1 a2 a3 => by rw [u3.2 i a1 a3, mst_i a2, mst_i a1, mst_ck (by decide)]⟩
end PRT
