/-! PURE: the reference's reading, turn by turn -/
theorem t_33_40 : ¬ (33 : Int32) = 40 := by decide
theorem t_40_33 : ¬ (40 : Int32) = 33 := by decide
theorem U_not {N n : Nat} {b1 b2 : Int32} {m : Mm} (h10 : m 91 10 = 3) (h11 : m 91 11 = 33) (hn : ¬ 8 ≤ b2) : f_M_takesE_L28 N (n + 1) b1 b2 1 m = (if inb (m 91 20) 96 = true then lt (mst m 100 (ix (m 91 20)) (-10)) fun m_76 => lt (mst m_76 91 20 ((m_76 91 20) + 1)) fun m_84 => bp (f_M_go N m_84) fun m_91 => bp (f_M_notsOpen N m_91) fun r_173 => f_M_takesE_L28 N n b1 r_173 1 m_91 else none) := by
  rw [f_M_takesE_L28]
  simp only [if_neg nz1, h10, h11, if_true, if_neg hn]
theorem U_open {N n : Nat} {b1 b2 : Int32} {m : Mm} (h10 : m 91 10 = 3) (h11 : m 91 11 = 40) (hn : ¬ 8 ≤ b1) : f_M_takesE_L28 N (n + 1) b1 b2 1 m = (if inb (m 91 20) 96 = true then lt (mst m 100 (ix (m 91 20)) (-11)) fun m_130 => lt (mst m_130 91 20 ((m_130 91 20) + 1)) fun m_138 => if inb (b1 + 1) 10 = true then lt (mst m_138 101 (ix (b1 + 1)) 0) fun m_150 => bp (f_M_go N m_150) fun m_152 => bp (f_M_notsOpen N m_152) fun r_173 => f_M_takesE_L28 N n (b1 + 1) r_173 1 m_152 else none else none) := by
  rw [f_M_takesE_L28]
  simp only [if_neg nz1, h10, h11, if_true, if_neg hn, if_neg t_40_33]
/-- a part, or a fault -/
theorem U_part {N n : Nat} {b1 b2 : Int32} {m : Mm} (h : ¬ m 91 10 = 3 ∨ (¬ m 91 11 = 33 ∧ ¬ m 91 11 = 40) ∨ (m 91 11 = 33 ∧ 8 ≤ b2) ∨ (m 91 11 = 40 ∧ 8 ≤ b1)) : f_M_takesE_L28 N (n + 1) b1 b2 1 m = bd (f_M_takesPart N m) fun r_159 m_159 => if r_159 = 0 then some (0, m_159) else bp (f_M_notsOpen N m_159) fun r_173 => f_M_takesE_L28 N n b1 r_173 0 m_159 := by
  rw [f_M_takesE_L28]
  by_cases h10 : m 91 10 = 3
  · rcases h with z | ⟨z1, z2⟩ | ⟨z1, z2⟩ | ⟨z1, z2⟩
    · exact absurd h10 z
    · simp only [if_neg nz1, h10, if_true, if_neg z1, if_neg z2]
    · simp only [if_neg nz1, h10, z1, if_true, if_pos z2, if_neg t_33_40]
    · simp only [if_neg nz1, h10, z1, if_true, if_pos z2, if_neg t_40_33]
  · simp only [if_neg nz1, if_neg h10]
theorem U_end {N n : Nat} {b1 b2 : Int32} {m : Mm} (h10 : m 91 10 = 0) : f_M_takesE_L28 N (n + 1) b1 b2 0 m = bp (f_M_settle N 0 m) fun m_347 => some (if b1 = 0 then (1 : Int32) else 0, m_347) := by
  rw [f_M_takesE_L28]
  simp only [if_true, h10]
theorem U_close {N n : Nat} {b1 b2 : Int32} {m : Mm} (h10 : m 91 10 = 3) (h11 : m 91 11 = 41) (hn : ¬ b1 ≤ 0) : f_M_takesE_L28 N (n + 1) b1 b2 0 m = bp (f_M_settle N 0 m) fun m_203 => lt (mst m_203 91 20 ((m_203 91 20) - 1)) fun m_213 => bp (f_M_settle N 6 m_213) fun m_222 => bp (f_M_notsOpen N m_222) fun r_226 => bp (f_M_go N m_222) fun m_231 => f_M_takesE_L28 N n (b1 + (-1)) r_226 0 m_231 := by
  rw [f_M_takesE_L28]
  simp only [if_true, h10, h11, if_neg (show ¬ (3 : Int32) = 0 by decide), if_neg hn]
/-- no sign here, or a second test: it ends -/
theorem U_stop {N n : Nat} {b1 b2 : Int32} {m : Mm} (h10 : ¬ m 91 10 = 0) (hc : ¬ m 91 10 = 3 ∨ ¬ m 91 11 = 41 ∨ b1 ≤ 0) {sg : Int32} (hs : f_M_signHere m = some sg) (h : sg = 0 ∨ (nI (rk sg) = 3 ∧ inb b1 10 = true ∧ ¬ m 101 (ix b1) = 0)) : f_M_takesE_L28 N (n + 1) b1 b2 0 m = some (0, m) := by
  rw [f_M_takesE_L28]
  by_cases z : sg = 0
  · by_cases h3 : m 91 10 = 3
    · rcases hc with y | y | y
      · exact absurd h3 y
      · simp only [if_true, if_neg h10, if_pos h3, if_neg y, hs, bp_some, if_pos z]
      · by_cases h41 : m 91 11 = 41
        · simp only [if_true, if_neg h10, if_pos h3, if_pos h41, if_pos y, hs, bp_some, if_pos z]
        · simp only [if_true, if_neg h10, if_pos h3, if_neg h41, hs, bp_some, if_pos z]
    · simp only [if_true, if_neg h10, if_neg h3, hs, bp_some, if_pos z]
  · obtain ⟨r3, ib, tn⟩ := h.resolve_left z
    by_cases h3 : m 91 10 = 3
    · rcases hc with y | y | y
      · exact absurd h3 y
      · simp only [if_true, if_neg h10, if_pos h3, if_neg y, hs, bp_some, if_neg z, M_rank, if_pos r3, if_pos ib, if_neg tn]
      · by_cases h41 : m 91 11 = 41
        · simp only [if_true, if_neg h10, if_pos h3, if_pos h41, if_pos y, hs, bp_some, if_neg z, M_rank, if_pos r3, if_pos ib, if_neg tn]
        · simp only [if_true, if_neg h10, if_pos h3, if_neg h41, hs, bp_some, if_neg z, M_rank, if_pos r3, if_pos ib, if_neg tn]
    · simp only [if_true, if_neg h10, if_neg h3, hs, bp_some, if_neg z, M_rank, if_pos r3, if_pos ib, if_neg tn]
/-- a sign that joins -/
theorem U_sign {N n : Nat} {b1 b2 : Int32} {m : Mm} (h3 : m 91 10 = 3) (h41 : ¬ m 91 11 = 41) (ib : inb b1 10 = true) {sg : Int32} (hs : f_M_signHere m = some sg) (z : ¬ sg = 0) (h : nI (rk sg) = 3 → m 101 (ix b1) = 0) (t01 : m 101 (ix b1) = 0 ∨ m 101 (ix b1) = 1) : f_M_takesE_L28 N (n + 1) b1 b2 0 m = (lt (mst m 101 (ix b1) (if nI (rk sg) = 3 then 1 else if nI (rk sg) ≤ 3 then 0 else m 101 (ix b1))) fun m_305 => bp (f_M_settle N (nI (rk sg)) m_305) fun m_312 => if inb (m_312 91 20) 96 = true then lt (mst m_312 100 (ix (m_312 91 20)) sg) fun m_325 => lt (mst m_325 91 20 ((m_325 91 20) + 1)) fun m_333 => bp (f_M_go N m_333) fun m_339 => f_M_takesE_L28 N n b1 b2 1 m_339 else none) := by
  rw [f_M_takesE_L28]
  have h10 : ¬ m 91 10 = 0 := by rw [h3]; decide
  by_cases r3 : nI (rk sg) = 3
  · simp only [if_true, if_neg h10, if_pos h3, if_neg h41, hs, bp_some, if_neg z, M_rank, if_pos r3, if_pos ib, if_pos (h r3)]
  · by_cases rl : nI (rk sg) ≤ 3
    · simp only [if_true, if_neg h10, if_pos h3, if_neg h41, hs, bp_some, if_neg z, M_rank, if_neg r3, if_pos rl, if_pos ib]
    · have e : (if m 101 (ix b1) = 0 then (0 : Int32) else 1) = m 101 (ix b1) := by
        rcases t01 with q | q <;> rw [q]
        · rfl
        · rfl
      simp only [if_true, if_neg h10, if_pos h3, if_neg h41, hs, bp_some, if_neg z, M_rank, if_neg r3, if_neg rl, if_pos ib, e]
