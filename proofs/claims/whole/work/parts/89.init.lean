/-! PURE: two new objects -/
theorem z_eqv : ∀ j, j < 64 → mem0 (38 + of64 j) (sl64 j) = mem0 92 j := by decide +kernel
theorem z_row : ∀ j, j < 64 → mem0 92 j = (if j = 0 then 1 else if j = 3 then 10 else if j = 7 ∨ j = 8 ∨ j = 9 then 1000 else if j = 10 ∨ j = 14 ∨ j = 18 ∨ j = 22 ∨ j = 26 ∨ j = 30 then 100 else 0) := by decide +kernel
theorem z_law : ∀ k, k < 3 → mem0 39 k = (-1000000005) := by decide +kernel
theorem z_one : mem0 38 18 = (-1) ∧ mem0 91 4 = (-1) ∧ mem0 0 5 = 0 ∧ mem0 91 3 = 0 ∧ mem0 2 0 = 0 ∧ mem0 91 7 = 0 ∧ mem0 0 9 = 0 ∧ mem0 91 33 = 0 := by decide +kernel
theorem z_sh : ∀ s, s < 4 → mem0 (68 + 2 * s) 0 = (-1) ∧ mem0 104 s = (-1) ∧ mem0 (68 + 2 * s) 1 = 0 ∧ mem0 105 s = 0 := by decide +kernel
theorem z_shp : ∀ s, s < 4 → ∀ j, j < 24 → mem0 (68 + 2 * s + 1) j = 0 ∧ mem0 106 (24 * s + j) = 0 := by decide +kernel
theorem z_sl : ∀ q, q < 5 → mem0 (76 + 3 * q) 0 = 0 ∧ mem0 107 q = 0 := by decide +kernel
theorem z_key : (∀ j, j < 12 → mem0 97 j = nI (kyb j)) ∧ ∀ j, j < 4 → mem0 98 j = nI (4 * j) := by decide +kernel
theorem good0 : Good mem0 := by
  have z : ∀ q : Nat, q < 64 → ¬ q = 0 → ¬ q = 3 → ¬ (q = 7 ∨ q = 8 ∨ q = 9) → ¬ (q = 10 ∨ q = 14 ∨ q = 18 ∨ q = 22 ∨ q = 26 ∨ q = 30) → mem0 92 q = nI 0 := fun q h h0 h3 h7 h10 => by
    rw [z_row q h, if_neg h0, if_neg h3, if_neg h7, if_neg h10]; rfl
  have hI : Inv 999 (mem0 92) := by
    refine ⟨⟨0, by omega, z 1 (by omega) (by omega) (by omega) (by omega) (by omega)⟩, fun i hi => ⟨1000, by omega, ?_⟩, fun t ht => ⟨⟨100, by omega, by omega, ?_⟩, ⟨0, by omega, z _ (by omega) (by omega) (by omega) (by omega) (by omega)⟩⟩, fun m hm => ⟨⟨0, by omega, z _ (by omega) (by omega) (by omega) (by omega) (by omega)⟩, ⟨0, by omega, z _ (by omega) (by omega) (by omega) (by omega) (by omega)⟩⟩⟩
    · rw [z_row _ (by omega), if_neg (by omega), if_neg (by omega), if_pos (by omega)]; rfl
    · rw [z_row _ (by omega), if_neg (by omega), if_neg (by omega), if_neg (by omega), if_pos (by omega)]; rfl
  have e6 : mem0 92 6 = nI 0 := z 6 (by omega) (by omega) (by omega) (by omega) (by omega)
  obtain ⟨o1, o2, o3, o4, o5, o6, o7, o8⟩ := z_one
  refine ⟨⟨⟨z_eqv, fun key hk => ?_, ⟨0, by omega, e6, fun n hn => by omega⟩, hI⟩, ⟨0, 0, by omega, by omega, z 2 (by omega) (by omega) (by omega) (by omega) (by omega), z 5 (by omega) (by omega) (by omega) (by omega) (by omega)⟩, o1, o2⟩, Or.inl ⟨o3, o4⟩, ⟨0, by omega, o5, o6, fun j hj => by omega⟩, ⟨0, by omega, o7, o8, fun j hj => by omega⟩, fun s hs => ?_, fun q hq => ?_, z_key⟩
  · show mem0 39 key = _
    rw [z_law key hk]
    unfold lawN
    rw [e6]
    rfl
  · obtain ⟨a1, a2, a3, a4⟩ := z_sh s hs
    refine ⟨by rw [a1, a2], Or.inl a2, ⟨0, by omega, a3, a4, fun _ => rfl⟩, fun j hj => ?_⟩
    obtain ⟨b1, b2⟩ := z_shp s hs j hj
    rw [b1, b2]
    exact ⟨rfl, Or.inr ⟨by decide, by decide⟩⟩
  · obtain ⟨a1, a2⟩ := z_sl q hq
    exact ⟨by rw [a1, a2], fun e => absurd (a2.symm.trans e) (by decide), fun e => absurd (a2.symm.trans e) (by decide), fun e => absurd (a2.symm.trans e) (by decide)⟩
