/-! PURE: which text counts; what it gives, in the class and in the reference; what a picture's change leaves alone -/
def lastT (r : Row) (key : Nat) : Nat → Option Nat
  | 0 => none
  | n + 1 => if r (64 + 2 * n) / 1000 = nI key then some n else lastT r key n
def tvOf (r : Row) : Tv := fun key a b c => match lastT r key (ix (r 6)) with
  | none => none
  | some t => some (evl (fun j => r (92 + 96 * t + j)) (ix (r (64 + 2 * t)) % 1000) a b c)
def lawN (r : Row) (key : Nat) : Int32 := match lastT r key (ix (r 6)) with
  | none => (-1000000005)
  | some t => nI t
def Law (p : Nat) (c : Mm) (r : Row) : Prop := ∀ key, key < 3 → c (p + 1) key = lawN r key
def Txt1 (c : Mm) (r : Row) (n : Nat) : Prop := ∃ key sz, key < 3 ∧ r (64 + 2 * n) = nI (1000 * key + sz) ∧ c (7 + 2 * n) 0 = nI key ∧ c (7 + 2 * n) 1 = r (65 + 2 * n) ∧ c (7 + 2 * n) 2 = nI sz ∧ (∀ j, j < sz → c (7 + 2 * n + 1) j = trc (r (92 + 96 * n + j))) ∧ vld key (fun j => r (92 + 96 * n + j)) sz
def Txt (c : Mm) (r : Row) : Prop := ∃ T, T ≤ 14 ∧ r 6 = nI T ∧ ∀ n, n < T → Txt1 c r n
theorem lastT_lt {r : Row} {key : Nat} : ∀ {T t : Nat}, lastT r key T = some t → t < T ∧ r (64 + 2 * t) / 1000 = nI key
  | 0, t, h => by cases h
  | T + 1, t, h => by
    unfold lastT at h
    by_cases e : r (64 + 2 * T) / 1000 = nI key
    · rw [if_pos e] at h; cases h; exact ⟨by omega, e⟩
    · rw [if_neg e] at h
      obtain ⟨h1, h2⟩ := lastT_lt h
      exact ⟨by omega, h2⟩
theorem lastT_cong {r r2 : Row} {key : Nat} (h : ∀ j, 64 ≤ j → r2 j = r j) : ∀ T, lastT r2 key T = lastT r key T
  | 0 => rfl
  | T + 1 => by unfold lastT; rw [h _ (by omega), lastT_cong h T]
theorem tv_cong {r r2 : Row} (h6 : r2 6 = r 6) (h : ∀ j, 64 ≤ j → r2 j = r j) : tvOf r2 = tvOf r := by
  funext key a b c
  unfold tvOf
  rw [h6, lastT_cong h]
  cases lastT r key (ix (r 6)) with
  | none => rfl
  | some t =>
    show some (evl _ _ a b c) = some (evl _ _ a b c)
    rw [h (64 + 2 * t) (by omega)]
    congr 2
    funext j
    exact h _ (by omega)
theorem lawN_cong {r r2 : Row} (h6 : r2 6 = r 6) (h : ∀ j, 64 ≤ j → r2 j = r j) (key : Nat) : lawN r2 key = lawN r key := by
  unfold lawN
  rw [h6, lastT_cong h]
theorem Txt.cong {c c2 : Mm} {r r2 : Row} (h6 : r2 6 = r 6) (h : ∀ j, 64 ≤ j → r2 j = r j) (hc : ∀ k, 7 ≤ k → k < 37 → c2 k = c k) (ht : Txt c r) : Txt c2 r2 := by
  obtain ⟨T, h1, h2, h3⟩ := ht
  refine ⟨T, h1, h6.trans h2, fun n hn => ?_⟩
  obtain ⟨key, sz, q1, q2, q3, q4, q5, q6, q7⟩ := h3 n hn
  have ec : (fun j => r2 (92 + 96 * n + j)) = fun j => r (92 + 96 * n + j) := funext fun j => h _ (by omega)
  exact ⟨key, sz, q1, (h _ (by omega)).trans q2, by rw [hc _ (by omega) (by omega)]; exact q3, by rw [hc _ (by omega) (by omega), h _ (by omega)]; exact q4, by rw [hc _ (by omega) (by omega)]; exact q5, fun j hj => by rw [hc _ (by omega) (by omega), h _ (by omega)]; exact q6 j hj, by rw [ec]; exact q7⟩
theorem sz_of {key sz : Nat} (hk : key < 3) (hs : sz ≤ 96) : ix (nI (1000 * key + sz)) % 1000 = sz := by
  rw [ix_nI (by omega)]
  omega
theorem key_of {key sz k2 : Nat} (hk : key < 3) (hk2 : k2 < 3) (hs : sz ≤ 96) : nI (1000 * key + sz) / 1000 = nI k2 ↔ key = k2 := by
  rw [show (1000 : Int32) = nI 1000 from rfl, pk_div (by omega) (by decide) (by decide), nI_eq (by omega) (by omega)]
  omega
/-- what the class's law gives -/
theorem P_law {p : Nat} {c : Mm} {r : Row} (hT : Txt c r) (hl : Law p c r) {key : Nat} (hk : key < 3) (a b d w : Int32) {N : Nat} (hN : 97 ≤ N) : ∃ c2, f_P_lawGives N p (nI key) a b d w c = some ((tvOf r key a b d).getD w, c2) ∧ ∀ j, j ≠ 37 → c2 j = c j := by
  obtain ⟨T, hT1, hT2, hT3⟩ := hT
  have hlk := hl key hk
  unfold lawN at hlk
  unfold f_P_lawGives tvOf
  rw [if_pos (inb_nI hk (by decide)), ix_nI (by omega), lt_eq, hlk]
  have e6 : ix (r 6) = T := by rw [hT2, ix_nI (by omega)]
  rw [e6]
  cases hlt : lastT r key T with
  | none =>
    refine ⟨c, ?_, fun _ _ => rfl⟩
    show (if (-1000000005 : Int32) < 0 then _ else _) = _
    rw [if_pos (by decide)]
    rfl
  | some t =>
    obtain ⟨ht, -⟩ := lastT_lt hlt
    obtain ⟨key2, sz, q1, q2, q3, q4, q5, q6, q7⟩ := hT3 t ht
    obtain ⟨m2, w1, w2⟩ := X_works (q := 7 + 2 * t) q7 (by omega) a b d hN q5 q6
    refine ⟨m2, ?_, w2⟩
    show (if nI t < 0 then _ else if nI t < 15 then if inb (nI t) 15 = true then _ else _ else _) = _
    rw [if_neg (nI_pos (by omega)), if_pos (r_lt (n := 15) (by omega) (by decide)), if_pos (inb_nI (by omega) (by decide)), ix_nI (by omega), w1, bd_some]
    show some (evl _ _ a b d, m2) = some (evl _ _ a b d, m2)
    rw [q2, sz_of q1 q7.2.2]
/-- the reference's search of the text that counts -/
theorem M_countsL {mem : Mm} {key : Nat} : ∀ (n F : Nat), n ≤ 14 → n < F → f_M_counts_L10 F (nI key) (nI n - 1) mem = some (match lastT (mem 92) key n with | none => (-1) | some t => nI t)
  | 0, F, _, hF => by
    obtain ⟨F, rfl⟩ : ∃ f, F = f + 1 := ⟨F - 1, by omega⟩
    rw [f_M_counts_L10, if_pos (by decide)]
    rfl
  | n + 1, F, hn, hF => by
    obtain ⟨F, rfl⟩ : ∃ f, F = f + 1 := ⟨F - 1, by omega⟩
    have hix : 64 + 2 * nI n = nI (64 + 2 * n) := by
      rw [show (64 : Int32) = nI 64 from rfl, show (2 : Int32) = nI 2 from rfl, pk_mul, nI_add]
    rw [nI_pred, f_M_counts_L10, if_neg (nI_pos (by omega)), hix, if_pos (inb_nI (by omega) (by decide)), ix_nI (by omega)]
    show _ = some (match (if mem 92 (64 + 2 * n) / 1000 = nI key then some n else lastT (mem 92) key n) with | none => (-1) | some t => nI t)
    by_cases e : mem 92 (64 + 2 * n) / 1000 = nI key
    · rw [if_pos e, if_pos e]
    · rw [if_neg e, if_neg e, ← M_countsL n F (by omega) (by omega), ← Int32.sub_eq_add_neg]
theorem M_counts {mem : Mm} {T key N : Nat} (hT : T ≤ 14) (h6 : mem 92 6 = nI T) (hN : 20 ≤ N) : f_M_counts N (nI key) mem = some (match lastT (mem 92) key T with | none => (-1) | some t => nI t) := by
  unfold f_M_counts
  rw [ixc_6, h6, lt_eq]
  exact M_countsL T N hT (by omega)
-- frames
def PF (p : Nat) (c c2 : Mm) : Prop := (∀ k, k ≠ 37 → (k < p ∨ p + 9 < k ∨ k = p + 1) → c2 k = c k) ∧ c2 p 18 = c p 18
theorem PF.rf {p : Nat} {c : Mm} : PF p c c := ⟨fun _ _ _ => rfl, rfl⟩
theorem PF.tr {p : Nat} {a b c : Mm} (h : PF p a b) (h2 : PF p b c) : PF p a c := ⟨fun k h1 h3 => (h2.1 k h1 h3).trans (h.1 k h1 h3), h2.2.trans h.2⟩
theorem PF.put {p : Nat} {a b : Mm} (h : PF p a b) (k i : Nat) (v : Int32) (hk : p ≤ k ∧ k ≤ p + 9 ∧ k ≠ p + 1) (hi : k ≠ p ∨ i ≠ 18) : PF p a (mst b k i v) :=
  ⟨fun j h1 h3 => (mst_ck (by omega)).trans (h.1 j h1 h3), (mst_ne (by rcases hi with e | e; exact Or.inl (Ne.symm e); exact Or.inr (Ne.symm e))).trans h.2⟩
theorem PF.st {p : Nat} {a b c : Mm} (h : PF p a b) (hp : p ≠ 37) (h2 : ∀ j, j ≠ 37 → c j = b j) : PF p a c := ⟨fun k h1 h3 => (h2 k h1).trans (h.1 k h1 h3), by rw [h2 p hp]; exact h.2⟩
theorem PF.law {p : Nat} {a b : Mm} {r : Row} (h : PF p a b) (hp : p + 1 ≠ 37) (hl : Law p a r) : Law p b r := fun key hk => by rw [h.1 (p + 1) hp (Or.inr (Or.inr rfl))]; exact hl key hk
theorem Eqv.st {p : Nat} {c c2 : Mm} {r : Row} (hp : 37 < p) (h : Eqv p c r) (h2 : ∀ j, j ≠ 37 → c2 j = c j) : Eqv p c2 r := h.keep (fun k _ _ i _ => by rw [h2 _ (by omega)])
