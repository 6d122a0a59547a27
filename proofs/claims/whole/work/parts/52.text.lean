/-! PURE: texts worked out. co: the reference's codes of a text; the class's code is trc of it. Both machines keep a stack in a cell; 'run' is what they do on it. -/
theorem lit (n : Nat) : (OfNat.ofNat n : Int32) = nI n := rfl
theorem l_ge {n a : Nat} (h : a < n) (hn : n < 2 ^ 31) : ¬ (OfNat.ofNat n : Int32) ≤ nI a := nI_ge h hn
theorem l_le {n a : Nat} (h : n ≤ a) (hn : a < 2 ^ 31) : (OfNat.ofNat n : Int32) ≤ nI a := nI_le h hn
theorem l_lt {n a : Nat} (h : n < a) (hn : a < 2 ^ 31) : (OfNat.ofNat n : Int32) < nI a := nI_lt h hn
theorem l_nlt {n a : Nat} (h : a ≤ n) (hn : n < 2 ^ 31) : ¬ (OfNat.ofNat n : Int32) < nI a := nI_nlt h hn
theorem r_ge {n a : Nat} (h : n < a) (hn : a < 2 ^ 31) : ¬ nI a ≤ (OfNat.ofNat n : Int32) := nI_ge h hn
theorem r_le {n a : Nat} (h : a ≤ n) (hn : n < 2 ^ 31) : nI a ≤ (OfNat.ofNat n : Int32) := nI_le h hn
theorem r_lt {n a : Nat} (h : a < n) (hn : n < 2 ^ 31) : nI a < (OfNat.ofNat n : Int32) := nI_lt h hn
theorem r_nlt {n a : Nat} (h : n ≤ a) (hn : a < 2 ^ 31) : ¬ nI a < (OfNat.ofNat n : Int32) := nI_nlt h hn
theorem r_eq {n a : Nat} (ha : a < 2 ^ 31) (hn : n < 2 ^ 31) : nI a = (OfNat.ofNat n : Int32) ↔ a = n := nI_eq ha hn
theorem z_nI : (0 : Int32) = nI 0 := rfl
theorem one_nI : (1 : Int32) = nI 1 := rfl
def two (s a b : Int32) : Int32 := if s = (-8) then a * b else if s = (-7) then a - b else if s = (-6) then a + b else if s = (-5) then (if a ≤ b then (0 : Int32) else 1) else if s = (-4) then (if a = b then (1 : Int32) else 0) else if s = (-3) then (if b ≤ a then (0 : Int32) else 1) else if s = (-2) then (if a = 0 then (0 : Int32) else if b = 0 then (0 : Int32) else 1) else if s = (-1) then (if a = 0 then if b = 0 then (0 : Int32) else 1 else 1) else if b = 0 then 0 else a / b
theorem M_two (s a b : Int32) : f_M_two s a b = some (two s a b) := by
  unfold f_M_two two
  repeat' split
  all_goals rfl
def fact (a b c x : Int32) : Int32 := if x = 10000 then a else if x = 10001 then b else c
def stp (x a b c : Int32) (q : Nat × (Nat → Int32)) : Nat × (Nat → Int32) := if x < 0 then if x = (-10) then (q.1, upd q.2 (q.1 - 1) (if q.2 (q.1 - 1) = 0 then (1 : Int32) else 0)) else (q.1 - 1, upd q.2 (q.1 - 2) (two x (q.2 (q.1 - 2)) (q.2 (q.1 - 1)))) else (q.1 + 1, upd q.2 q.1 (if 10000 ≤ x then fact a b c x else x))
def run (co : Nat → Int32) (a b c : Int32) (g : Nat → Int32) : Nat → Nat × (Nat → Int32)
  | 0 => (0, g)
  | k + 1 => stp (co k) a b c (run co a b c g k)
def dpt (co : Nat → Int32) : Nat → Nat
  | 0 => 0
  | k + 1 => if co k < 0 then if co k = (-10) then dpt co k else dpt co k - 1 else dpt co k + 1
/-- a code that the reader may leave: a number, a name, a sign -/
def cok (key : Nat) (x : Int32) : Prop := (∃ v, v < 10000 ∧ x = nI v) ∨ (∃ i, i < 3 ∧ (key = 2 → i < 2) ∧ x = nI (10000 + i)) ∨ (∃ s, 1 ≤ s ∧ s ≤ 10 ∧ x = - nI s)
def vld (key : Nat) (co : Nat → Int32) (n : Nat) : Prop := (∀ k, k < n → cok key (co k) ∧ (co k < 0 → if co k = (-10) then 1 ≤ dpt co k else 2 ≤ dpt co k)) ∧ dpt co n = 1 ∧ n ≤ 96
theorem run_top (co : Nat → Int32) (a b c : Int32) (g : Nat → Int32) : ∀ k, (run co a b c g k).1 = dpt co k
  | 0 => rfl
  | k + 1 => by
    have ih := run_top co a b c g k
    show (stp (co k) a b c (run co a b c g k)).1 = dpt co (k + 1)
    unfold stp dpt
    by_cases h1 : co k < 0
    · rw [if_pos h1, if_pos h1]
      by_cases h2 : co k = (-10)
      · rw [if_pos h2, if_pos h2]; exact ih
      · rw [if_neg h2, if_neg h2]; show _ - 1 = _ - 1; rw [ih]
    · rw [if_neg h1, if_neg h1]; show _ + 1 = _ + 1; rw [ih]
theorem dpt_le (co : Nat → Int32) : ∀ k, dpt co k ≤ k
  | 0 => Nat.le_refl _
  | k + 1 => by
    have ih := dpt_le co k
    unfold dpt
    split
    · split <;> omega
    · omega
/-- the run does not hang on what lay in the stack before -/
theorem run_cong {key : Nat} {co : Nat → Int32} {n : Nat} (hv : vld key co n) (a b c : Int32) (g g2 : Nat → Int32) : ∀ k, k ≤ n → ∀ i, i < dpt co k → (run co a b c g k).2 i = (run co a b c g2 k).2 i
  | 0, _, i, hi => absurd hi (Nat.not_lt_zero i)
  | k + 1, hk, i, hi => by
    have ih := run_cong hv a b c g g2 k (by omega)
    have t1 := run_top co a b c g k
    have t2 := run_top co a b c g2 k
    have hd := (hv.1 k (by omega)).2
    show (stp (co k) a b c (run co a b c g k)).2 i = (stp (co k) a b c (run co a b c g2 k)).2 i
    unfold stp
    unfold dpt at hi
    by_cases h1 : co k < 0
    · rw [if_pos h1] at hi ⊢
      rw [if_pos h1]
      have hd := hd h1
      by_cases h2 : co k = (-10)
      · rw [if_pos h2] at hi hd ⊢
        rw [if_pos h2]
        show upd _ _ _ i = upd _ _ _ i
        rw [t1, t2, ih (dpt co k - 1) (by omega)]
        unfold upd
        split
        · rfl
        · exact ih i hi
      · rw [if_neg h2] at hi hd ⊢
        rw [if_neg h2]
        show upd _ _ _ i = upd _ _ _ i
        rw [t1, t2, ih (dpt co k - 1) (by omega), ih (dpt co k - 2) (by omega)]
        unfold upd
        split
        · rfl
        · exact ih i (by omega)
    · rw [if_neg h1] at hi ⊢
      rw [if_neg h1]
      show upd _ _ _ i = upd _ _ _ i
      rw [t1, t2]
      unfold upd
      split
      · rfl
      · exact ih i (by omega)
def evl (co : Nat → Int32) (n : Nat) (a b c : Int32) : Int32 := (run co a b c (fun _ => 0) n).2 0
theorem evl_run {key : Nat} {co : Nat → Int32} {n : Nat} (hv : vld key co n) (a b c : Int32) (g : Nat → Int32) : (run co a b c g n).2 0 = evl co n a b c := run_cong hv a b c g _ n (Nat.le_refl _) 0 (by rw [hv.2.1]; decide)
-- the class's codes
def trc (x : Int32) : Int32 := if 0 ≤ x then (if 10000 ≤ x then 9999 - x else x) else if x = (-1) then (-124) else if x = (-2) then (-38) else if x = (-3) then (-60) else if x = (-4) then (-61) else if x = (-5) then (-62) else if x = (-6) then (-43) else if x = (-7) then (-45) else if x = (-8) then (-42) else if x = (-9) then (-47) else (-33)
theorem sg_cases {s : Nat} (h1 : 1 ≤ s) (h2 : s ≤ 10) {P : Int32 → Prop} (p1 : P (-1)) (p2 : P (-2)) (p3 : P (-3)) (p4 : P (-4)) (p5 : P (-5)) (p6 : P (-6)) (p7 : P (-7)) (p8 : P (-8)) (p9 : P (-9)) (p10 : P (-10)) : P (- nI s) := by
  match s, h1, h2 with
  | 1, _, _ => exact p1
  | 2, _, _ => exact p2
  | 3, _, _ => exact p3
  | 4, _, _ => exact p4
  | 5, _, _ => exact p5
  | 6, _, _ => exact p6
  | 7, _, _ => exact p7
  | 8, _, _ => exact p8
  | 9, _, _ => exact p9
  | 10, _, _ => exact p10
  | k + 11, _, h => omega
/-- what the class sees of a code: a leaf, a NOT, or a sign that joins -/
theorem tr_leaf {key : Nat} {x : Int32} (hc : cok key x) (h : ¬ x < 0) (a b c : Int32) : ¬ trc x < (-3) ∧ f_X_leaf (trc x) a b c = some (if 10000 ≤ x then fact a b c x else x) := by
  rcases hc with ⟨v, hv, rfl⟩ | ⟨i, hi, -, rfl⟩ | ⟨s, h1, h2, rfl⟩
  · have e : trc (nI v) = nI v := by
      unfold trc
      rw [if_pos (nI_pos' (by omega)), if_neg (l_ge (n := 10000) hv (by decide))]
    rw [e]
    refine ⟨fun q => ?_, ?_⟩
    · rw [lt_ti, ti_nI (by omega)] at q
      have : ((-3 : Int32)).toInt = -3 := by decide
      omega
    · unfold f_X_leaf
      rw [if_neg (nI_pos (by omega)), if_neg (l_ge (n := 10000) hv (by decide))]
  · match i, hi with
    | 0, _ => refine ⟨by decide, ?_⟩; rfl
    | 1, _ => refine ⟨by decide, ?_⟩; rfl
    | 2, _ => refine ⟨by decide, ?_⟩; rfl
    | k + 3, h => omega
  · exact absurd (sg_cases h1 h2 (P := fun x => x < 0) (by decide) (by decide) (by decide) (by decide) (by decide) (by decide) (by decide) (by decide) (by decide) (by decide)) h
theorem tr_sign {key : Nat} {x : Int32} (hc : cok key x) (h : x < 0) : trc x < (-3) ∧ (trc x = (-33) ↔ x = (-10)) ∧ (x ≠ (-10) → ∀ a b, f_X_joined (- trc x) a b = some (two x a b)) := by
  rcases hc with ⟨v, hv, rfl⟩ | ⟨i, hi, -, rfl⟩ | ⟨s, h1, h2, rfl⟩
  · exact absurd h (nI_pos (by omega))
  · exact absurd h (nI_pos (by omega))
  · refine sg_cases h1 h2 (P := fun x => trc x < (-3) ∧ (trc x = (-33) ↔ x = (-10)) ∧ (x ≠ (-10) → ∀ a b, f_X_joined (- trc x) a b = some (two x a b))) ?_ ?_ ?_ ?_ ?_ ?_ ?_ ?_ ?_ ?_
    all_goals refine ⟨by decide, by decide, fun hn a b => ?_⟩
    all_goals first | exact absurd rfl hn | rfl | skip
    · show (if b = 0 then some 0 else some (a / b)) = some (if b = 0 then 0 else a / b)
      split <;> rfl
