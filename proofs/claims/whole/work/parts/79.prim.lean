/-! PURE: the readers' small steps -/
def lay (f : Nat → Int32) (l : List Int32) : Prop := ∀ j, j < l.length → f j = l.getD j 0
theorem gd_l {l r : List Int32} {j : Nat} (h : j < l.length) : (l ++ r).getD j 0 = l.getD j 0 := by
  rw [List.getD_eq_getElem?_getD, List.getD_eq_getElem?_getD, List.getElem?_append_left h]
theorem gd_m (l : List Int32) (x : Int32) : (l ++ [x]).getD l.length 0 = x := by
  rw [List.getD_eq_getElem?_getD, List.getElem?_append_right (Nat.le_refl _), Nat.sub_self]
  rfl
theorem lay.sn {f g : Nat → Int32} {l : List Int32} {x : Int32} (h : lay f l) (hg : ∀ j, j < l.length → g j = f j) (hx : g l.length = x) : lay g (l ++ [x]) := by
  intro j hj
  rw [List.length_append] at hj
  have hj : j < l.length + 1 := hj
  by_cases e : j = l.length
  · rw [e, gd_m]; exact hx
  · rw [gd_l (by omega), hg j (by omega)]; exact h j (by omega)
theorem lay.pre {f : Nat → Int32} {l r : List Int32} (h : lay f (l ++ r)) : lay f l := fun j hj => by
  rw [h j (by rw [List.length_append]; omega), gd_l hj]
theorem lay.cg {f g : Nat → Int32} {l : List Int32} (h : lay f l) (hg : ∀ j, j < l.length → g j = f j) : lay g l := fun j hj => (hg j hj).trans (h j hj)
theorem lay.top {f : Nat → Int32} {l : List Int32} {x : Int32} (h : lay f (l ++ [x])) : f l.length = x := by rw [h l.length (by rw [List.length_append]; exact Nat.lt_succ_self _), gd_m]
-- the signs
def rk (x : Int32) : Nat := if x = (-1) then 1 else if x = (-2) then 2 else if x < (-5) then if x < (-7) then if x < (-9) then 6 else 5 else 4 else 3
theorem M_rank (x : Int32) : f_M_rank x = some (nI (rk x)) := by
  unfold f_M_rank rk
  repeat' split
  all_goals rfl
theorem rk_le (x : Int32) : rk x ≤ 6 := by
  unfold rk
  repeat' split
  all_goals decide
/-- the reference's rows while it reads -/
def MZ (m : Mm) (R W : List Int32) (at0 key : Nat) : Prop := m 91 17 = nI R.length ∧ lay (m 99) R ∧ m 91 20 = nI W.length ∧ lay (m 100) W ∧ m 91 18 = nI at0 ∧ m 91 13 = nI key
theorem MZ.gf {m m2 : Mm} {R W : List Int32} {at0 key : Nat} (h : MZ m R W at0 key) (f : GF m m2) : MZ m2 R W at0 key := by
  obtain ⟨h1, h2, h3, h4, h5, h6⟩ := h
  exact ⟨(f.2 17 (by omega) (by omega) (by omega) (by omega) (by omega)).trans h1, by rw [f.1 99 (by omega)]; exact h2, (f.2 20 (by omega) (by omega) (by omega) (by omega) (by omega)).trans h3, by rw [f.1 100 (by omega)]; exact h4, (f.2 18 (by omega) (by omega) (by omega) (by omega) (by omega)).trans h5, (f.2 13 (by omega) (by omega) (by omega) (by omega) (by omega)).trans h6⟩
def MFr (m m2 : Mm) : Prop := (∀ k, k ≠ 91 → k ≠ 99 → k ≠ 100 → k ≠ 101 → m2 k = m k) ∧ ∀ i, i ≠ 8 → i ≠ 9 → i ≠ 10 → i ≠ 11 → i ≠ 12 → i ≠ 17 → i ≠ 18 → i ≠ 20 → m2 91 i = m 91 i
theorem MFr.rf {m : Mm} : MFr m m := ⟨fun _ _ _ _ _ => rfl, fun _ _ _ _ _ _ _ _ _ => rfl⟩
theorem MFr.tr {a b c : Mm} (h : MFr a b) (h2 : MFr b c) : MFr a c := ⟨fun k k1 k2 k3 k4 => (h2.1 k k1 k2 k3 k4).trans (h.1 k k1 k2 k3 k4), fun i a1 a2 a3 a4 a5 a6 a7 a8 => (h2.2 i a1 a2 a3 a4 a5 a6 a7 a8).trans (h.2 i a1 a2 a3 a4 a5 a6 a7 a8)⟩
theorem GF.mf {a b : Mm} (h : GF a b) : MFr a b := ⟨fun k k1 _ _ _ => h.1 k k1, fun i a1 a2 a3 a4 a5 _ _ _ => h.2 i a1 a2 a3 a4 a5⟩
theorem MFr.p91 {a b : Mm} (h : MFr a b) (i : Nat) (v : Int32) (hi : i = 17 ∨ i = 18 ∨ i = 20) : MFr a (mst b 91 i v) := ⟨fun k k1 k2 k3 k4 => (mst_ck k1).trans (h.1 k k1 k2 k3 k4), fun j a1 a2 a3 a4 a5 a6 a7 a8 => (mst_i (by omega)).trans (h.2 j a1 a2 a3 a4 a5 a6 a7 a8)⟩
theorem MFr.pk {a b : Mm} (h : MFr a b) (k i : Nat) (v : Int32) (hk : k = 99 ∨ k = 100 ∨ k = 101) : MFr a (mst b k i v) := ⟨fun q k1 k2 k3 k4 => (mst_ck (by omega)).trans (h.1 q k1 k2 k3 k4), fun j a1 a2 a3 a4 a5 a6 a7 a8 => by rw [mst_ck (by omega)]; exact h.2 j a1 a2 a3 a4 a5 a6 a7 a8⟩
/-- nothing but what waits and the code has changed -/
def SF (m m2 : Mm) : Prop := (∀ k, k ≠ 91 → k ≠ 99 → m2 k = m k) ∧ ∀ i, i ≠ 17 → i ≠ 20 → m2 91 i = m 91 i
theorem SF.rf {m : Mm} : SF m m := ⟨fun _ _ _ => rfl, fun _ _ _ => rfl⟩
theorem SF.tr {a b c : Mm} (h : SF a b) (h2 : SF b c) : SF a c := ⟨fun k k1 k2 => (h2.1 k k1 k2).trans (h.1 k k1 k2), fun i a1 a2 => (h2.2 i a1 a2).trans (h.2 i a1 a2)⟩
theorem SF.mf {a b : Mm} (h : SF a b) : MFr a b := ⟨fun k k1 k2 _ _ => h.1 k k1 k2, fun i _ _ _ _ _ a6 _ a8 => h.2 i a6 a8⟩
def stops (W : List Int32) (r : Nat) : Prop := W = [] ∨ ∃ W2 x, W = W2 ++ [x] ∧ (x = (-11) ∨ rk x < r)
theorem M_settleL {r : Nat} (hr : r ≤ 6) {W : List Int32} (hs : stops W r) {at0 key : Nat} : ∀ (n F : Nat) (S R : List Int32) (m : Mm), S.length = n → n < F → (∀ x ∈ S, x ≠ (-11) ∧ r ≤ rk x) → R.length + (W.length + n) ≤ 96 → MZ m R (W ++ S) at0 key → ∃ m2, f_M_settle_L0 F (nI r) m = some m2 ∧ MZ m2 (R ++ S.reverse) W at0 key ∧ SF m m2
  | 0, F, S, R, m, hS, hF, hx, hl, hm => by
    obtain ⟨F, rfl⟩ : ∃ f, F = f + 1 := ⟨F - 1, by omega⟩
    have : S = [] := List.length_eq_zero_iff.mp hS
    subst this
    rw [List.append_nil] at hm
    refine ⟨m, ?_, by rw [List.reverse_nil, List.append_nil]; exact hm, SF.rf⟩
    obtain ⟨h1, h2, h3, h4, h5, h6⟩ := hm
    rw [f_M_settle_L0, h3]
    rcases hs with e | ⟨W2, x, e, hx⟩
    · subst e; rw [if_pos (by decide)]
    · subst e
      have hlen : (W2 ++ [x]).length = W2.length + 1 := by rw [List.length_append]; rfl
      rw [hlen] at hl ⊢
      have et := h4.top
      rw [if_neg (nI_nle (by omega) (by omega)), nI_pred, if_pos (inb_nI (by omega) (by decide)), ix_nI (by omega), et]
      by_cases q : x = (-11)
      · rw [if_pos q]
      · rw [if_neg q, M_rank, bp_some, if_pos (nI_lt (hx.resolve_left q) (by omega))]
  | n + 1, F, S, R, m, hS, hF, hx, hl, hm => by
    obtain ⟨F, rfl⟩ : ∃ f, F = f + 1 := ⟨F - 1, by omega⟩
    rcases List.eq_nil_or_concat S with e | ⟨S2, x, e⟩
    · rw [e] at hS; exact absurd hS (by show ¬ 0 = n + 1; omega)
    · have e : S = S2 ++ [x] := by rw [e, List.concat_eq_append]
      subst e
      have hlen : S2.length = n := by rw [List.length_append] at hS; exact Nat.succ.inj hS
      obtain ⟨h1, h2, h3, h4, h5, h6⟩ := hm
      rw [← List.append_assoc] at h3 h4
      have hl2 : (W ++ S2 ++ [x]).length = (W ++ S2).length + 1 := by rw [List.length_append]; rfl
      have hl3 : (W ++ S2).length = W.length + n := by rw [List.length_append, hlen]
      rw [hl2] at h3
      have et := h4.top
      obtain ⟨x1, x2⟩ := hx x (List.mem_append_right _ List.mem_cons_self)
      have hrk := rk_le x
      rw [f_M_settle_L0, h3, if_neg (nI_nle (by omega) (by omega)), nI_pred, if_pos (inb_nI (by omega) (by decide)), ix_nI (by omega), et, if_neg x1, M_rank, bp_some, if_neg (nI_nlt x2 (by omega)), lt_eq, mst_at, if_pos (inb_nI (by omega) (by decide)), mst_i (i2 := 17) (by decide), h1, if_pos (inb_nI (by omega) (by decide)), ix_nI (by omega), ix_nI (by omega), mst_ck (k2 := 100) (by decide), et, lt_eq, mst_ck (k2 := 91) (by decide), mst_i (i2 := 17) (by decide), h1, nI_1, lt_eq]
      obtain ⟨m2, u1, u2, u3⟩ := M_settleL hr hs (at0 := at0) (key := key) n F S2 (R ++ [x]) (mst (mst (mst m 91 20 (nI (W ++ S2).length)) 99 R.length x) 91 17 (nI (R.length + 1))) hlen (by omega) (fun y hy => hx y (List.mem_append_left _ hy)) (by rw [List.length_append]; show R.length + 1 + _ ≤ _; omega) ⟨by rw [mst_at, List.length_append]; rfl, by
          rw [mst_ck (by decide), mst_row, mst_ck (by decide)]
          exact h2.sn (fun j hj => pk_un (by omega)) pk_us, by rw [mst_i (by decide), mst_ck (by decide), mst_at], by rw [mst_ck (by decide), mst_ck (by decide), mst_ck (by decide)]; exact h4.pre, by rw [mst_i (by decide), mst_ck (by decide), mst_i (by decide)]; exact h5, by rw [mst_i (by decide), mst_ck (by decide), mst_i (by decide)]; exact h6⟩
      refine ⟨m2, u1, ?_, SF.tr ⟨fun k k1 k2 => by rw [mst_ck k1, mst_ck k2, mst_ck k1], fun i a1 a2 => by rw [mst_i a1, mst_ck (by decide), mst_i a2]⟩ u3⟩
      rw [List.reverse_append, List.reverse_singleton]
      rw [List.append_assoc] at u2
      exact u2
theorem M_settle {r : Nat} (hr : r ≤ 6) {R W S : List Int32} (hs : stops W r) {at0 key N : Nat} {m : Mm} (hN : 500 ≤ N) (hx : ∀ x ∈ S, x ≠ (-11) ∧ r ≤ rk x) (hl : R.length + (W.length + S.length) ≤ 96) (hm : MZ m R (W ++ S) at0 key) : ∃ m2, f_M_settle N (nI r) m = some m2 ∧ MZ m2 (R ++ S.reverse) W at0 key ∧ SF m m2 := by
  obtain ⟨m2, u1, u2, u3⟩ := M_settleL hr hs S.length N S R m rfl (by omega) hx hl hm
  exact ⟨m2, by unfold f_M_settle; rw [u1]; rfl, u2, u3⟩
-- how many nots wait
def nc (f : Nat → Int32) : Nat → Nat
  | 0 => 0
  | k + 1 => nc f k + if f k = (-10) then 1 else 0
def cN (W : List Int32) : Nat := nc (fun j => W.getD j 0) W.length
theorem nc_cg {f g : Nat → Int32} : ∀ n, (∀ j, j < n → f j = g j) → nc f n = nc g n
  | 0, _ => rfl
  | n + 1, h => by unfold nc; rw [nc_cg n (fun j hj => h j (by omega)), h n (by omega)]
theorem cN_sn (W : List Int32) (x : Int32) : cN (W ++ [x]) = cN W + if x = (-10) then 1 else 0 := by
  unfold cN
  rw [List.length_append]
  show nc _ (W.length + 1) = _
  unfold nc
  rw [nc_cg W.length (fun j hj => gd_l hj), gd_m]
  cases W.length <;> rfl
theorem nc_le (f : Nat → Int32) : ∀ n, nc f n ≤ n
  | 0 => Nat.le_refl _
  | n + 1 => by
    have := nc_le f n
    unfold nc
    split <;> omega
theorem cN_app (W S : List Int32) (h : ∀ x ∈ S, x ≠ (-10)) : cN (W ++ S) = cN W := by
  induction S generalizing W with
  | nil => rw [List.append_nil]
  | cons x S ih =>
    rw [show W ++ x :: S = (W ++ [x]) ++ S by simp, ih _ (fun y hy => h y (List.mem_cons_of_mem _ hy)), cN_sn, if_neg (h x List.mem_cons_self)]
    rfl
theorem cN_rep (W : List Int32) : ∀ j, cN (W ++ List.replicate j (-10)) = cN W + j
  | 0 => by rw [List.replicate_zero, List.append_nil]; rfl
  | j + 1 => by rw [List.replicate_succ', ← List.append_assoc, cN_sn, cN_rep W j, if_pos rfl]; omega
theorem M_noL {m : Mm} {n : Nat} (hn : n ≤ 96) (e : m 91 20 = nI n) : ∀ (d k F : Nat), k + d = n → d < F → f_M_notsOpen_L4 F (nI (nc (m 100) k)) (nI k) m = some (nI (nc (m 100) n), nI n)
  | 0, k, F, h, hF => by
    obtain ⟨F, rfl⟩ : ∃ f, F = f + 1 := ⟨F - 1, by omega⟩
    have : k = n := by omega
    subst this
    rw [f_M_notsOpen_L4, e, if_pos (nI_le (Nat.le_refl _) (by omega))]
  | d + 1, k, F, h, hF => by
    obtain ⟨F, rfl⟩ : ∃ f, F = f + 1 := ⟨F - 1, by omega⟩
    have ec : nI (nc (m 100) k) + (if m 100 k = (-10) then (1 : Int32) else 0) = nI (nc (m 100) (k + 1)) := by
      show _ = nI (nc (m 100) k + if m 100 k = (-10) then 1 else 0)
      split
      · exact nI_1 _
      · exact nI_add _ 0
    rw [f_M_notsOpen_L4, e, if_neg (nI_ge (by omega) (by omega)), if_pos (inb_nI (by omega) (by decide)), ix_nI (by omega), ec, lt_eq, nI_1]
    exact M_noL hn e d (k + 1) F (by omega) (by omega)
theorem M_nots {m : Mm} {R W : List Int32} {at0 key N : Nat} (hN : 500 ≤ N) (h : MZ m R W at0 key) (hl : W.length ≤ 96) : f_M_notsOpen N m = some (nI (cN W)) := by
  unfold f_M_notsOpen
  rw [show f_M_notsOpen_L4 N 0 0 m = _ from M_noL hl h.2.2.1 W.length 0 N (by omega) (by omega), bp_some]
  show some (nI (nc (m 100) W.length)) = _
  rw [nc_cg W.length h.2.2.2.1]
  rfl
-- the class's text
def XS (c : Mm) (o : Nat) (C : List Int32) (at0 key : Nat) : Prop := c o 0 = nI key ∧ c o 1 = nI at0 ∧ c o 2 = nI C.length ∧ ∀ j, j < C.length → c (o + 1) j = trc (C.getD j 0)
def CFr (o : Nat) (c c2 : Mm) : Prop := (∀ k, k ≠ 2 → k ≠ o → k ≠ o + 1 → c2 k = c k) ∧ c2 2 0 = c 2 0
theorem CFr.rf {o : Nat} {c : Mm} : CFr o c c := ⟨fun _ _ _ _ => rfl, rfl⟩
theorem CFr.tr {o : Nat} {a b c : Mm} (h : CFr o a b) (h2 : CFr o b c) : CFr o a c := ⟨fun k k1 k2 k3 => (h2.1 k k1 k2 k3).trans (h.1 k k1 k2 k3), h2.2.trans h.2⟩
theorem TF.cf {o : Nat} {a b : Mm} (h : TF a b) : CFr o a b := ⟨fun k k1 _ _ => h.1 k k1, h.2 0 (by omega) (by omega) (by omega)⟩
theorem XS.tf {c c2 : Mm} {o at0 key : Nat} {C : List Int32} (ho : 7 ≤ o) (h : XS c o C at0 key) (f : TF c c2) : XS c2 o C at0 key := by
  obtain ⟨h1, h2, h3, h4⟩ := h
  exact ⟨by rw [f.1 o (by omega)]; exact h1, by rw [f.1 o (by omega)]; exact h2, by rw [f.1 o (by omega)]; exact h3, fun j hj => by rw [f.1 (o + 1) (by omega)]; exact h4 j hj⟩
/-- a code more -/
theorem X_code {c : Mm} {o at0 key : Nat} {C : List Int32} (ho : 7 ≤ o) (h : XS c o C at0 key) (hC : C.length < 96) {y x : Int32} (hy : y = trc x) : ∃ c2, f_X_addCode o y c = some c2 ∧ XS c2 o (C ++ [x]) at0 key ∧ (∀ k, k ≠ o → k ≠ o + 1 → c2 k = c k) := by
  obtain ⟨h1, h2, h3, h4⟩ := h
  unfold f_X_addCode
  rw [h3, if_neg (l_ge (n := 96) hC (by decide)), if_pos (inb_nI hC (by decide)), ix_nI (by omega), lt_eq, mst_ck (k2 := o) (by omega), h3, nI_1, lt_eq]
  refine ⟨_, rfl, ⟨by rw [mst_i (by decide), mst_ck (by omega)]; exact h1, by rw [mst_i (by decide), mst_ck (by omega)]; exact h2, by rw [mst_at, List.length_append]; rfl, fun j hj => ?_⟩, fun k k1 k2 => by rw [mst_ck k1, mst_ck k2]⟩
  rw [List.length_append] at hj
  have hj : j < C.length + 1 := hj
  rw [mst_ck (by omega)]
  by_cases e : j = C.length
  · rw [e, mst_at, gd_m]; exact hy
  · rw [mst_i e, gd_l (by omega)]; exact h4 j (by omega)
theorem X_sign {c : Mm} {o at0 key : Nat} {C : List Int32} (ho : 7 ≤ o) (h : XS c o C at0 key) (hC : C.length < 96) {b x : Int32} (hy : - b = trc x) : ∃ c2, f_X_addSign o b c = some c2 ∧ XS c2 o (C ++ [x]) at0 key ∧ (∀ k, k ≠ o → k ≠ o + 1 → c2 k = c k) := by
  obtain ⟨c2, u1, u2, u3⟩ := X_code ho h hC hy
  exact ⟨c2, by unfold f_X_addSign; rw [u1]; rfl, u2, u3⟩
theorem X_num {c : Mm} {o at0 key : Nat} {C : List Int32} (ho : 7 ≤ o) (h : XS c o C at0 key) (hC : C.length < 96) {v : Nat} (hv : v < 10000) : ∃ c2, f_X_addNumber o (nI v) c = some c2 ∧ XS c2 o (C ++ [nI v]) (at0 + 1) key ∧ (∀ k, k ≠ o → k ≠ o + 1 → c2 k = c k) := by
  obtain ⟨c2, u1, u2, u3⟩ := X_code (x := nI v) ho h hC (y := nI v) (by
    unfold trc
    rw [if_pos (nI_pos' (by omega)), if_neg (l_ge (n := 10000) hv (by decide))])
  unfold f_X_addNumber
  rw [u1, bp_some, lt_eq, u2.2.1, nI_1]
  exact ⟨_, rfl, ⟨by rw [mst_i (by decide)]; exact u2.1, mst_at _ _ _ _, by rw [mst_i (by decide)]; exact u2.2.2.1, fun j hj => by rw [mst_ck (by omega)]; exact u2.2.2.2 j hj⟩, fun k k1 k2 => by rw [mst_ck k1]; exact u3 k k1 k2⟩
theorem X_name {c : Mm} {o at0 key : Nat} {C : List Int32} (ho : 7 ≤ o) (h : XS c o C at0 key) (hC : C.length < 96) {i : Nat} (hi : i < 3) : ∃ c2, f_X_addName o (nI i) c = some c2 ∧ XS c2 o (C ++ [nI (10000 + i)]) (at0 + 1) key ∧ (∀ k, k ≠ o → k ≠ o + 1 → c2 k = c k) := by
  have ht : ∀ i, i < 3 → (-1 : Int32) - nI i = trc (nI (10000 + i)) := by decide +kernel
  obtain ⟨c2, u1, u2, u3⟩ := X_code (x := nI (10000 + i)) ho h hC (ht i hi)
  unfold f_X_addName
  rw [u1, bp_some, lt_eq, u2.2.1, nI_1]
  exact ⟨_, rfl, ⟨by rw [mst_i (by decide)]; exact u2.1, mst_at _ _ _ _, by rw [mst_i (by decide)]; exact u2.2.2.1, fun j hj => by rw [mst_ck (by omega)]; exact u2.2.2.2 j hj⟩, fun k k1 k2 => by rw [mst_ck k1]; exact u3 k k1 k2⟩
/-- a sign more where the text may be anything -/
theorem X_any {c : Mm} {o k : Nat} (hk : k ≤ 96) (e : c o 2 = nI k) (b : Int32) : ∃ c2 k2, f_X_addSign o b c = some c2 ∧ k2 ≤ 96 ∧ c2 o 2 = nI k2 ∧ (∀ q, q ≠ o → q ≠ o + 1 → c2 q = c q) := by
  unfold f_X_addSign f_X_addCode
  rw [e]
  by_cases h : 96 ≤ k
  · rw [if_pos (l_le (n := 96) h (by omega))]
    exact ⟨c, k, rfl, hk, e, fun _ _ _ => rfl⟩
  · rw [if_neg (l_ge (n := 96) (by omega) (by decide)), if_pos (inb_nI (by omega) (by decide)), ix_nI (by omega), lt_eq, mst_ck (k2 := o) (by omega), e, nI_1, lt_eq]
    exact ⟨_, k + 1, rfl, by omega, mst_at _ _ _ _, fun q k1 k2 => by rw [mst_ck k1, mst_ck k2]⟩
section JST
variable {B : Nat → Nat} {L : Nat}
/-- both sides step on -/
theorem J_step (hL : L ≤ 96) (hB : ∀ j, j < L → B j < 256) {c m : Mm} (hc : CB B L c) (hm : RB B L m) {p F T : Nat} {st : Bool} (ht : TokP B L p F T) (hF : F < L) (c1 : CS c F T st) (m1 : RS B L m F T st) {N : Nat} (hN : 500 ≤ N) : ∃ c2 m2 F2 T2 st2, f_T_step N c = some c2 ∧ f_M_go N m = some m2 ∧ CS c2 F2 T2 st2 ∧ RS B L m2 F2 T2 st2 ∧ TokP B L T F2 T2 ∧ TF c c2 ∧ GF m m2 ∧ F < F2 := by
  have hT := ht.T
  obtain ⟨c2, F2, T2, u1, u2, u3, u4⟩ := T_step hL hB hc hT.2.1 hT.2.2.1 c1.1 c1.2.1 hN
  obtain ⟨m2, F3, T3, v1, v2, v3, v4⟩ := M_go hL hB hm hT.2.2.1 (m1.nx ht hF) hN
  obtain ⟨e1, e2⟩ := u2.uq v2
  subst e1
  subst e2
  have hlt := hT.2.2.2 hF
  rw [decide_eq_true hlt, Bool.true_and] at u3
  exact ⟨c2, m2, F2, T2, _, u1, v1, u3, v3, u2, u4, v4, by have := u2.1.1; omega⟩
end JST
