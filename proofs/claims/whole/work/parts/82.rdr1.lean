/-! PURE: the two readers side by side: signs, valid codes, what both stand on -/
def sgn (b : Nat) : Int32 := if b = 38 then (-2) else if b = 42 then (-8) else if b = 43 then (-6) else if b = 45 then (-7) else if b = 47 then (-9) else if b = 60 then (-3) else if b = 61 then (-4) else if b = 62 then (-5) else if b = 124 then (-1) else 0
def sgF (B : Nat → Nat) (L F : Nat) : Int32 := if F < L then sgn (B F) else 0
theorem sgn_w : ∀ b, b < 256 → isLb b = true ∨ isDb b = true → sgn b = 0 := by decide +kernel
theorem sgn_s : ∀ b, b < 256 → ¬ sgn b = 0 → - nI b = trc (sgn b) ∧ sgn b ≠ (-11) ∧ sgn b ≠ (-10) ∧ 1 ≤ rk (sgn b) ∧ rk (sgn b) ≤ 5 ∧ b ≠ 41 ∧ sgn b < 0 := by decide +kernel
theorem sgn_j : ∀ b, b < 256 → ∀ l, l < 5 → f_T_joins (nI l) (nI b) = some (if ¬ sgn b = 0 ∧ rk (sgn b) = l + 1 then 1 else 0) := by decide +kernel
theorem sgn_n : ∀ l, l < 5 → f_T_joins (nI l) (-1) = some 0 := by decide +kernel
theorem sgn_m : ∀ b, b < 256 → (if nI b = 38 then some (-2 : Int32) else if nI b = 42 then some (-8) else if nI b = 43 then some (-6) else if nI b = 45 then some (-7) else if nI b = 47 then some (-9) else if nI b = 60 then some (-3) else if nI b = 61 then some (-4) else if nI b = 62 then some (-5) else if nI b = 124 then some (-1) else some 0) = some (sgn b) := by decide +kernel
theorem sgn_c {key b : Nat} (h : ¬ sgn b = 0) : cok key (sgn b) := by
  refine Or.inr (Or.inr ?_)
  revert h
  unfold sgn
  repeat' split
  all_goals intro h
  · exact ⟨2, by decide, by decide, rfl⟩
  · exact ⟨8, by decide, by decide, rfl⟩
  · exact ⟨6, by decide, by decide, rfl⟩
  · exact ⟨7, by decide, by decide, rfl⟩
  · exact ⟨9, by decide, by decide, rfl⟩
  · exact ⟨3, by decide, by decide, rfl⟩
  · exact ⟨4, by decide, by decide, rfl⟩
  · exact ⟨5, by decide, by decide, rfl⟩
  · exact ⟨1, by decide, by decide, rfl⟩
  · exact absurd rfl h
/-- how deep a list of codes leaves the stack -/
def dl : Nat → List Int32 → Option Nat
  | d, [] => some d
  | d, x :: l => if x < 0 then if x = (-10) then (if 1 ≤ d then dl d l else none) else (if 2 ≤ d then dl (d - 1) l else none) else dl (d + 1) l
theorem dl_cons (d : Nat) (x : Int32) (l : List Int32) : dl d (x :: l) = if x < 0 then if x = (-10) then (if 1 ≤ d then dl d l else none) else (if 2 ≤ d then dl (d - 1) l else none) else dl (d + 1) l := by rw [dl]
theorem dl_app : ∀ (a : List Int32) (d e : Nat) (b : List Int32), dl d a = some e → dl d (a ++ b) = dl e b
  | [], d, e, b, h => by
    have : d = e := Option.some.inj h
    rw [this]; rfl
  | x :: a, d, e, b, h => by
    show dl d (x :: (a ++ b)) = _
    rw [dl_cons] at h ⊢
    by_cases hx : x < 0
    · rw [if_pos hx] at h ⊢
      by_cases h10 : x = (-10)
      · rw [if_pos h10] at h ⊢
        by_cases hd : 1 ≤ d
        · rw [if_pos hd] at h ⊢; exact dl_app a d e b h
        · rw [if_neg hd] at h; exact absurd h (by simp)
      · rw [if_neg h10] at h ⊢
        by_cases hd : 2 ≤ d
        · rw [if_pos hd] at h ⊢; exact dl_app a (d - 1) e b h
        · rw [if_neg hd] at h; exact absurd h (by simp)
    · rw [if_neg hx] at h ⊢; exact dl_app a (d + 1) e b h
def VX (key : Nat) (X : List Int32) : Prop := (∀ d, dl d X = some (d + 1)) ∧ ∀ x ∈ X, cok key x
theorem VX.one {key : Nat} {x : Int32} (h : cok key x) (h0 : ¬ x < 0) : VX key [x] := ⟨fun d => by unfold dl; rw [if_neg h0]; rfl, fun y hy => by rw [List.mem_singleton.mp hy]; exact h⟩
theorem VX.neg {key : Nat} {X : List Int32} (h : VX key X) : VX key (X ++ [-10]) := ⟨fun d => by
  rw [dl_app X d (d + 1) _ (h.1 d)]
  unfold dl
  rw [if_pos (by decide), if_pos rfl, if_pos (by omega)]
  rfl, fun y hy => by
  rcases List.mem_append.mp hy with q | q
  · exact h.2 y q
  · rw [List.mem_singleton.mp q]; exact Or.inr (Or.inr ⟨10, by decide, by decide, rfl⟩)⟩
theorem VX.two {key : Nat} {X Y : List Int32} (h : VX key X) (h2 : VX key Y) {s : Int32} (hc : cok key s) (h0 : s < 0) (h10 : s ≠ (-10)) : VX key (X ++ Y ++ [s]) := ⟨fun d => by
  rw [List.append_assoc, dl_app X d (d + 1) _ (h.1 d), dl_app Y (d + 1) (d + 2) _ (h2.1 (d + 1))]
  unfold dl
  rw [if_pos h0, if_neg h10, if_pos (by omega)]
  rfl, fun y hy => by
  rcases List.mem_append.mp hy with q | q
  · rcases List.mem_append.mp q with q | q
    · exact h.2 y q
    · exact h2.2 y q
  · rw [List.mem_singleton.mp q]; exact hc⟩
theorem stops.mono {W : List Int32} {r r2 : Nat} (h : stops W r) (hr : r ≤ r2) : stops W r2 := by
  rcases h with e | ⟨W2, x, e, q⟩
  · exact Or.inl e
  · exact Or.inr ⟨W2, x, e, q.elim Or.inl (fun z => Or.inr (by omega))⟩
section RDA
variable {B : Nat → Nat} {L : Nat}
theorem RS.num {m : Mm} {F T : Nat} {st : Bool} (h : RS B L m F T st) : m 91 9 = nI F := h.1
theorem M_sign (hB : ∀ j, j < L → B j < 256) {m : Mm} {F T : Nat} {st : Bool} (h : RS B L m F T st) (hF : F ≤ L) : f_M_signHere m = some (sgF B L F) := by
  obtain ⟨a1, a2, a3, a4, a5, a6, -, -⟩ := h
  unfold f_M_signHere sgF
  by_cases hl : F < L
  · rw [if_pos hl]
    by_cases l : isLb (B F) = true
    · rw [(a4 hl l).1, sgn_w _ (hB F hl) (Or.inl l), if_neg (by cases st <;> decide)]
    by_cases d : isDb (B F) = true
    · rw [(a5 hl d).1, sgn_w _ (hB F hl) (Or.inr d), if_neg (by split <;> decide)]
    have := a6 hl (wrd_no hl l d)
    rw [this.1, if_pos rfl, this.2]
    exact sgn_m _ (hB F hl)
  · rw [if_neg hl, a3 (by omega), if_neg (by decide)]
theorem RS.sg {m : Mm} {F T : Nat} {st : Bool} (h : RS B L m F T st) (hF : F < L) (hl : ¬ isLb (B F) = true) (hd : ¬ isDb (B F) = true) : m 91 10 = 3 ∧ m 91 11 = nI (B F) := h.2.2.2.2.2.1 hF (wrd_no hF hl hd)
theorem RS.sgs (hB : ∀ j, j < L → B j < 256) {m : Mm} {F T : Nat} {st : Bool} (h : RS B L m F T st) (hF : F < L) (hs : ¬ sgn (B F) = 0) : m 91 10 = 3 ∧ m 91 11 = nI (B F) := h.sg hF (fun z => hs (sgn_w _ (hB F hF) (Or.inl z))) (fun z => hs (sgn_w _ (hB F hF) (Or.inr z)))
/-- what both stand on -/
def Jn (B : Nat → Nat) (L o key : Nat) (c m : Mm) (F T : Nat) (st : Bool) (C R W : List Int32) (a : Nat) : Prop := CB B L c ∧ CS c F T st ∧ c 2 5 = (-1) ∧ XS c o C a key ∧ RB B L m ∧ RS B L m F T st ∧ MZ m R W a key ∧ (∃ p, TokP B L p F T) ∧ R.length + W.length ≤ F ∧ C.length ≤ F
section JNP
variable {o key : Nat} {c m : Mm} {F T : Nat} {st : Bool} {C R W : List Int32} {a : Nat}
theorem Jn.cb (h : Jn B L o key c m F T st C R W a) : CB B L c := h.1
theorem Jn.cs (h : Jn B L o key c m F T st C R W a) : CS c F T st := h.2.1
theorem Jn.c5 (h : Jn B L o key c m F T st C R W a) : c 2 5 = (-1) := h.2.2.1
theorem Jn.xs (h : Jn B L o key c m F T st C R W a) : XS c o C a key := h.2.2.2.1
theorem Jn.rb (h : Jn B L o key c m F T st C R W a) : RB B L m := h.2.2.2.2.1
theorem Jn.rs (h : Jn B L o key c m F T st C R W a) : RS B L m F T st := h.2.2.2.2.2.1
theorem Jn.mz (h : Jn B L o key c m F T st C R W a) : MZ m R W a key := h.2.2.2.2.2.2.1
theorem Jn.tk (h : Jn B L o key c m F T st C R W a) : ∃ p, TokP B L p F T := h.2.2.2.2.2.2.2.1
theorem Jn.ln (h : Jn B L o key c m F T st C R W a) : R.length + W.length ≤ F := h.2.2.2.2.2.2.2.2.1
theorem Jn.lc (h : Jn B L o key c m F T st C R W a) : C.length ≤ F := h.2.2.2.2.2.2.2.2.2
end JNP
theorem Jn.F {o key : Nat} {c m : Mm} {F T : Nat} {st : Bool} {C R W : List Int32} {a : Nat} (h : Jn B L o key c m F T st C R W a) : F ≤ L := by
  obtain ⟨p, q⟩ := h.tk
  exact q.T.2.1
def FA (o L : Nat) (c m : Mm) (r : Option Mm) (q : Option (Int32 × Mm)) : Prop := ∃ c2 m2 Fe k, r = some c2 ∧ q = some (0, m2) ∧ (c2 2 5 = nI Fe ∧ c2 2 2 = nI Fe) ∧ m2 91 9 = nI Fe ∧ Fe ≤ L ∧ k ≤ 96 ∧ c2 o 2 = nI k ∧ CFr o c c2 ∧ MFr m m2
def NJ (B : Nat → Nat) (L l pp F : Nat) (m : Mm) : Prop := sgF B L F = 0 ∨ rk (sgF B L F) ≤ l ∨ (rk (sgF B L F) = 3 ∧ ¬ m 101 pp = 0)
def OKP (B : Nat → Nat) (L o key N : Nat) (c m : Mm) (F pp j : Nat) (C W0 : List Int32) (r : Option Mm) (q : Option (Int32 × Mm)) : Prop := ∃ c2 m2 F2 T2 st2 X a2 fu, r = some c2 ∧ q = f_M_takesE_L28 N fu (nI pp) (nI (cN W0)) 0 m2 ∧ Jn B L o key c2 m2 F2 T2 st2 (C ++ X) (C ++ X ++ List.replicate j (-10)) W0 a2 ∧ L + 2 ≤ fu + F2 ∧ F < F2 ∧ (∀ i, i ≤ pp → m2 101 i = m 101 i) ∧ CFr o c c2 ∧ MFr m m2 ∧ VX key X
def OKL (B : Nat → Nat) (L o key N : Nat) (c m : Mm) (F pp l : Nat) (C W : List Int32) (r : Option Mm) (q : Option (Int32 × Mm)) : Prop := ∃ c2 m2 F2 T2 st2 X R2 S a2 fu, r = some c2 ∧ q = f_M_takesE_L28 N fu (nI pp) (nI (cN W)) 0 m2 ∧ Jn B L o key c2 m2 F2 T2 st2 (C ++ X) R2 (W ++ S) a2 ∧ C ++ X = R2 ++ S.reverse ∧ L + 2 ≤ fu + F2 ∧ F < F2 ∧ (∀ x ∈ S, x ≠ (-11) ∧ x ≠ (-10) ∧ l + 1 ≤ rk x) ∧ NJ B L l pp F2 m2 ∧ (m2 101 pp = 0 ∨ m2 101 pp = 1) ∧ (∀ i, i < pp → m2 101 i = m 101 i) ∧ (3 ≤ l → m2 101 pp = m 101 pp) ∧ CFr o c c2 ∧ MFr m m2 ∧ VX key X
def PIECE (B : Nat → Nat) (L o key N n : Nat) : Prop := ∀ (c m : Mm) (F T : Nat) (st : Bool) (C W0 : List Int32) (j a pp fu : Nat), Jn B L o key c m F T st C C (W0 ++ List.replicate j (-10)) a → stops W0 6 → cN W0 + j ≤ 8 → pp ≤ 8 → 7 * (8 - pp) + (8 - (cN W0 + j)) + 1 ≤ n → L + 2 ≤ fu + F → OKP B L o key N c m F pp j C W0 ((f_rd N n).2 o (nI pp) (nI (cN W0 + j)) c) (f_M_takesE_L28 N fu (nI pp) (nI (cN W0 + j)) 1 m) ∨ FA o L c m ((f_rd N n).2 o (nI pp) (nI (cN W0 + j)) c) (f_M_takesE_L28 N fu (nI pp) (nI (cN W0 + j)) 1 m)
def LEVEL (B : Nat → Nat) (L o key N n : Nat) : Prop := ∀ (l : Nat) (c m : Mm) (F T : Nat) (st : Bool) (C W : List Int32) (a pp fu : Nat), l ≤ 5 → Jn B L o key c m F T st C C W a → stops W (l + 1) → cN W ≤ 8 → pp ≤ 8 → 7 * (8 - pp) + (8 - cN W) + (7 - l) ≤ n → L + 2 ≤ fu + F → (m 101 pp = 0 ∨ m 101 pp = 1) → (l ≤ 2 → m 101 pp = 0) → OKL B L o key N c m F pp l C W ((f_rd N n).1 o (nI l) (nI pp) (nI (cN W)) c) (f_M_takesE_L28 N fu (nI pp) (nI (cN W)) 1 m) ∨ FA o L c m ((f_rd N n).1 o (nI l) (nI pp) (nI (cN W)) c) (f_M_takesE_L28 N fu (nI pp) (nI (cN W)) 1 m)
theorem FA.pre {o : Nat} {c0 m0 c m : Mm} {r : Option Mm} {q : Option (Int32 × Mm)} (h : FA o L c m r q) (hc : CFr o c0 c) (hm : MFr m0 m) : FA o L c0 m0 r q := by
  obtain ⟨c2, m2, Fe, k, e1, e2, e3, e4, e5, e6, e7, e8, e9⟩ := h
  exact ⟨c2, m2, Fe, k, e1, e2, e3, e4, e5, e6, e7, hc.tr e8, hm.tr e9⟩
/-- after a step of both -/
theorem Jn.go {o key N : Nat} (hL : L ≤ 96) (hB : ∀ j, j < L → B j < 256) (hN : 500 ≤ N) (ho : 7 ≤ o) {c m c0 m0 : Mm} {F T : Nat} {st : Bool} {C R W C0 R0 W0 : List Int32} {a a0 : Nat} (h0 : Jn B L o key c0 m0 F T st C0 R0 W0 a0) (hF : F < L) (c2 : c 2 = c0 2) (c3 : c 3 = c0 3) (m96 : m 96 = m0 96) (m91 : ∀ i, 7 ≤ i → i ≤ 12 → m 91 i = m0 91 i) (xs : XS c o C a key) (mz : MZ m R W a key) (ln : R.length + W.length ≤ F + 1) (lc : C.length ≤ F + 1) : ∃ c4 m4 F2 T2 st2, f_T_step N c = some c4 ∧ f_M_go N m = some m4 ∧ Jn B L o key c4 m4 F2 T2 st2 C R W a ∧ F < F2 ∧ TF c c4 ∧ GF m m4 := by
  obtain ⟨p, tk⟩ := h0.tk
  have cb : CB B L c := ⟨by rw [c2]; exact h0.cb.1, fun j hj => by rw [c3]; exact h0.cb.2 j hj⟩
  have cs : CS c F T st := ⟨by rw [c2]; exact h0.cs.1, by rw [c2]; exact h0.cs.2.1, by rw [c2]; exact h0.cs.2.2⟩
  have rb : RB B L m := h0.rb.cg (m91 7 (by omega) (by omega)) m96
  have rs : RS B L m F T st := h0.rs.cg (fun i h1 h2 => m91 i (by omega) h2)
  obtain ⟨c4, m4, F2, T2, st2, u1, u2, u3, u4, u5, u6, u7, u8⟩ := J_step hL hB cb rb tk hF cs rs hN
  exact ⟨c4, m4, F2, T2, st2, u1, u2, ⟨cb.tf u6, u3, (u6.2 5 (by omega) (by omega) (by omega)).trans (by rw [c2]; exact h0.c5), xs.tf ho u6, rb.gf u7, u4, mz.gf u7, ⟨T, u5⟩, by omega, by omega⟩, u8, u6, u7⟩
/-- the end of a level's loop where a fault stands -/
theorem LV_bad {rl : Nat → Int32 → Int32 → Int32 → Mm → Option Mm} {rp : Nat → Int32 → Int32 → Mm → Option Mm} {N o G : Nat} {b2 b3 b4 b5 b6 : Int32} {c : Mm} (hG : 1 ≤ G) (h : ¬ c 2 5 = (-1)) : f_T_readLevelF_L41 rl rp N o G b2 b3 b4 b5 b6 c = some (b6, c) := by
  obtain ⟨G, rfl⟩ : ∃ f, G = f + 1 := ⟨G - 1, by omega⟩
  rw [f_T_readLevelF_L41, if_neg h]
  split <;> rfl
end RDA
