theorem k_aastN {X : Cx} {E : En} {cc : ByteArray} {own : String} {nL d pc np : Nat} {ls : List (Nat × Value)} {st : List Value} {sh : List Sh} {mem : Mm} {x : Int32} {k ti t ci i : Nat} {l : List (Option Nat)} {sl : List Sl} {q : vw_C} (hx : ix x = i) (S : Std X E cc own nL d) (hd : decode cc pc = .ok (.aastore, 1) ∧ pc + 1 = np) (hk : sh[k]? = some (.inr (.inr (ti, l)))) (ht : (tysOf E.2.1)[ti]? = some (E.2.1 ti, .object q.1)) (hv : sh[t]? = some (.inl (ci, sl))) (hc : CL[ci]? = some q) (hi : inb x l.length = true) (kk : J X E nL np ls st (sh.set k (.inr (.inr (ti, l.set i (some t))))) mem) : J X E nL pc ls (.ref (eb E + t) :: .int x :: .ref (eb E + k) :: st) sh mem := by
  subst hx
  exact k_aast S hd hk ht hv hc hi kk
theorem ixc_0 : ix 0 = 0 := by decide +kernel
theorem ixc_1 : ix 1 = 1 := by decide +kernel
theorem ixc_2 : ix 2 = 2 := by decide +kernel
theorem ixc_3 : ix 3 = 3 := by decide +kernel
theorem ixc_4 : ix 4 = 4 := by decide +kernel
theorem ixc_5 : ix 5 = 5 := by decide +kernel
theorem ixc_6 : ix 6 = 6 := by decide +kernel
theorem ixc_7 : ix 7 = 7 := by decide +kernel
theorem ixc_8 : ix 8 = 8 := by decide +kernel
theorem ixc_9 : ix 9 = 9 := by decide +kernel
theorem ixc_10 : ix 10 = 10 := by decide +kernel
theorem ixc_11 : ix 11 = 11 := by decide +kernel
theorem ixc_12 : ix 12 = 12 := by decide +kernel
theorem ixc_13 : ix 13 = 13 := by decide +kernel
theorem ixc_14 : ix 14 = 14 := by decide +kernel
theorem k_callN2 {X : Cx} {E : En} {cc : ByteArray} {own : String} {nL d pc np N O N1 O1 n0 j : Nat} {ls : List (Nat × Value)} {st st0 : List Value} {sh0 P sh2 : List Sh} {o : Sh} {mem m2 : Mm} {y : MethodName} {mc ms idx n d2 nL2 k : Nat} {c2 : ByteArray} {As : List Value} (S : Std (cxK X N O) E cc own nL d) (hKx : Kx (cxS X)) (hn : sh0.length = n0) (hj : P.length = j) (hsz : (cxS X).heap.size + N = eb E + (n0 + j + 1)) (hd : decode cc pc = .ok (.invokespecial idx, 3) ∧ pc + 3 = np) (hm : (Cond.methodLink own idx y ∈ TB ∨ ∃ host, va_Nw (.methodLinkNest own idx y host) (cxS X)) ∧ Cond.instanceMethod y ∈ TB) (hcd : Cond.code y c2 nL2 none ∈ TB ∧ Cond.initialized y.cls ∈ TB) (hp : (y.cls ≠ "java/lang/invoke/MethodHandle" ∧ y.cls ≠ "java/lang/invoke/VarHandle" ∧ (parseMethodDescriptor y.desc).map (fun d => d.parameters.length) = some n) ∧ y.name = "<init>") (hM : CtN (cxL X) E d2 mc ms y c2 nL2 (.ref k :: As) ((sh0 ++ P) ++ [o]) mem sh2 m2) (hdd : d2 < d ∧ nL2 ≤ 21) (hst : st0 = As.reverse ++ .ref k :: st) (hnn : As.length = n) (hcat : (st.map fun v => v.category).sum ≤ 8)
    (hN : N + mc = N1 ∧ O + ms = O1 ∧ N1 ≤ (cxR X).cells ∧ O1 ≤ (cxR X).slots) (kk : J (cxK X N1 O1) E nL np ls st sh2 m2) : J (cxK X N O) E nL pc ls st0 ((sh0 ++ P) ++ [o]) mem := by
  have hl : ((sh0 ++ P) ++ [o]).length = n0 + j + 1 := by rw [List.length_append, List.length_append, hn, hj]; rfl
  exact k_callN S hKx ⟨by rw [hl]; exact hsz, by rw [hl]; exact Nat.succ_pos _⟩ hd hm hcd hp hM hdd hst hnn hcat hN kk
