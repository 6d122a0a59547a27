/-! PURE: the law's loop -/
theorem w_if {c : Prop} [Decidable c] {x y : Option Unit} (h : c → x = some ()) (h2 : ¬ c → y = some ()) : (if c then x else y) = some () := by
  by_cases q : c
  · rw [if_pos q]; exact h q
  · rw [if_neg q]; exact h2 q
theorem w_gd {c : Prop} [Decidable c] {x y : Option Unit} (q : c) (h : x = some ()) : (if c then x else y) = some () := by rw [if_pos q]; exact h
theorem w_2 {S M : Mm → Option (Int32 × Mm)} {m : Mm} {K : Mm → Option Unit} (h : Ok2 S M m) (hK : ∀ m2, Good m2 → K m2 = some ()) : (bd (S m) fun r m1 => bd (M m1) fun r2 m2 => if r = r2 then K m2 else none) = some () := by
  obtain ⟨v, m1, m2, h1, h2, h3⟩ := h
  rw [h1, bd_some, h2, bd_some, if_pos rfl]
  exact hK m2 h3
theorem w_0 {S M : Mm → Option Int32} {m : Mm} {K : Mm → Option Unit} (h : Ok0 S M m) (hK : K m = some ()) : (bp (S m) fun r => bp (M m) fun r2 => if r = r2 then K m else none) = some () := by
  obtain ⟨v, h1, h2⟩ := h
  rw [h1, bp_some, h2, bp_some, if_pos rfl]
  exact hK
section LAWL
variable {Ln N n : Nat} {xs : Nat → Int32}
theorem law_step {b3 : Int32} {mem : Mm} (hN : 1500 ≤ N) (g : Good mem) (hi : inb b3 Ln = true) (i1 : inb (b3 + 1) Ln = true) (i2 : inb (b3 + 2) Ln = true) (i3 : inb (b3 + 3) Ln = true) (i4 : inb (b3 + 4) Ln = true) (i5 : inb (b3 + 5) Ln = true) (hK : ∀ m2, Good m2 → f_W_law_L18 Ln xs N n (b3 + 6) m2 = some ()) : f_W_law_L18 Ln xs N (n + 1) b3 mem = some () := by
  rw [f_W_law_L18]
  refine w_if (fun _ => rfl) (fun _ => w_gd hi ?_)
  refine w_if (fun _ => w_gd i1 (w_gd i2 (w_gd i3 (w_2 (m := mem) (K := fun m2 => f_W_law_L18 Ln xs N n (b3 + 6) m2) (ok_monk g (xs (ix (b3 + 1))) (xs (ix (b3 + 2))) (xs (ix (b3 + 3)))) hK)))) (fun _ => ?_)
  refine w_if (fun _ => w_gd i1 (w_gd i2 (w_0 (m := mem) (K := fun m2 => f_W_law_L18 Ln xs N n (b3 + 6) m2) (ok_told g (xs (ix (b3 + 1))) (xs (ix (b3 + 2)))) (hK mem g)))) (fun _ => ?_)
  refine w_if (fun _ => w_gd i1 (w_gd i2 (w_gd i3 (w_2 (m := mem) (K := fun m2 => f_W_law_L18 Ln xs N n (b3 + 6) m2) (ok_does g (xs (ix (b3 + 1))) (xs (ix (b3 + 2))) (xs (ix (b3 + 3))) (N := N) (by omega)) hK)))) (fun _ => ?_)
  refine w_if (fun _ => w_gd i1 (w_gd i2 (w_0 (m := mem) (K := fun m2 => f_W_law_L18 Ln xs N n (b3 + 6) m2) (ok_as g (xs (ix (b3 + 1))) (xs (ix (b3 + 2)))) (hK mem g)))) (fun _ => ?_)
  refine w_if (fun _ => w_gd i1 (w_gd i2 (w_2 (m := mem) (K := fun m2 => f_W_law_L18 Ln xs N n (b3 + 6) m2) (ok_turns g (xs (ix (b3 + 1))) (xs (ix (b3 + 2)))) hK))) (fun _ => ?_)
  refine w_if (fun _ => w_gd i1 (w_gd i2 (w_gd i3 (w_2 (m := mem) (K := fun m2 => f_W_law_L18 Ln xs N n (b3 + 6) m2) (ok_set g (xs (ix (b3 + 1))) (xs (ix (b3 + 2))) (xs (ix (b3 + 3)))) hK)))) (fun _ => ?_)
  refine w_if (fun _ => w_gd i1 (w_gd i2 (w_0 (m := mem) (K := fun m2 => f_W_law_L18 Ln xs N n (b3 + 6) m2) (ok_table g (xs (ix (b3 + 1))) (xs (ix (b3 + 2)))) (hK mem g)))) (fun _ => ?_)
  refine w_if (fun _ => w_gd i1 (w_gd i2 (w_2 (m := mem) (K := fun m2 => f_W_law_L18 Ln xs N n (b3 + 6) m2) (ok_need g (xs (ix (b3 + 1))) (xs (ix (b3 + 2)))) hK))) (fun _ => ?_)
  refine w_if (fun _ => w_gd i1 (w_gd i2 (w_2 (m := mem) (K := fun m2 => f_W_law_L18 Ln xs N n (b3 + 6) m2) (ok_river g (xs (ix (b3 + 1))) (xs (ix (b3 + 2)))) hK))) (fun _ => ?_)
  refine w_if (fun _ => w_gd i1 (w_2 (m := mem) (K := fun m2 => f_W_law_L18 Ln xs N n (b3 + 6) m2) (ok_wind g (xs (ix (b3 + 1)))) hK)) (fun _ => ?_)
  refine w_if (fun _ => w_gd i1 (w_2 (m := mem) (K := fun m2 => f_W_law_L18 Ln xs N n (b3 + 6) m2) (ok_deal g (xs (ix (b3 + 1))) (N := N) (by omega)) hK)) (fun _ => ?_)
  refine w_if (fun _ => w_gd i1 (w_2 (m := mem) (K := fun m2 => f_W_law_L18 Ln xs N n (b3 + 6) m2) (ok_seed g (xs (ix (b3 + 1)))) hK)) (fun _ => ?_)
  refine w_if (fun _ => w_gd i1 (w_2 (m := mem) (K := fun m2 => f_W_law_L18 Ln xs N n (b3 + 6) m2) (ok_hours g (xs (ix (b3 + 1))) (N := N) (by omega)) hK)) (fun _ => ?_)
  refine w_if (fun _ => w_gd i1 (w_0 (m := mem) (K := fun m2 => f_W_law_L18 Ln xs N n (b3 + 6) m2) (ok_grains g (xs (ix (b3 + 1))) (N := N) (by omega)) (hK mem g))) (fun _ => ?_)
  refine w_if (fun _ => w_gd i1 (w_2 (m := mem) (K := fun m2 => f_W_law_L18 Ln xs N n (b3 + 6) m2) (ok_sneeze g (xs (ix (b3 + 1)))) hK)) (fun _ => ?_)
  refine w_if (fun _ => w_gd i1 (w_gd i2 (w_2 (m := mem) (K := fun m2 => f_W_law_L18 Ln xs N n (b3 + 6) m2) (ok_behind g (xs (ix (b3 + 1))) (xs (ix (b3 + 2))) (N := N) (by omega)) hK))) (fun _ => ?_)
  refine w_if (fun _ => w_gd i1 (w_2 (m := mem) (K := fun m2 => f_W_law_L18 Ln xs N n (b3 + 6) m2) (ok_lacks g (xs (ix (b3 + 1))) (N := N) (by omega)) hK)) (fun _ => ?_)
  refine w_if (fun _ => w_gd i1 (w_2 (m := mem) (K := fun m2 => f_W_law_L18 Ln xs N n (b3 + 6) m2) (ok_dry g (xs (ix (b3 + 1))) (N := N) (by omega)) hK)) (fun _ => ?_)
  refine w_if (fun _ => w_gd i1 (w_gd i2 (w_gd i3 (w_2 (m := mem) (K := fun m2 => f_W_law_L18 Ln xs N n (b3 + 6) m2) (ok_goes g (xs (ix (b3 + 1))) (xs (ix (b3 + 2))) (xs (ix (b3 + 3))) (N := N) (by omega)) hK)))) (fun _ => ?_)
  refine w_if (fun _ => w_gd i1 (w_2 (m := mem) (K := fun m2 => f_W_law_L18 Ln xs N n (b3 + 6) m2) (ok_blamed g (xs (ix (b3 + 1))) (N := N) (by omega)) hK)) (fun _ => ?_)
  refine w_if (fun _ => w_2 (m := mem) (K := fun m2 => f_W_law_L18 Ln xs N n (b3 + 6) m2) (ok_never g (N := N) (by omega)) hK) (fun _ => ?_)
  refine w_if (fun _ => w_gd i1 (w_gd i2 (w_2 (m := mem) (K := fun m2 => f_W_law_L18 Ln xs N n (b3 + 6) m2) (ok_slower g (xs (ix (b3 + 1))) (xs (ix (b3 + 2))) (N := N) (by omega)) hK))) (fun _ => ?_)
  refine w_if (fun _ => w_gd i1 (w_gd i2 (w_gd i3 (w_2 (m := mem) (K := fun m2 => f_W_law_L18 Ln xs N n (b3 + 6) m2) (ok_paced g (xs (ix (b3 + 1))) (xs (ix (b3 + 2))) (xs (ix (b3 + 3))) (N := N) (by omega)) hK)))) (fun _ => ?_)
  refine w_if (fun _ => w_2 (m := mem) (K := fun m2 => f_W_law_L18 Ln xs N n (b3 + 6) m2) (ok_fine g (N := N) (by omega)) hK) (fun _ => ?_)
  refine w_if (fun _ => w_gd i1 (w_gd i2 (w_gd i3 (w_2 (m := mem) (K := fun m2 => f_W_law_L18 Ln xs N n (b3 + 6) m2) (ok_feed g (xs (ix (b3 + 1))) (xs (ix (b3 + 2))) (xs (ix (b3 + 3))) (N := N) (by omega)) hK)))) (fun _ => ?_)
  refine w_if (fun _ => w_gd i1 (w_2 (m := mem) (K := fun m2 => f_W_law_L18 Ln xs N n (b3 + 6) m2) (ok_trim g (xs (ix (b3 + 1)))) hK)) (fun _ => ?_)
  refine w_if (fun _ => w_2 (m := mem) (K := fun m2 => f_W_law_L18 Ln xs N n (b3 + 6) m2) (ok_text g (N := N) (by omega)) hK) (fun _ => ?_)
  refine w_if (fun _ => w_gd i1 (w_gd i2 (w_0 (m := mem) (K := fun m2 => f_W_law_L18 Ln xs N n (b3 + 6) m2) (ok_textTold g (xs (ix (b3 + 1))) (xs (ix (b3 + 2)))) (hK mem g)))) (fun _ => ?_)
  refine w_if (fun _ => w_gd i1 (w_0 (m := mem) (K := fun m2 => f_W_law_L18 Ln xs N n (b3 + 6) m2) (ok_why g (xs (ix (b3 + 1))) (N := N) (by omega)) (hK mem g))) (fun _ => ?_)
  refine w_if (fun _ => w_gd i1 (w_gd i2 (w_gd i3 (w_2 (m := mem) (K := fun m2 => f_W_law_L18 Ln xs N n (b3 + 6) m2) (ok_sheet g (xs (ix (b3 + 1))) (xs (ix (b3 + 2))) (xs (ix (b3 + 3))) (N := N) (by omega)) hK)))) (fun _ => ?_)
  refine w_if (fun _ => w_gd i1 (w_gd i2 (w_gd i3 (w_2 (m := mem) (K := fun m2 => f_W_law_L18 Ln xs N n (b3 + 6) m2) (ok_mark g (xs (ix (b3 + 1))) (xs (ix (b3 + 2))) (xs (ix (b3 + 3)))) hK)))) (fun _ => ?_)
  refine w_if (fun _ => w_gd i1 (w_2 (m := mem) (K := fun m2 => f_W_law_L18 Ln xs N n (b3 + 6) m2) (ok_pour g (xs (ix (b3 + 1))) (N := N) (by omega)) hK)) (fun _ => ?_)
  refine w_if (fun _ => w_gd i1 (w_0 (m := mem) (K := fun m2 => f_W_law_L18 Ln xs N n (b3 + 6) m2) (ok_reads g (xs (ix (b3 + 1))) (N := N) (by omega)) (hK mem g))) (fun _ => ?_)
  refine w_if (fun _ => w_gd i1 (w_gd i2 (w_gd i3 (w_gd i4 (w_gd i5 (w_2 (m := mem) (K := fun m2 => f_W_law_L18 Ln xs N n (b3 + 6) m2) (ok_copy g (xs (ix (b3 + 1))) (xs (ix (b3 + 2))) (xs (ix (b3 + 3))) (xs (ix (b3 + 4))) (xs (ix (b3 + 5))) (N := N) (by omega)) hK)))))) (fun _ => ?_)
  refine w_if (fun _ => w_gd i1 (w_gd i2 (w_gd i3 (w_2 (m := mem) (K := fun m2 => f_W_law_L18 Ln xs N n (b3 + 6) m2) (ok_lay g (xs (ix (b3 + 1))) (xs (ix (b3 + 2))) (xs (ix (b3 + 3))) (N := N) (by omega)) hK)))) (fun _ => ?_)
  refine w_if (fun _ => w_gd i1 (w_gd i2 (w_0 (m := mem) (K := fun m2 => f_W_law_L18 Ln xs N n (b3 + 6) m2) (ok_ask g (xs (ix (b3 + 1))) (xs (ix (b3 + 2)))) (hK mem g)))) (fun _ => ?_)
  refine w_if (fun _ => w_gd i1 (w_gd i2 (w_0 (m := mem) (K := fun m2 => f_W_law_L18 Ln xs N n (b3 + 6) m2) (ok_item g (xs (ix (b3 + 1))) (xs (ix (b3 + 2)))) (hK mem g)))) (fun _ => ?_)
  refine w_if (fun _ => w_gd i1 (w_gd i2 (w_0 (m := mem) (K := fun m2 => f_W_law_L18 Ln xs N n (b3 + 6) m2) (ok_rest g (xs (ix (b3 + 1))) (xs (ix (b3 + 2)))) (hK mem g)))) (fun _ => ?_)
  refine w_if (fun _ => w_gd i1 (w_2 (m := mem) (K := fun m2 => f_W_law_L18 Ln xs N n (b3 + 6) m2) (ok_tell g (xs (ix (b3 + 1)))) hK)) (fun _ => ?_)
  refine w_if (fun _ => w_gd i1 (w_2 (m := mem) (K := fun m2 => f_W_law_L18 Ln xs N n (b3 + 6) m2) (ok_check g (xs (ix (b3 + 1))) (N := N) (by omega)) hK)) (fun _ => ?_)
  refine w_if (fun _ => w_2 (m := mem) (K := fun m2 => f_W_law_L18 Ln xs N n (b3 + 6) m2) (ok_keep g (N := N) (by omega)) hK) (fun _ => ?_)
  refine w_if (fun _ => w_2 (m := mem) (K := fun m2 => f_W_law_L18 Ln xs N n (b3 + 6) m2) (ok_back g (N := N) (by omega)) hK) (fun _ => ?_)
  refine w_if (fun _ => w_gd i1 (w_0 (m := mem) (K := fun m2 => f_W_law_L18 Ln xs N n (b3 + 6) m2) (ok_count g (xs (ix (b3 + 1))) (N := N) (by omega)) (hK mem g))) (fun _ => ?_)
  exact hK mem g
theorem law_loop (hN : 1500 ≤ N) (hL : Ln ≤ 3072) : ∀ (d n k : Nat) (mem : Mm), Ln < 6 * k + 6 * d + 6 → 6 * k ≤ 3078 → d < n → Good mem → f_W_law_L18 Ln xs N n (nI (6 * k)) mem = some ()
  | d, n, k, mem, hd, hk, hn, g => by
    obtain ⟨n, rfl⟩ : ∃ f, n = f + 1 := ⟨n - 1, by omega⟩
    have e : (nI Ln - 6).toInt = (Ln : Int) - 6 := pk_sub_toInt (b := 6) (by omega) (by decide)
    by_cases hs : Ln < 6 * k + 6
    · rw [f_W_law_L18, if_pos (show Int32.ofNat Ln - 6 < nI (6 * k) from lt_ti.mpr (by
        rw [show (Int32.ofNat Ln - 6).toInt = (Ln : Int) - 6 from e, ti_nI (by omega)]; omega))]
    · cases d with
      | zero => omega
      | succ d =>
        have a : ∀ j : Nat, j < 6 → inb (nI (6 * k) + nI j) Ln = true := fun j hj => by rw [nI_add]; exact inb_nI (by omega) (by omega)
        refine law_step hN g (inb_nI (by omega) (by omega)) (a 1 (by decide)) (a 2 (by decide)) (a 3 (by decide)) (a 4 (by decide)) (a 5 (by decide)) (fun m2 g2 => ?_)
        have := law_loop hN hL d n (k + 1) m2 (by omega) (by omega) (by omega) g2
        rw [show 6 * (k + 1) = 6 * k + 6 by omega, ← nI_add] at this
        exact this
end LAWL
theorem pure_all (Ln : Nat) (xs : Nat → Int32) (hL : Ln ≤ 3072) : ∃ N n, f_W_law_L18 Ln xs N n 0 mem0 = some () :=
  ⟨2000, 600, law_loop (N := 2000) (xs := xs) (by omega) hL 512 600 0 mem0 (by omega) (by omega) (by omega) good0⟩
