def f_W_law_L18 (Ln : Nat) (xs : Nat → Int32) (N : Nat)  : Nat → Int32 → Mm → Option Unit
  | 0, _, _ => none
  | n + 1, b3, mem => if (Int32.ofNat Ln) - 6 < b3 then some () else if inb b3 Ln = true then if ((xs (ix b3)) &&& 63) = 0 then if inb (b3 + 1) Ln = true then if inb (b3 + 2) Ln = true then if inb (b3 + 3) Ln = true then bd (f_S_monk (xs (ix (b3 + 1))) (xs (ix (b3 + 2))) (xs (ix (b3 + 3))) mem) fun r_236 m_236 => bd (f_M_monk (xs (ix (b3 + 1))) (xs (ix (b3 + 2))) (xs (ix (b3 + 3))) m_236) fun r_255 m_255 => if r_236 = r_255 then f_W_law_L18 Ln xs N n (b3 + 6) m_255 else none else none else none else none else if ((xs (ix b3)) &&& 63) = 1 then if inb (b3 + 1) Ln = true then if inb (b3 + 2) Ln = true then bp (f_S_told (xs (ix (b3 + 1))) (xs (ix (b3 + 2))) mem) fun r_274 => bp (f_M_told (xs (ix (b3 + 1))) (xs (ix (b3 + 2))) mem) fun r_288 => if r_274 = r_288 then f_W_law_L18 Ln xs N n (b3 + 6) mem else none else none else none else if ((xs (ix b3)) &&& 63) = 2 then if inb (b3 + 1) Ln = true then if inb (b3 + 2) Ln = true then if inb (b3 + 3) Ln = true then bd (f_S_does N (xs (ix (b3 + 1))) (xs (ix (b3 + 2))) (xs (ix (b3 + 3))) mem) fun r_312 m_312 => bd (f_M_does N (xs (ix (b3 + 1))) (xs (ix (b3 + 2))) (xs (ix (b3 + 3))) m_312) fun r_331 m_331 => if r_312 = r_331 then f_W_law_L18 Ln xs N n (b3 + 6) m_331 else none else none else none else none else if ((xs (ix b3)) &&& 63) = 3 then if inb (b3 + 1) Ln = true then if inb (b3 + 2) Ln = true then bp (f_S_as (xs (ix (b3 + 1))) (xs (ix (b3 + 2))) mem) fun r_350 => bp (f_M_as (xs (ix (b3 + 1))) (xs (ix (b3 + 2))) mem) fun r_364 => if r_350 = r_364 then f_W_law_L18 Ln xs N n (b3 + 6) mem else none else none else none else if ((xs (ix b3)) &&& 63) = 4 then if inb (b3 + 1) Ln = true then if inb (b3 + 2) Ln = true then bd (f_S_turns (xs (ix (b3 + 1))) (xs (ix (b3 + 2))) mem) fun r_383 m_383 => bd (f_M_turns (xs (ix (b3 + 1))) (xs (ix (b3 + 2))) m_383) fun r_397 m_397 => if r_383 = r_397 then f_W_law_L18 Ln xs N n (b3 + 6) m_397 else none else none else none else if ((xs (ix b3)) &&& 63) = 5 then if inb (b3 + 1) Ln = true then if inb (b3 + 2) Ln = true then if inb (b3 + 3) Ln = true then bd (f_S_set (xs (ix (b3 + 1))) (xs (ix (b3 + 2))) (xs (ix (b3 + 3))) mem) fun r_421 m_421 => bd (f_M_set (xs (ix (b3 + 1))) (xs (ix (b3 + 2))) (xs (ix (b3 + 3))) m_421) fun r_440 m_440 => if r_421 = r_440 then f_W_law_L18 Ln xs N n (b3 + 6) m_440 else none else none else none else none else if ((xs (ix b3)) &&& 63) = 6 then if inb (b3 + 1) Ln = true then if inb (b3 + 2) Ln = true then bp (f_S_table (xs (ix (b3 + 1))) (xs (ix (b3 + 2))) mem) fun r_459 => bp (f_M_table (xs (ix (b3 + 1))) (xs (ix (b3 + 2))) mem) fun r_473 => if r_459 = r_473 then f_W_law_L18 Ln xs N n (b3 + 6) mem else none else none else none else if ((xs (ix b3)) &&& 63) = 7 then if inb (b3 + 1) Ln = true then if inb (b3 + 2) Ln = true then bd (f_S_need (xs (ix (b3 + 1))) (xs (ix (b3 + 2))) mem) fun r_492 m_492 => bd (f_M_need (xs (ix (b3 + 1))) (xs (ix (b3 + 2))) m_492) fun r_506 m_506 => if r_492 = r_506 then f_W_law_L18 Ln xs N n (b3 + 6) m_506 else none else none else none else if ((xs (ix b3)) &&& 63) = 8 then if inb (b3 + 1) Ln = true then if inb (b3 + 2) Ln = true then bd (f_S_river (xs (ix (b3 + 1))) (xs (ix (b3 + 2))) mem) fun r_525 m_525 => bd (f_M_river (xs (ix (b3 + 1))) (xs (ix (b3 + 2))) m_525) fun r_539 m_539 => if r_525 = r_539 then f_W_law_L18 Ln xs N n (b3 + 6) m_539 else none else none else none else if ((xs (ix b3)) &&& 63) = 9 then if inb (b3 + 1) Ln = true then bd (f_S_wind (xs (ix (b3 + 1))) mem) fun r_553 m_553 => bd (f_M_wind (xs (ix (b3 + 1))) m_553) fun r_562 m_562 => if r_553 = r_562 then f_W_law_L18 Ln xs N n (b3 + 6) m_562 else none else none else if ((xs (ix b3)) &&& 63) = 10 then if inb (b3 + 1) Ln = true then bd (f_S_deal N (xs (ix (b3 + 1))) mem) fun r_576 m_576 => bd (f_M_deal N (xs (ix (b3 + 1))) m_576) fun r_585 m_585 => if r_576 = r_585 then f_W_law_L18 Ln xs N n (b3 + 6) m_585 else none else none else if ((xs (ix b3)) &&& 63) = 11 then if inb (b3 + 1) Ln = true then bd (f_S_seed (xs (ix (b3 + 1))) mem) fun r_599 m_599 => bd (f_M_seed (xs (ix (b3 + 1))) m_599) fun r_608 m_608 => if r_599 = r_608 then f_W_law_L18 Ln xs N n (b3 + 6) m_608 else none else none else if ((xs (ix b3)) &&& 63) = 12 then if inb (b3 + 1) Ln = true then bd (f_S_hours N (xs (ix (b3 + 1))) mem) fun r_622 m_622 => bd (f_M_hours N (xs (ix (b3 + 1))) m_622) fun r_631 m_631 => if r_622 = r_631 then f_W_law_L18 Ln xs N n (b3 + 6) m_631 else none else none else if ((xs (ix b3)) &&& 63) = 13 then if inb (b3 + 1) Ln = true then bp (f_S_grains N (xs (ix (b3 + 1))) mem) fun r_645 => bp (f_M_grains N (xs (ix (b3 + 1))) mem) fun r_654 => if r_645 = r_654 then f_W_law_L18 Ln xs N n (b3 + 6) mem else none else none else if ((xs (ix b3)) &&& 63) = 14 then if inb (b3 + 1) Ln = true then bd (f_S_sneeze (xs (ix (b3 + 1))) mem) fun r_668 m_668 => bd (f_M_sneeze (xs (ix (b3 + 1))) m_668) fun r_677 m_677 => if r_668 = r_677 then f_W_law_L18 Ln xs N n (b3 + 6) m_677 else none else none else if ((xs (ix b3)) &&& 63) = 15 then if inb (b3 + 1) Ln = true then if inb (b3 + 2) Ln = true then bd (f_S_behind N (xs (ix (b3 + 1))) (xs (ix (b3 + 2))) mem) fun r_696 m_696 => bd (f_M_behind N (xs (ix (b3 + 1))) (xs (ix (b3 + 2))) m_696) fun r_710 m_710 => if r_696 = r_710 then f_W_law_L18 Ln xs N n (b3 + 6) m_710 else none else none else none else if ((xs (ix b3)) &&& 63) = 16 then if inb (b3 + 1) Ln = true then bd (f_S_lacks N (xs (ix (b3 + 1))) mem) fun r_724 m_724 => bd (f_M_lacks N (xs (ix (b3 + 1))) m_724) fun r_733 m_733 => if r_724 = r_733 then f_W_law_L18 Ln xs N n (b3 + 6) m_733 else none else none else if ((xs (ix b3)) &&& 63) = 17 then if inb (b3 + 1) Ln = true then bd (f_S_dry N (xs (ix (b3 + 1))) mem) fun r_747 m_747 => bd (f_M_dry N (xs (ix (b3 + 1))) m_747) fun r_756 m_756 => if r_747 = r_756 then f_W_law_L18 Ln xs N n (b3 + 6) m_756 else none else none else if ((xs (ix b3)) &&& 63) = 18 then if inb (b3 + 1) Ln = true then if inb (b3 + 2) Ln = true then if inb (b3 + 3) Ln = true then bd (f_S_goes N (xs (ix (b3 + 1))) (xs (ix (b3 + 2))) (xs (ix (b3 + 3))) mem) fun r_780 m_780 => bd (f_M_goes N (xs (ix (b3 + 1))) (xs (ix (b3 + 2))) (xs (ix (b3 + 3))) m_780) fun r_799 m_799 => if r_780 = r_799 then f_W_law_L18 Ln xs N n (b3 + 6) m_799 else none else none else none else none else if ((xs (ix b3)) &&& 63) = 19 then if inb (b3 + 1) Ln = true then bd (f_S_blamed N (xs (ix (b3 + 1))) mem) fun r_813 m_813 => bd (f_M_blamed N (xs (ix (b3 + 1))) m_813) fun r_822 m_822 => if r_813 = r_822 then f_W_law_L18 Ln xs N n (b3 + 6) m_822 else none else none else if ((xs (ix b3)) &&& 63) = 20 then bd (f_S_never N mem) fun r_831 m_831 => bd (f_M_never N m_831) fun r_835 m_835 => if r_831 = r_835 then f_W_law_L18 Ln xs N n (b3 + 6) m_835 else none else if ((xs (ix b3)) &&& 63) = 21 then if inb (b3 + 1) Ln = true then if inb (b3 + 2) Ln = true then bd (f_S_slower N (xs (ix (b3 + 1))) (xs (ix (b3 + 2))) mem) fun r_854 m_854 => bd (f_M_slower N (xs (ix (b3 + 1))) (xs (ix (b3 + 2))) m_854) fun r_868 m_868 => if r_854 = r_868 then f_W_law_L18 Ln xs N n (b3 + 6) m_868 else none else none else none else if ((xs (ix b3)) &&& 63) = 22 then if inb (b3 + 1) Ln = true then if inb (b3 + 2) Ln = true then if inb (b3 + 3) Ln = true then bd (f_S_paced N (xs (ix (b3 + 1))) (xs (ix (b3 + 2))) (xs (ix (b3 + 3))) mem) fun r_892 m_892 => bd (f_M_paced N (xs (ix (b3 + 1))) (xs (ix (b3 + 2))) (xs (ix (b3 + 3))) m_892) fun r_911 m_911 => if r_892 = r_911 then f_W_law_L18 Ln xs N n (b3 + 6) m_911 else none else none else none else none else if ((xs (ix b3)) &&& 63) = 23 then bd (f_S_fine N mem) fun r_920 m_920 => bd (f_M_fine N m_920) fun r_924 m_924 => if r_920 = r_924 then f_W_law_L18 Ln xs N n (b3 + 6) m_924 else none else if ((xs (ix b3)) &&& 63) = 24 then if inb (b3 + 1) Ln = true then if inb (b3 + 2) Ln = true then if inb (b3 + 3) Ln = true then bd (f_S_feed N (xs (ix (b3 + 1))) (xs (ix (b3 + 2))) (xs (ix (b3 + 3))) mem) fun r_948 m_948 => bd (f_M_feed N (xs (ix (b3 + 1))) (xs (ix (b3 + 2))) (xs (ix (b3 + 3))) m_948) fun r_967 m_967 => if r_948 = r_967 then f_W_law_L18 Ln xs N n (b3 + 6) m_967 else none else none else none else none else if ((xs (ix b3)) &&& 63) = 25 then if inb (b3 + 1) Ln = true then bd (f_S_trim (xs (ix (b3 + 1))) mem) fun r_981 m_981 => bd (f_M_trim (xs (ix (b3 + 1))) m_981) fun r_990 m_990 => if r_981 = r_990 then f_W_law_L18 Ln xs N n (b3 + 6) m_990 else none else none else if ((xs (ix b3)) &&& 63) = 26 then bd (f_S_text N mem) fun r_999 m_999 => bd (f_M_text N m_999) fun r_1003 m_1003 => if r_999 = r_1003 then f_W_law_L18 Ln xs N n (b3 + 6) m_1003 else none else if ((xs (ix b3)) &&& 63) = 27 then if inb (b3 + 1) Ln = true then if inb (b3 + 2) Ln = true then bp (f_S_textTold (xs (ix (b3 + 1))) (xs (ix (b3 + 2))) mem) fun r_1022 => bp (f_M_textTold (xs (ix (b3 + 1))) (xs (ix (b3 + 2))) mem) fun r_1036 => if r_1022 = r_1036 then f_W_law_L18 Ln xs N n (b3 + 6) mem else none else none else none else if ((xs (ix b3)) &&& 63) = 28 then if inb (b3 + 1) Ln = true then bp (f_S_why (xs (ix (b3 + 1))) mem) fun r_1050 => bp (f_M_why N (xs (ix (b3 + 1))) mem) fun r_1059 => if r_1050 = r_1059 then f_W_law_L18 Ln xs N n (b3 + 6) mem else none else none else if ((xs (ix b3)) &&& 63) = 29 then if inb (b3 + 1) Ln = true then if inb (b3 + 2) Ln = true then if inb (b3 + 3) Ln = true then bd (f_S_sheet N (xs (ix (b3 + 1))) (xs (ix (b3 + 2))) (xs (ix (b3 + 3))) mem) fun r_1083 m_1083 => bd (f_M_sheet N (xs (ix (b3 + 1))) (xs (ix (b3 + 2))) (xs (ix (b3 + 3))) m_1083) fun r_1102 m_1102 => if r_1083 = r_1102 then f_W_law_L18 Ln xs N n (b3 + 6) m_1102 else none else none else none else none else if ((xs (ix b3)) &&& 63) = 30 then if inb (b3 + 1) Ln = true then if inb (b3 + 2) Ln = true then if inb (b3 + 3) Ln = true then bd (f_S_mark (xs (ix (b3 + 1))) (xs (ix (b3 + 2))) (xs (ix (b3 + 3))) mem) fun r_1126 m_1126 => bd (f_M_mark (xs (ix (b3 + 1))) (xs (ix (b3 + 2))) (xs (ix (b3 + 3))) m_1126) fun r_1145 m_1145 => if r_1126 = r_1145 then f_W_law_L18 Ln xs N n (b3 + 6) m_1145 else none else none else none else none else if ((xs (ix b3)) &&& 63) = 31 then if inb (b3 + 1) Ln = true then bd (f_S_pour N (xs (ix (b3 + 1))) mem) fun r_1159 m_1159 => bd (f_M_pour N (xs (ix (b3 + 1))) m_1159) fun r_1168 m_1168 => if r_1159 = r_1168 then f_W_law_L18 Ln xs N n (b3 + 6) m_1168 else none else none else if ((xs (ix b3)) &&& 63) = 32 then if inb (b3 + 1) Ln = true then bp (f_S_reads N (xs (ix (b3 + 1))) mem) fun r_1182 => bp (f_M_reads N (xs (ix (b3 + 1))) mem) fun r_1191 => if r_1182 = r_1191 then f_W_law_L18 Ln xs N n (b3 + 6) mem else none else none else if ((xs (ix b3)) &&& 63) = 33 then if inb (b3 + 1) Ln = true then if inb (b3 + 2) Ln = true then if inb (b3 + 3) Ln = true then if inb (b3 + 4) Ln = true then if inb (b3 + 5) Ln = true then bd (f_S_copy (xs (ix (b3 + 1))) (xs (ix (b3 + 2))) (xs (ix (b3 + 3))) (xs (ix (b3 + 4))) (xs (ix (b3 + 5))) mem) fun r_1225 m_1225 => bd (f_M_copy N (xs (ix (b3 + 1))) (xs (ix (b3 + 2))) (xs (ix (b3 + 3))) (xs (ix (b3 + 4))) (xs (ix (b3 + 5))) m_1225) fun r_1254 m_1254 => if r_1225 = r_1254 then f_W_law_L18 Ln xs N n (b3 + 6) m_1254 else none else none else none else none else none else none else if ((xs (ix b3)) &&& 63) = 34 then if inb (b3 + 1) Ln = true then if inb (b3 + 2) Ln = true then if inb (b3 + 3) Ln = true then bd (f_S_lay (xs (ix (b3 + 1))) (xs (ix (b3 + 2))) (xs (ix (b3 + 3))) mem) fun r_1278 m_1278 => bd (f_M_lay N (xs (ix (b3 + 1))) (xs (ix (b3 + 2))) (xs (ix (b3 + 3))) m_1278) fun r_1297 m_1297 => if r_1278 = r_1297 then f_W_law_L18 Ln xs N n (b3 + 6) m_1297 else none else none else none else none else if ((xs (ix b3)) &&& 63) = 35 then if inb (b3 + 1) Ln = true then if inb (b3 + 2) Ln = true then bp (f_S_ask (xs (ix (b3 + 1))) (xs (ix (b3 + 2))) mem) fun r_1316 => bp (f_M_ask (xs (ix (b3 + 1))) (xs (ix (b3 + 2))) mem) fun r_1330 => if r_1316 = r_1330 then f_W_law_L18 Ln xs N n (b3 + 6) mem else none else none else none else if ((xs (ix b3)) &&& 63) = 36 then if inb (b3 + 1) Ln = true then if inb (b3 + 2) Ln = true then bp (f_S_item (xs (ix (b3 + 1))) (xs (ix (b3 + 2))) mem) fun r_1349 => bp (f_M_item (xs (ix (b3 + 1))) (xs (ix (b3 + 2))) mem) fun r_1363 => if r_1349 = r_1363 then f_W_law_L18 Ln xs N n (b3 + 6) mem else none else none else none else if ((xs (ix b3)) &&& 63) = 37 then if inb (b3 + 1) Ln = true then if inb (b3 + 2) Ln = true then bp (f_S_rest (xs (ix (b3 + 1))) (xs (ix (b3 + 2))) mem) fun r_1382 => bp (f_M_rest (xs (ix (b3 + 1))) (xs (ix (b3 + 2))) mem) fun r_1396 => if r_1382 = r_1396 then f_W_law_L18 Ln xs N n (b3 + 6) mem else none else none else none else if ((xs (ix b3)) &&& 63) = 38 then if inb (b3 + 1) Ln = true then bd (f_S_tell (xs (ix (b3 + 1))) mem) fun r_1410 m_1410 => bd (f_M_tell (xs (ix (b3 + 1))) m_1410) fun r_1419 m_1419 => if r_1410 = r_1419 then f_W_law_L18 Ln xs N n (b3 + 6) m_1419 else none else none else if ((xs (ix b3)) &&& 63) = 39 then if inb (b3 + 1) Ln = true then bd (f_S_check N (xs (ix (b3 + 1))) mem) fun r_1433 m_1433 => bd (f_M_check N (xs (ix (b3 + 1))) m_1433) fun r_1442 m_1442 => if r_1433 = r_1442 then f_W_law_L18 Ln xs N n (b3 + 6) m_1442 else none else none else if ((xs (ix b3)) &&& 63) = 40 then bd (f_S_keep mem) fun r_1451 m_1451 => bd (f_M_keep N m_1451) fun r_1455 m_1455 => if r_1451 = r_1455 then f_W_law_L18 Ln xs N n (b3 + 6) m_1455 else none else if ((xs (ix b3)) &&& 63) = 41 then bd (f_S_back mem) fun r_1464 m_1464 => bd (f_M_back N m_1464) fun r_1468 m_1468 => if r_1464 = r_1468 then f_W_law_L18 Ln xs N n (b3 + 6) m_1468 else none else if ((xs (ix b3)) &&& 63) = 42 then if inb (b3 + 1) Ln = true then bp (f_S_count N (xs (ix (b3 + 1))) mem) fun r_1482 => bp (f_M_count N (xs (ix (b3 + 1))) mem) fun r_1491 => if r_1482 = r_1491 then f_W_law_L18 Ln xs N n (b3 + 6) mem else none else none else f_W_law_L18 Ln xs N n (b3 + 6) mem else none
set_option maxHeartbeats 40000000 in
theorem L_W_law_18 {X : Cx} {E : En} {b0 : Nat} (Ln : Nat) (xs : Nat → Int32) (hX : va_X b0 Ln xs (cxS X) (cxS X).heap) (hbl : b0 < (cxS X).heap.size) (hbA : ¬ Ab E b0) (S : Std X E code R_law 4 200) (N : Nat)   (hR : ∀ (pc : Nat) (ls : List (Nat × Value)) (mem : Mm), decode code pc = .ok (.ireturn, 1) → J X E 4 pc ls [.int 1] SH mem) : ∀ (n : Nat) (b3 : Int32) (mem : Mm), f_W_law_L18 Ln xs N n b3 mem = some () → J X E 4 18 [(0, .ref b0), (1, .ref (eb E + 0)), (2, .ref (eb E + 91)), (3, .int b3)] [] SH mem := by
  intro n
  induction n with
  | zero =>
    intro b3 mem h; cases h
  | succ n ih =>
    intro b3 mem h
    rw [f_W_law_L18] at h
    refine j_iload_n S D_W_law_18 3 rfl rfl ?_
    refine j_aload_n S D_W_law_19 0 rfl rfl ?_
    refine w_slen S hX hbl hbA D_W_law_20 ?_
    refine j_bipush S D_W_law_21 cb_6 ?_
    refine j_isub S D_W_law_23 ?_
    refine j_icmp_gt S D_W_law_24 (fun c_24 => ?_) (fun c_24 => ?_)
    · have h := ifT c_24 h
      refine j_iconst S D_W_law_1505 ci_1 ?_
      exact hR _ _ _ D_W_law_1506
    · have h := ifF c_24 h
      refine j_aload_n S D_W_law_27 0 rfl rfl ?_
      refine j_iload_n S D_W_law_28 3 rfl rfl ?_
      obtain ⟨g_29, h⟩ := gdE h
      refine w_sld S hX hbl hbA D_W_law_29 g_29 ?_
      refine j_bipush S D_W_law_30 cb_63 ?_
      refine j_iand S D_W_law_32 ?_
      by_cases c_33_0 : ((xs (ix b3)) &&& 63) = 0
      · have h := ifT c_33_0 h
        refine j_tabIn (tg := 220) (off := 187) S D_W_law_33 0 c_33_0 (by decide +kernel) ?_
        refine j_aload_n S D_W_law_220 1 rfl rfl ?_
        refine j_aload_n S D_W_law_221 0 rfl rfl ?_
        refine j_iload_n S D_W_law_222 3 rfl rfl ?_
        refine j_iconst S D_W_law_223 ci_1 ?_
        refine j_iadd S D_W_law_224 ?_
        obtain ⟨g_225, h⟩ := gdE h
        refine w_sld S hX hbl hbA D_W_law_225 g_225 ?_
        refine j_aload_n S D_W_law_226 0 rfl rfl ?_
        refine j_iload_n S D_W_law_227 3 rfl rfl ?_
        refine j_iconst S D_W_law_228 ci_2 ?_
        refine j_iadd S D_W_law_229 ?_
        obtain ⟨g_230, h⟩ := gdE h
        refine w_sld S hX hbl hbA D_W_law_230 g_230 ?_
        refine j_aload_n S D_W_law_231 0 rfl rfl ?_
        refine j_iload_n S D_W_law_232 3 rfl rfl ?_
        refine j_iconst S D_W_law_233 ci_3 ?_
        refine j_iadd S D_W_law_234 ?_
        obtain ⟨g_235, h⟩ := gdE h
        refine w_sld S hX hbl hbA D_W_law_235 g_235 ?_
        obtain ⟨r_236, m_236, e_236, h⟩ := bdE h
        refine j_callVI (As := [.int (xs (ix (b3 + 1))), .int (xs (ix (b3 + 2))), .int (xs (ix (b3 + 3)))]) S D_W_law_236 mv_R_law_13 (c_S_monk (cxL X) E (xs (ix (b3 + 1))) (xs (ix (b3 + 2))) (xs (ix (b3 + 3))) e_236) (by decide) sh_Sand rfl rfl rfl rfl (Nat.le_of_ble_eq_true rfl) ?_
        refine j_aload_n S D_W_law_239 2 rfl rfl ?_
        refine j_aload_n S D_W_law_240 0 rfl rfl ?_
        refine j_iload_n S D_W_law_241 3 rfl rfl ?_
        refine j_iconst S D_W_law_242 ci_1 ?_
        refine j_iadd S D_W_law_243 ?_
        refine w_sld S hX hbl hbA D_W_law_244 g_225 ?_
        refine j_aload_n S D_W_law_245 0 rfl rfl ?_
        refine j_iload_n S D_W_law_246 3 rfl rfl ?_
        refine j_iconst S D_W_law_247 ci_2 ?_
        refine j_iadd S D_W_law_248 ?_
        refine w_sld S hX hbl hbA D_W_law_249 g_230 ?_
        refine j_aload_n S D_W_law_250 0 rfl rfl ?_
        refine j_iload_n S D_W_law_251 3 rfl rfl ?_
        refine j_iconst S D_W_law_252 ci_3 ?_
        refine j_iadd S D_W_law_253 ?_
        refine w_sld S hX hbl hbA D_W_law_254 g_235 ?_
        obtain ⟨r_255, m_255, e_255, h⟩ := bdE h
        refine j_callVI (As := [.int (xs (ix (b3 + 1))), .int (xs (ix (b3 + 2))), .int (xs (ix (b3 + 3)))]) S D_W_law_255 mv_R_law_17 (c_M_monk (cxL X) E (xs (ix (b3 + 1))) (xs (ix (b3 + 2))) (xs (ix (b3 + 3))) e_255) (by decide) sh_Mod rfl rfl rfl rfl (Nat.le_of_ble_eq_true rfl) ?_
        refine j_icmp_eq S D_W_law_258 (fun c_258 => ?_) (fun c_258 => ?_)
        · have h := ifT c_258 h
          refine j_iinc S D_W_law_1499 3 rfl (congrArg (fun z => b3 + z) ci_6) (lv := [(3, .int (b3 + 6)), (0, .ref b0), (1, .ref (eb E + 0)), (2, .ref (eb E + 91))]) rfl (Nat.le_of_ble_eq_true rfl) ?_
          refine j_goto S D_W_law_1502 ?_
          refine j_locals [1, 2, 3, 0] rfl (ih (b3 + 6) m_255 h)
        · have h := ifF c_258 h
          refine j_iconst S D_W_law_261 ci_0 ?_
          cases h
      · have h := ifF c_33_0 h
        by_cases c_33_1 : ((xs (ix b3)) &&& 63) = 1
        · have h := ifT c_33_1 h
          refine j_tabIn (tg := 263) (off := 230) S D_W_law_33 1 c_33_1 (by decide +kernel) ?_
          refine j_aload_n S D_W_law_263 1 rfl rfl ?_
          refine j_aload_n S D_W_law_264 0 rfl rfl ?_
          refine j_iload_n S D_W_law_265 3 rfl rfl ?_
          refine j_iconst S D_W_law_266 ci_1 ?_
          refine j_iadd S D_W_law_267 ?_
          obtain ⟨g_268, h⟩ := gdE h
          refine w_sld S hX hbl hbA D_W_law_268 g_268 ?_
          refine j_aload_n S D_W_law_269 0 rfl rfl ?_
          refine j_iload_n S D_W_law_270 3 rfl rfl ?_
          refine j_iconst S D_W_law_271 ci_2 ?_
          refine j_iadd S D_W_law_272 ?_
          obtain ⟨g_273, h⟩ := gdE h
          refine w_sld S hX hbl hbA D_W_law_273 g_273 ?_
          obtain ⟨r_274, e_274, h⟩ := bpE h
          refine j_callVI (As := [.int (xs (ix (b3 + 1))), .int (xs (ix (b3 + 2)))]) S D_W_law_274 mv_R_law_18 (c_S_told (cxL X) E (xs (ix (b3 + 1))) (xs (ix (b3 + 2))) e_274) (by decide) sh_Sand rfl rfl rfl rfl (Nat.le_of_ble_eq_true rfl) ?_
          refine j_aload_n S D_W_law_277 2 rfl rfl ?_
          refine j_aload_n S D_W_law_278 0 rfl rfl ?_
          refine j_iload_n S D_W_law_279 3 rfl rfl ?_
          refine j_iconst S D_W_law_280 ci_1 ?_
          refine j_iadd S D_W_law_281 ?_
          refine w_sld S hX hbl hbA D_W_law_282 g_268 ?_
          refine j_aload_n S D_W_law_283 0 rfl rfl ?_
          refine j_iload_n S D_W_law_284 3 rfl rfl ?_
          refine j_iconst S D_W_law_285 ci_2 ?_
          refine j_iadd S D_W_law_286 ?_
          refine w_sld S hX hbl hbA D_W_law_287 g_273 ?_
          obtain ⟨r_288, e_288, h⟩ := bpE h
          refine j_callVI (As := [.int (xs (ix (b3 + 1))), .int (xs (ix (b3 + 2)))]) S D_W_law_288 mv_R_law_22 (c_M_told (cxL X) E (xs (ix (b3 + 1))) (xs (ix (b3 + 2))) e_288) (by decide) sh_Mod rfl rfl rfl rfl (Nat.le_of_ble_eq_true rfl) ?_
          refine j_icmp_eq S D_W_law_291 (fun c_291 => ?_) (fun c_291 => ?_)
          · have h := ifT c_291 h
            refine j_iinc S D_W_law_1499 3 rfl (congrArg (fun z => b3 + z) ci_6) (lv := [(3, .int (b3 + 6)), (0, .ref b0), (1, .ref (eb E + 0)), (2, .ref (eb E + 91))]) rfl (Nat.le_of_ble_eq_true rfl) ?_
            refine j_goto S D_W_law_1502 ?_
            refine j_locals [1, 2, 3, 0] rfl (ih (b3 + 6) mem h)
          · have h := ifF c_291 h
            refine j_iconst S D_W_law_294 ci_0 ?_
            cases h
        · have h := ifF c_33_1 h
          by_cases c_33_2 : ((xs (ix b3)) &&& 63) = 2
          · have h := ifT c_33_2 h
            refine j_tabIn (tg := 296) (off := 263) S D_W_law_33 2 c_33_2 (by decide +kernel) ?_
            refine j_aload_n S D_W_law_296 1 rfl rfl ?_
            refine j_aload_n S D_W_law_297 0 rfl rfl ?_
            refine j_iload_n S D_W_law_298 3 rfl rfl ?_
            refine j_iconst S D_W_law_299 ci_1 ?_
            refine j_iadd S D_W_law_300 ?_
            obtain ⟨g_301, h⟩ := gdE h
            refine w_sld S hX hbl hbA D_W_law_301 g_301 ?_
            refine j_aload_n S D_W_law_302 0 rfl rfl ?_
            refine j_iload_n S D_W_law_303 3 rfl rfl ?_
            refine j_iconst S D_W_law_304 ci_2 ?_
            refine j_iadd S D_W_law_305 ?_
            obtain ⟨g_306, h⟩ := gdE h
            refine w_sld S hX hbl hbA D_W_law_306 g_306 ?_
            refine j_aload_n S D_W_law_307 0 rfl rfl ?_
            refine j_iload_n S D_W_law_308 3 rfl rfl ?_
            refine j_iconst S D_W_law_309 ci_3 ?_
            refine j_iadd S D_W_law_310 ?_
            obtain ⟨g_311, h⟩ := gdE h
            refine w_sld S hX hbl hbA D_W_law_311 g_311 ?_
            obtain ⟨r_312, m_312, e_312, h⟩ := bdE h
            refine j_callVI (As := [.int (xs (ix (b3 + 1))), .int (xs (ix (b3 + 2))), .int (xs (ix (b3 + 3)))]) S D_W_law_312 mv_R_law_23 (c_S_does (cxL X) E N (xs (ix (b3 + 1))) (xs (ix (b3 + 2))) (xs (ix (b3 + 3))) e_312) (by decide) sh_Sand rfl rfl rfl rfl (Nat.le_of_ble_eq_true rfl) ?_
            refine j_aload_n S D_W_law_315 2 rfl rfl ?_
            refine j_aload_n S D_W_law_316 0 rfl rfl ?_
            refine j_iload_n S D_W_law_317 3 rfl rfl ?_
            refine j_iconst S D_W_law_318 ci_1 ?_
            refine j_iadd S D_W_law_319 ?_
            refine w_sld S hX hbl hbA D_W_law_320 g_301 ?_
            refine j_aload_n S D_W_law_321 0 rfl rfl ?_
            refine j_iload_n S D_W_law_322 3 rfl rfl ?_
            refine j_iconst S D_W_law_323 ci_2 ?_
            refine j_iadd S D_W_law_324 ?_
            refine w_sld S hX hbl hbA D_W_law_325 g_306 ?_
            refine j_aload_n S D_W_law_326 0 rfl rfl ?_
            refine j_iload_n S D_W_law_327 3 rfl rfl ?_
            refine j_iconst S D_W_law_328 ci_3 ?_
            refine j_iadd S D_W_law_329 ?_
            refine w_sld S hX hbl hbA D_W_law_330 g_311 ?_
            obtain ⟨r_331, m_331, e_331, h⟩ := bdE h
            refine j_callVI (As := [.int (xs (ix (b3 + 1))), .int (xs (ix (b3 + 2))), .int (xs (ix (b3 + 3)))]) S D_W_law_331 mv_R_law_26 (c_M_does (cxL X) E N (xs (ix (b3 + 1))) (xs (ix (b3 + 2))) (xs (ix (b3 + 3))) e_331) (by decide) sh_Mod rfl rfl rfl rfl (Nat.le_of_ble_eq_true rfl) ?_
            refine j_icmp_eq S D_W_law_334 (fun c_334 => ?_) (fun c_334 => ?_)
            · have h := ifT c_334 h
              refine j_iinc S D_W_law_1499 3 rfl (congrArg (fun z => b3 + z) ci_6) (lv := [(3, .int (b3 + 6)), (0, .ref b0), (1, .ref (eb E + 0)), (2, .ref (eb E + 91))]) rfl (Nat.le_of_ble_eq_true rfl) ?_
              refine j_goto S D_W_law_1502 ?_
              refine j_locals [1, 2, 3, 0] rfl (ih (b3 + 6) m_331 h)
            · have h := ifF c_334 h
              refine j_iconst S D_W_law_337 ci_0 ?_
              cases h
          · have h := ifF c_33_2 h
            by_cases c_33_3 : ((xs (ix b3)) &&& 63) = 3
            · have h := ifT c_33_3 h
              refine j_tabIn (tg := 339) (off := 306) S D_W_law_33 3 c_33_3 (by decide +kernel) ?_
              refine j_aload_n S D_W_law_339 1 rfl rfl ?_
              refine j_aload_n S D_W_law_340 0 rfl rfl ?_
              refine j_iload_n S D_W_law_341 3 rfl rfl ?_
              refine j_iconst S D_W_law_342 ci_1 ?_
              refine j_iadd S D_W_law_343 ?_
              obtain ⟨g_344, h⟩ := gdE h
              refine w_sld S hX hbl hbA D_W_law_344 g_344 ?_
              refine j_aload_n S D_W_law_345 0 rfl rfl ?_
              refine j_iload_n S D_W_law_346 3 rfl rfl ?_
              refine j_iconst S D_W_law_347 ci_2 ?_
              refine j_iadd S D_W_law_348 ?_
              obtain ⟨g_349, h⟩ := gdE h
              refine w_sld S hX hbl hbA D_W_law_349 g_349 ?_
              obtain ⟨r_350, e_350, h⟩ := bpE h
              refine j_callVI (As := [.int (xs (ix (b3 + 1))), .int (xs (ix (b3 + 2)))]) S D_W_law_350 mv_R_law_27 (c_S_as (cxL X) E (xs (ix (b3 + 1))) (xs (ix (b3 + 2))) e_350) (by decide) sh_Sand rfl rfl rfl rfl (Nat.le_of_ble_eq_true rfl) ?_
              refine j_aload_n S D_W_law_353 2 rfl rfl ?_
              refine j_aload_n S D_W_law_354 0 rfl rfl ?_
              refine j_iload_n S D_W_law_355 3 rfl rfl ?_
              refine j_iconst S D_W_law_356 ci_1 ?_
              refine j_iadd S D_W_law_357 ?_
              refine w_sld S hX hbl hbA D_W_law_358 g_344 ?_
              refine j_aload_n S D_W_law_359 0 rfl rfl ?_
              refine j_iload_n S D_W_law_360 3 rfl rfl ?_
              refine j_iconst S D_W_law_361 ci_2 ?_
              refine j_iadd S D_W_law_362 ?_
              refine w_sld S hX hbl hbA D_W_law_363 g_349 ?_
              obtain ⟨r_364, e_364, h⟩ := bpE h
              refine j_callVI (As := [.int (xs (ix (b3 + 1))), .int (xs (ix (b3 + 2)))]) S D_W_law_364 mv_R_law_30 (c_M_as (cxL X) E (xs (ix (b3 + 1))) (xs (ix (b3 + 2))) e_364) (by decide) sh_Mod rfl rfl rfl rfl (Nat.le_of_ble_eq_true rfl) ?_
              refine j_icmp_eq S D_W_law_367 (fun c_367 => ?_) (fun c_367 => ?_)
              · have h := ifT c_367 h
                refine j_iinc S D_W_law_1499 3 rfl (congrArg (fun z => b3 + z) ci_6) (lv := [(3, .int (b3 + 6)), (0, .ref b0), (1, .ref (eb E + 0)), (2, .ref (eb E + 91))]) rfl (Nat.le_of_ble_eq_true rfl) ?_
                refine j_goto S D_W_law_1502 ?_
                refine j_locals [1, 2, 3, 0] rfl (ih (b3 + 6) mem h)
              · have h := ifF c_367 h
                refine j_iconst S D_W_law_370 ci_0 ?_
                cases h
            · have h := ifF c_33_3 h
              by_cases c_33_4 : ((xs (ix b3)) &&& 63) = 4
              · have h := ifT c_33_4 h
                refine j_tabIn (tg := 372) (off := 339) S D_W_law_33 4 c_33_4 (by decide +kernel) ?_
                refine j_aload_n S D_W_law_372 1 rfl rfl ?_
                refine j_aload_n S D_W_law_373 0 rfl rfl ?_
                refine j_iload_n S D_W_law_374 3 rfl rfl ?_
                refine j_iconst S D_W_law_375 ci_1 ?_
                refine j_iadd S D_W_law_376 ?_
                obtain ⟨g_377, h⟩ := gdE h
                refine w_sld S hX hbl hbA D_W_law_377 g_377 ?_
                refine j_aload_n S D_W_law_378 0 rfl rfl ?_
                refine j_iload_n S D_W_law_379 3 rfl rfl ?_
                refine j_iconst S D_W_law_380 ci_2 ?_
                refine j_iadd S D_W_law_381 ?_
                obtain ⟨g_382, h⟩ := gdE h
                refine w_sld S hX hbl hbA D_W_law_382 g_382 ?_
                obtain ⟨r_383, m_383, e_383, h⟩ := bdE h
                refine j_callVI (As := [.int (xs (ix (b3 + 1))), .int (xs (ix (b3 + 2)))]) S D_W_law_383 mv_R_law_31 (c_S_turns (cxL X) E (xs (ix (b3 + 1))) (xs (ix (b3 + 2))) e_383) (by decide) sh_Sand rfl rfl rfl rfl (Nat.le_of_ble_eq_true rfl) ?_
                refine j_aload_n S D_W_law_386 2 rfl rfl ?_
                refine j_aload_n S D_W_law_387 0 rfl rfl ?_
                refine j_iload_n S D_W_law_388 3 rfl rfl ?_
                refine j_iconst S D_W_law_389 ci_1 ?_
                refine j_iadd S D_W_law_390 ?_
                refine w_sld S hX hbl hbA D_W_law_391 g_377 ?_
                refine j_aload_n S D_W_law_392 0 rfl rfl ?_
                refine j_iload_n S D_W_law_393 3 rfl rfl ?_
                refine j_iconst S D_W_law_394 ci_2 ?_
                refine j_iadd S D_W_law_395 ?_
                refine w_sld S hX hbl hbA D_W_law_396 g_382 ?_
                obtain ⟨r_397, m_397, e_397, h⟩ := bdE h
                refine j_callVI (As := [.int (xs (ix (b3 + 1))), .int (xs (ix (b3 + 2)))]) S D_W_law_397 mv_R_law_34 (c_M_turns (cxL X) E (xs (ix (b3 + 1))) (xs (ix (b3 + 2))) e_397) (by decide) sh_Mod rfl rfl rfl rfl (Nat.le_of_ble_eq_true rfl) ?_
                refine j_icmp_eq S D_W_law_400 (fun c_400 => ?_) (fun c_400 => ?_)
                · have h := ifT c_400 h
                  refine j_iinc S D_W_law_1499 3 rfl (congrArg (fun z => b3 + z) ci_6) (lv := [(3, .int (b3 + 6)), (0, .ref b0), (1, .ref (eb E + 0)), (2, .ref (eb E + 91))]) rfl (Nat.le_of_ble_eq_true rfl) ?_
                  refine j_goto S D_W_law_1502 ?_
                  refine j_locals [1, 2, 3, 0] rfl (ih (b3 + 6) m_397 h)
                · have h := ifF c_400 h
                  refine j_iconst S D_W_law_403 ci_0 ?_
                  cases h
              · have h := ifF c_33_4 h
                by_cases c_33_5 : ((xs (ix b3)) &&& 63) = 5
                · have h := ifT c_33_5 h
                  refine j_tabIn (tg := 405) (off := 372) S D_W_law_33 5 c_33_5 (by decide +kernel) ?_
                  refine j_aload_n S D_W_law_405 1 rfl rfl ?_
                  refine j_aload_n S D_W_law_406 0 rfl rfl ?_
                  refine j_iload_n S D_W_law_407 3 rfl rfl ?_
                  refine j_iconst S D_W_law_408 ci_1 ?_
                  refine j_iadd S D_W_law_409 ?_
                  obtain ⟨g_410, h⟩ := gdE h
                  refine w_sld S hX hbl hbA D_W_law_410 g_410 ?_
                  refine j_aload_n S D_W_law_411 0 rfl rfl ?_
                  refine j_iload_n S D_W_law_412 3 rfl rfl ?_
                  refine j_iconst S D_W_law_413 ci_2 ?_
                  refine j_iadd S D_W_law_414 ?_
                  obtain ⟨g_415, h⟩ := gdE h
                  refine w_sld S hX hbl hbA D_W_law_415 g_415 ?_
                  refine j_aload_n S D_W_law_416 0 rfl rfl ?_
                  refine j_iload_n S D_W_law_417 3 rfl rfl ?_
                  refine j_iconst S D_W_law_418 ci_3 ?_
                  refine j_iadd S D_W_law_419 ?_
                  obtain ⟨g_420, h⟩ := gdE h
                  refine w_sld S hX hbl hbA D_W_law_420 g_420 ?_
                  obtain ⟨r_421, m_421, e_421, h⟩ := bdE h
                  refine j_callVI (As := [.int (xs (ix (b3 + 1))), .int (xs (ix (b3 + 2))), .int (xs (ix (b3 + 3)))]) S D_W_law_421 mv_R_law_35 (c_S_set (cxL X) E (xs (ix (b3 + 1))) (xs (ix (b3 + 2))) (xs (ix (b3 + 3))) e_421) (by decide) sh_Sand rfl rfl rfl rfl (Nat.le_of_ble_eq_true rfl) ?_
                  refine j_aload_n S D_W_law_424 2 rfl rfl ?_
                  refine j_aload_n S D_W_law_425 0 rfl rfl ?_
                  refine j_iload_n S D_W_law_426 3 rfl rfl ?_
                  refine j_iconst S D_W_law_427 ci_1 ?_
                  refine j_iadd S D_W_law_428 ?_
                  refine w_sld S hX hbl hbA D_W_law_429 g_410 ?_
                  refine j_aload_n S D_W_law_430 0 rfl rfl ?_
                  refine j_iload_n S D_W_law_431 3 rfl rfl ?_
                  refine j_iconst S D_W_law_432 ci_2 ?_
                  refine j_iadd S D_W_law_433 ?_
                  refine w_sld S hX hbl hbA D_W_law_434 g_415 ?_
                  refine j_aload_n S D_W_law_435 0 rfl rfl ?_
                  refine j_iload_n S D_W_law_436 3 rfl rfl ?_
                  refine j_iconst S D_W_law_437 ci_3 ?_
                  refine j_iadd S D_W_law_438 ?_
                  refine w_sld S hX hbl hbA D_W_law_439 g_420 ?_
                  obtain ⟨r_440, m_440, e_440, h⟩ := bdE h
                  refine j_callVI (As := [.int (xs (ix (b3 + 1))), .int (xs (ix (b3 + 2))), .int (xs (ix (b3 + 3)))]) S D_W_law_440 mv_R_law_38 (c_M_set (cxL X) E (xs (ix (b3 + 1))) (xs (ix (b3 + 2))) (xs (ix (b3 + 3))) e_440) (by decide) sh_Mod rfl rfl rfl rfl (Nat.le_of_ble_eq_true rfl) ?_
                  refine j_icmp_eq S D_W_law_443 (fun c_443 => ?_) (fun c_443 => ?_)
                  · have h := ifT c_443 h
                    refine j_iinc S D_W_law_1499 3 rfl (congrArg (fun z => b3 + z) ci_6) (lv := [(3, .int (b3 + 6)), (0, .ref b0), (1, .ref (eb E + 0)), (2, .ref (eb E + 91))]) rfl (Nat.le_of_ble_eq_true rfl) ?_
                    refine j_goto S D_W_law_1502 ?_
                    refine j_locals [1, 2, 3, 0] rfl (ih (b3 + 6) m_440 h)
                  · have h := ifF c_443 h
                    refine j_iconst S D_W_law_446 ci_0 ?_
                    cases h
                · have h := ifF c_33_5 h
                  by_cases c_33_6 : ((xs (ix b3)) &&& 63) = 6
                  · have h := ifT c_33_6 h
                    refine j_tabIn (tg := 448) (off := 415) S D_W_law_33 6 c_33_6 (by decide +kernel) ?_
                    refine j_aload_n S D_W_law_448 1 rfl rfl ?_
                    refine j_aload_n S D_W_law_449 0 rfl rfl ?_
                    refine j_iload_n S D_W_law_450 3 rfl rfl ?_
                    refine j_iconst S D_W_law_451 ci_1 ?_
                    refine j_iadd S D_W_law_452 ?_
                    obtain ⟨g_453, h⟩ := gdE h
                    refine w_sld S hX hbl hbA D_W_law_453 g_453 ?_
                    refine j_aload_n S D_W_law_454 0 rfl rfl ?_
                    refine j_iload_n S D_W_law_455 3 rfl rfl ?_
                    refine j_iconst S D_W_law_456 ci_2 ?_
                    refine j_iadd S D_W_law_457 ?_
                    obtain ⟨g_458, h⟩ := gdE h
                    refine w_sld S hX hbl hbA D_W_law_458 g_458 ?_
                    obtain ⟨r_459, e_459, h⟩ := bpE h
                    refine j_callVI (As := [.int (xs (ix (b3 + 1))), .int (xs (ix (b3 + 2)))]) S D_W_law_459 mv_R_law_39 (c_S_table (cxL X) E (xs (ix (b3 + 1))) (xs (ix (b3 + 2))) e_459) (by decide) sh_Sand rfl rfl rfl rfl (Nat.le_of_ble_eq_true rfl) ?_
                    refine j_aload_n S D_W_law_462 2 rfl rfl ?_
                    refine j_aload_n S D_W_law_463 0 rfl rfl ?_
                    refine j_iload_n S D_W_law_464 3 rfl rfl ?_
                    refine j_iconst S D_W_law_465 ci_1 ?_
                    refine j_iadd S D_W_law_466 ?_
                    refine w_sld S hX hbl hbA D_W_law_467 g_453 ?_
                    refine j_aload_n S D_W_law_468 0 rfl rfl ?_
                    refine j_iload_n S D_W_law_469 3 rfl rfl ?_
                    refine j_iconst S D_W_law_470 ci_2 ?_
                    refine j_iadd S D_W_law_471 ?_
                    refine w_sld S hX hbl hbA D_W_law_472 g_458 ?_
                    obtain ⟨r_473, e_473, h⟩ := bpE h
                    refine j_callVI (As := [.int (xs (ix (b3 + 1))), .int (xs (ix (b3 + 2)))]) S D_W_law_473 mv_R_law_42 (c_M_table (cxL X) E (xs (ix (b3 + 1))) (xs (ix (b3 + 2))) e_473) (by decide) sh_Mod rfl rfl rfl rfl (Nat.le_of_ble_eq_true rfl) ?_
                    refine j_icmp_eq S D_W_law_476 (fun c_476 => ?_) (fun c_476 => ?_)
                    · have h := ifT c_476 h
                      refine j_iinc S D_W_law_1499 3 rfl (congrArg (fun z => b3 + z) ci_6) (lv := [(3, .int (b3 + 6)), (0, .ref b0), (1, .ref (eb E + 0)), (2, .ref (eb E + 91))]) rfl (Nat.le_of_ble_eq_true rfl) ?_
                      refine j_goto S D_W_law_1502 ?_
                      refine j_locals [1, 2, 3, 0] rfl (ih (b3 + 6) mem h)
                    · have h := ifF c_476 h
                      refine j_iconst S D_W_law_479 ci_0 ?_
                      cases h
                  · have h := ifF c_33_6 h
                    by_cases c_33_7 : ((xs (ix b3)) &&& 63) = 7
                    · have h := ifT c_33_7 h
                      refine j_tabIn (tg := 481) (off := 448) S D_W_law_33 7 c_33_7 (by decide +kernel) ?_
                      refine j_aload_n S D_W_law_481 1 rfl rfl ?_
                      refine j_aload_n S D_W_law_482 0 rfl rfl ?_
                      refine j_iload_n S D_W_law_483 3 rfl rfl ?_
                      refine j_iconst S D_W_law_484 ci_1 ?_
                      refine j_iadd S D_W_law_485 ?_
                      obtain ⟨g_486, h⟩ := gdE h
                      refine w_sld S hX hbl hbA D_W_law_486 g_486 ?_
                      refine j_aload_n S D_W_law_487 0 rfl rfl ?_
                      refine j_iload_n S D_W_law_488 3 rfl rfl ?_
                      refine j_iconst S D_W_law_489 ci_2 ?_
                      refine j_iadd S D_W_law_490 ?_
                      obtain ⟨g_491, h⟩ := gdE h
                      refine w_sld S hX hbl hbA D_W_law_491 g_491 ?_
                      obtain ⟨r_492, m_492, e_492, h⟩ := bdE h
                      refine j_callVI (As := [.int (xs (ix (b3 + 1))), .int (xs (ix (b3 + 2)))]) S D_W_law_492 mv_R_law_43 (c_S_need (cxL X) E (xs (ix (b3 + 1))) (xs (ix (b3 + 2))) e_492) (by decide) sh_Sand rfl rfl rfl rfl (Nat.le_of_ble_eq_true rfl) ?_
                      refine j_aload_n S D_W_law_495 2 rfl rfl ?_
                      refine j_aload_n S D_W_law_496 0 rfl rfl ?_
                      refine j_iload_n S D_W_law_497 3 rfl rfl ?_
                      refine j_iconst S D_W_law_498 ci_1 ?_
                      refine j_iadd S D_W_law_499 ?_
                      refine w_sld S hX hbl hbA D_W_law_500 g_486 ?_
                      refine j_aload_n S D_W_law_501 0 rfl rfl ?_
                      refine j_iload_n S D_W_law_502 3 rfl rfl ?_
                      refine j_iconst S D_W_law_503 ci_2 ?_
                      refine j_iadd S D_W_law_504 ?_
                      refine w_sld S hX hbl hbA D_W_law_505 g_491 ?_
                      obtain ⟨r_506, m_506, e_506, h⟩ := bdE h
                      refine j_callVI (As := [.int (xs (ix (b3 + 1))), .int (xs (ix (b3 + 2)))]) S D_W_law_506 mv_R_law_46 (c_M_need (cxL X) E (xs (ix (b3 + 1))) (xs (ix (b3 + 2))) e_506) (by decide) sh_Mod rfl rfl rfl rfl (Nat.le_of_ble_eq_true rfl) ?_
                      refine j_icmp_eq S D_W_law_509 (fun c_509 => ?_) (fun c_509 => ?_)
                      · have h := ifT c_509 h
                        refine j_iinc S D_W_law_1499 3 rfl (congrArg (fun z => b3 + z) ci_6) (lv := [(3, .int (b3 + 6)), (0, .ref b0), (1, .ref (eb E + 0)), (2, .ref (eb E + 91))]) rfl (Nat.le_of_ble_eq_true rfl) ?_
                        refine j_goto S D_W_law_1502 ?_
                        refine j_locals [1, 2, 3, 0] rfl (ih (b3 + 6) m_506 h)
                      · have h := ifF c_509 h
                        refine j_iconst S D_W_law_512 ci_0 ?_
                        cases h
                    · have h := ifF c_33_7 h
                      by_cases c_33_8 : ((xs (ix b3)) &&& 63) = 8
                      · have h := ifT c_33_8 h
                        refine j_tabIn (tg := 514) (off := 481) S D_W_law_33 8 c_33_8 (by decide +kernel) ?_
                        refine j_aload_n S D_W_law_514 1 rfl rfl ?_
                        refine j_aload_n S D_W_law_515 0 rfl rfl ?_
                        refine j_iload_n S D_W_law_516 3 rfl rfl ?_
                        refine j_iconst S D_W_law_517 ci_1 ?_
                        refine j_iadd S D_W_law_518 ?_
                        obtain ⟨g_519, h⟩ := gdE h
                        refine w_sld S hX hbl hbA D_W_law_519 g_519 ?_
                        refine j_aload_n S D_W_law_520 0 rfl rfl ?_
                        refine j_iload_n S D_W_law_521 3 rfl rfl ?_
                        refine j_iconst S D_W_law_522 ci_2 ?_
                        refine j_iadd S D_W_law_523 ?_
                        obtain ⟨g_524, h⟩ := gdE h
                        refine w_sld S hX hbl hbA D_W_law_524 g_524 ?_
                        obtain ⟨r_525, m_525, e_525, h⟩ := bdE h
                        refine j_callVI (As := [.int (xs (ix (b3 + 1))), .int (xs (ix (b3 + 2)))]) S D_W_law_525 mv_R_law_47 (c_S_river (cxL X) E (xs (ix (b3 + 1))) (xs (ix (b3 + 2))) e_525) (by decide) sh_Sand rfl rfl rfl rfl (Nat.le_of_ble_eq_true rfl) ?_
                        refine j_aload_n S D_W_law_528 2 rfl rfl ?_
                        refine j_aload_n S D_W_law_529 0 rfl rfl ?_
                        refine j_iload_n S D_W_law_530 3 rfl rfl ?_
                        refine j_iconst S D_W_law_531 ci_1 ?_
                        refine j_iadd S D_W_law_532 ?_
                        refine w_sld S hX hbl hbA D_W_law_533 g_519 ?_
                        refine j_aload_n S D_W_law_534 0 rfl rfl ?_
                        refine j_iload_n S D_W_law_535 3 rfl rfl ?_
                        refine j_iconst S D_W_law_536 ci_2 ?_
                        refine j_iadd S D_W_law_537 ?_
                        refine w_sld S hX hbl hbA D_W_law_538 g_524 ?_
                        obtain ⟨r_539, m_539, e_539, h⟩ := bdE h
                        refine j_callVI (As := [.int (xs (ix (b3 + 1))), .int (xs (ix (b3 + 2)))]) S D_W_law_539 mv_R_law_50 (c_M_river (cxL X) E (xs (ix (b3 + 1))) (xs (ix (b3 + 2))) e_539) (by decide) sh_Mod rfl rfl rfl rfl (Nat.le_of_ble_eq_true rfl) ?_
                        refine j_icmp_eq S D_W_law_542 (fun c_542 => ?_) (fun c_542 => ?_)
                        · have h := ifT c_542 h
                          refine j_iinc S D_W_law_1499 3 rfl (congrArg (fun z => b3 + z) ci_6) (lv := [(3, .int (b3 + 6)), (0, .ref b0), (1, .ref (eb E + 0)), (2, .ref (eb E + 91))]) rfl (Nat.le_of_ble_eq_true rfl) ?_
                          refine j_goto S D_W_law_1502 ?_
                          refine j_locals [1, 2, 3, 0] rfl (ih (b3 + 6) m_539 h)
                        · have h := ifF c_542 h
                          refine j_iconst S D_W_law_545 ci_0 ?_
                          cases h
                      · have h := ifF c_33_8 h
                        by_cases c_33_9 : ((xs (ix b3)) &&& 63) = 9
                        · have h := ifT c_33_9 h
                          refine j_tabIn (tg := 547) (off := 514) S D_W_law_33 9 c_33_9 (by decide +kernel) ?_
                          refine j_aload_n S D_W_law_547 1 rfl rfl ?_
                          refine j_aload_n S D_W_law_548 0 rfl rfl ?_
                          refine j_iload_n S D_W_law_549 3 rfl rfl ?_
                          refine j_iconst S D_W_law_550 ci_1 ?_
                          refine j_iadd S D_W_law_551 ?_
                          obtain ⟨g_552, h⟩ := gdE h
                          refine w_sld S hX hbl hbA D_W_law_552 g_552 ?_
                          obtain ⟨r_553, m_553, e_553, h⟩ := bdE h
                          refine j_callVI (As := [.int (xs (ix (b3 + 1)))]) S D_W_law_553 mv_R_law_51 (c_S_wind (cxL X) E (xs (ix (b3 + 1))) e_553) (by decide) sh_Sand rfl rfl rfl rfl (Nat.le_of_ble_eq_true rfl) ?_
                          refine j_aload_n S D_W_law_556 2 rfl rfl ?_
                          refine j_aload_n S D_W_law_557 0 rfl rfl ?_
                          refine j_iload_n S D_W_law_558 3 rfl rfl ?_
                          refine j_iconst S D_W_law_559 ci_1 ?_
                          refine j_iadd S D_W_law_560 ?_
                          refine w_sld S hX hbl hbA D_W_law_561 g_552 ?_
                          obtain ⟨r_562, m_562, e_562, h⟩ := bdE h
                          refine j_callVI (As := [.int (xs (ix (b3 + 1)))]) S D_W_law_562 mv_R_law_55 (c_M_wind (cxL X) E (xs (ix (b3 + 1))) e_562) (by decide) sh_Mod rfl rfl rfl rfl (Nat.le_of_ble_eq_true rfl) ?_
                          refine j_icmp_eq S D_W_law_565 (fun c_565 => ?_) (fun c_565 => ?_)
                          · have h := ifT c_565 h
                            refine j_iinc S D_W_law_1499 3 rfl (congrArg (fun z => b3 + z) ci_6) (lv := [(3, .int (b3 + 6)), (0, .ref b0), (1, .ref (eb E + 0)), (2, .ref (eb E + 91))]) rfl (Nat.le_of_ble_eq_true rfl) ?_
                            refine j_goto S D_W_law_1502 ?_
                            refine j_locals [1, 2, 3, 0] rfl (ih (b3 + 6) m_562 h)
                          · have h := ifF c_565 h
                            refine j_iconst S D_W_law_568 ci_0 ?_
                            cases h
                        · have h := ifF c_33_9 h
                          by_cases c_33_10 : ((xs (ix b3)) &&& 63) = 10
                          · have h := ifT c_33_10 h
                            refine j_tabIn (tg := 570) (off := 537) S D_W_law_33 10 c_33_10 (by decide +kernel) ?_
                            refine j_aload_n S D_W_law_570 1 rfl rfl ?_
                            refine j_aload_n S D_W_law_571 0 rfl rfl ?_
                            refine j_iload_n S D_W_law_572 3 rfl rfl ?_
                            refine j_iconst S D_W_law_573 ci_1 ?_
                            refine j_iadd S D_W_law_574 ?_
                            obtain ⟨g_575, h⟩ := gdE h
                            refine w_sld S hX hbl hbA D_W_law_575 g_575 ?_
                            obtain ⟨r_576, m_576, e_576, h⟩ := bdE h
                            refine j_callVI (As := [.int (xs (ix (b3 + 1)))]) S D_W_law_576 mv_R_law_56 (c_S_deal (cxL X) E N (xs (ix (b3 + 1))) e_576) (by decide) sh_Sand rfl rfl rfl rfl (Nat.le_of_ble_eq_true rfl) ?_
                            refine j_aload_n S D_W_law_579 2 rfl rfl ?_
                            refine j_aload_n S D_W_law_580 0 rfl rfl ?_
                            refine j_iload_n S D_W_law_581 3 rfl rfl ?_
                            refine j_iconst S D_W_law_582 ci_1 ?_
                            refine j_iadd S D_W_law_583 ?_
                            refine w_sld S hX hbl hbA D_W_law_584 g_575 ?_
                            obtain ⟨r_585, m_585, e_585, h⟩ := bdE h
                            refine j_callVI (As := [.int (xs (ix (b3 + 1)))]) S D_W_law_585 mv_R_law_59 (c_M_deal (cxL X) E N (xs (ix (b3 + 1))) e_585) (by decide) sh_Mod rfl rfl rfl rfl (Nat.le_of_ble_eq_true rfl) ?_
                            refine j_icmp_eq S D_W_law_588 (fun c_588 => ?_) (fun c_588 => ?_)
                            · have h := ifT c_588 h
                              refine j_iinc S D_W_law_1499 3 rfl (congrArg (fun z => b3 + z) ci_6) (lv := [(3, .int (b3 + 6)), (0, .ref b0), (1, .ref (eb E + 0)), (2, .ref (eb E + 91))]) rfl (Nat.le_of_ble_eq_true rfl) ?_
                              refine j_goto S D_W_law_1502 ?_
                              refine j_locals [1, 2, 3, 0] rfl (ih (b3 + 6) m_585 h)
                            · have h := ifF c_588 h
                              refine j_iconst S D_W_law_591 ci_0 ?_
                              cases h
                          · have h := ifF c_33_10 h
                            by_cases c_33_11 : ((xs (ix b3)) &&& 63) = 11
                            · have h := ifT c_33_11 h
                              refine j_tabIn (tg := 593) (off := 560) S D_W_law_33 11 c_33_11 (by decide +kernel) ?_
                              refine j_aload_n S D_W_law_593 1 rfl rfl ?_
                              refine j_aload_n S D_W_law_594 0 rfl rfl ?_
                              refine j_iload_n S D_W_law_595 3 rfl rfl ?_
                              refine j_iconst S D_W_law_596 ci_1 ?_
                              refine j_iadd S D_W_law_597 ?_
                              obtain ⟨g_598, h⟩ := gdE h
                              refine w_sld S hX hbl hbA D_W_law_598 g_598 ?_
                              obtain ⟨r_599, m_599, e_599, h⟩ := bdE h
                              refine j_callVI (As := [.int (xs (ix (b3 + 1)))]) S D_W_law_599 mv_R_law_60 (c_S_seed (cxL X) E (xs (ix (b3 + 1))) e_599) (by decide) sh_Sand rfl rfl rfl rfl (Nat.le_of_ble_eq_true rfl) ?_
                              refine j_aload_n S D_W_law_602 2 rfl rfl ?_
                              refine j_aload_n S D_W_law_603 0 rfl rfl ?_
                              refine j_iload_n S D_W_law_604 3 rfl rfl ?_
                              refine j_iconst S D_W_law_605 ci_1 ?_
                              refine j_iadd S D_W_law_606 ?_
                              refine w_sld S hX hbl hbA D_W_law_607 g_598 ?_
                              obtain ⟨r_608, m_608, e_608, h⟩ := bdE h
                              refine j_callVI (As := [.int (xs (ix (b3 + 1)))]) S D_W_law_608 mv_R_law_63 (c_M_seed (cxL X) E (xs (ix (b3 + 1))) e_608) (by decide) sh_Mod rfl rfl rfl rfl (Nat.le_of_ble_eq_true rfl) ?_
                              refine j_icmp_eq S D_W_law_611 (fun c_611 => ?_) (fun c_611 => ?_)
                              · have h := ifT c_611 h
                                refine j_iinc S D_W_law_1499 3 rfl (congrArg (fun z => b3 + z) ci_6) (lv := [(3, .int (b3 + 6)), (0, .ref b0), (1, .ref (eb E + 0)), (2, .ref (eb E + 91))]) rfl (Nat.le_of_ble_eq_true rfl) ?_
                                refine j_goto S D_W_law_1502 ?_
                                refine j_locals [1, 2, 3, 0] rfl (ih (b3 + 6) m_608 h)
                              · have h := ifF c_611 h
                                refine j_iconst S D_W_law_614 ci_0 ?_
                                cases h
                            · have h := ifF c_33_11 h
                              by_cases c_33_12 : ((xs (ix b3)) &&& 63) = 12
                              · have h := ifT c_33_12 h
                                refine j_tabIn (tg := 616) (off := 583) S D_W_law_33 12 c_33_12 (by decide +kernel) ?_
                                refine j_aload_n S D_W_law_616 1 rfl rfl ?_
                                refine j_aload_n S D_W_law_617 0 rfl rfl ?_
                                refine j_iload_n S D_W_law_618 3 rfl rfl ?_
                                refine j_iconst S D_W_law_619 ci_1 ?_
                                refine j_iadd S D_W_law_620 ?_
                                obtain ⟨g_621, h⟩ := gdE h
                                refine w_sld S hX hbl hbA D_W_law_621 g_621 ?_
                                obtain ⟨r_622, m_622, e_622, h⟩ := bdE h
                                refine j_callVI (As := [.int (xs (ix (b3 + 1)))]) S D_W_law_622 mv_R_law_64 (c_S_hours (cxL X) E N (xs (ix (b3 + 1))) e_622) (by decide) sh_Sand rfl rfl rfl rfl (Nat.le_of_ble_eq_true rfl) ?_
                                refine j_aload_n S D_W_law_625 2 rfl rfl ?_
                                refine j_aload_n S D_W_law_626 0 rfl rfl ?_
                                refine j_iload_n S D_W_law_627 3 rfl rfl ?_
                                refine j_iconst S D_W_law_628 ci_1 ?_
                                refine j_iadd S D_W_law_629 ?_
                                refine w_sld S hX hbl hbA D_W_law_630 g_621 ?_
                                obtain ⟨r_631, m_631, e_631, h⟩ := bdE h
                                refine j_callVI (As := [.int (xs (ix (b3 + 1)))]) S D_W_law_631 mv_R_law_67 (c_M_hours (cxL X) E N (xs (ix (b3 + 1))) e_631) (by decide) sh_Mod rfl rfl rfl rfl (Nat.le_of_ble_eq_true rfl) ?_
                                refine j_icmp_eq S D_W_law_634 (fun c_634 => ?_) (fun c_634 => ?_)
                                · have h := ifT c_634 h
                                  refine j_iinc S D_W_law_1499 3 rfl (congrArg (fun z => b3 + z) ci_6) (lv := [(3, .int (b3 + 6)), (0, .ref b0), (1, .ref (eb E + 0)), (2, .ref (eb E + 91))]) rfl (Nat.le_of_ble_eq_true rfl) ?_
                                  refine j_goto S D_W_law_1502 ?_
                                  refine j_locals [1, 2, 3, 0] rfl (ih (b3 + 6) m_631 h)
                                · have h := ifF c_634 h
                                  refine j_iconst S D_W_law_637 ci_0 ?_
                                  cases h
                              · have h := ifF c_33_12 h
                                by_cases c_33_13 : ((xs (ix b3)) &&& 63) = 13
                                · have h := ifT c_33_13 h
                                  refine j_tabIn (tg := 639) (off := 606) S D_W_law_33 13 c_33_13 (by decide +kernel) ?_
                                  refine j_aload_n S D_W_law_639 1 rfl rfl ?_
                                  refine j_aload_n S D_W_law_640 0 rfl rfl ?_
                                  refine j_iload_n S D_W_law_641 3 rfl rfl ?_
                                  refine j_iconst S D_W_law_642 ci_1 ?_
                                  refine j_iadd S D_W_law_643 ?_
                                  obtain ⟨g_644, h⟩ := gdE h
                                  refine w_sld S hX hbl hbA D_W_law_644 g_644 ?_
                                  obtain ⟨r_645, e_645, h⟩ := bpE h
                                  refine j_callVI (As := [.int (xs (ix (b3 + 1)))]) S D_W_law_645 mv_R_law_68 (c_S_grains (cxL X) E N (xs (ix (b3 + 1))) e_645) (by decide) sh_Sand rfl rfl rfl rfl (Nat.le_of_ble_eq_true rfl) ?_
                                  refine j_aload_n S D_W_law_648 2 rfl rfl ?_
                                  refine j_aload_n S D_W_law_649 0 rfl rfl ?_
                                  refine j_iload_n S D_W_law_650 3 rfl rfl ?_
                                  refine j_iconst S D_W_law_651 ci_1 ?_
                                  refine j_iadd S D_W_law_652 ?_
                                  refine w_sld S hX hbl hbA D_W_law_653 g_644 ?_
                                  obtain ⟨r_654, e_654, h⟩ := bpE h
                                  refine j_callVI (As := [.int (xs (ix (b3 + 1)))]) S D_W_law_654 mv_R_law_71 (c_M_grains (cxL X) E N (xs (ix (b3 + 1))) e_654) (by decide) sh_Mod rfl rfl rfl rfl (Nat.le_of_ble_eq_true rfl) ?_
                                  refine j_icmp_eq S D_W_law_657 (fun c_657 => ?_) (fun c_657 => ?_)
                                  · have h := ifT c_657 h
                                    refine j_iinc S D_W_law_1499 3 rfl (congrArg (fun z => b3 + z) ci_6) (lv := [(3, .int (b3 + 6)), (0, .ref b0), (1, .ref (eb E + 0)), (2, .ref (eb E + 91))]) rfl (Nat.le_of_ble_eq_true rfl) ?_
                                    refine j_goto S D_W_law_1502 ?_
                                    refine j_locals [1, 2, 3, 0] rfl (ih (b3 + 6) mem h)
                                  · have h := ifF c_657 h
                                    refine j_iconst S D_W_law_660 ci_0 ?_
                                    cases h
                                · have h := ifF c_33_13 h
                                  by_cases c_33_14 : ((xs (ix b3)) &&& 63) = 14
                                  · have h := ifT c_33_14 h
                                    refine j_tabIn (tg := 662) (off := 629) S D_W_law_33 14 c_33_14 (by decide +kernel) ?_
                                    refine j_aload_n S D_W_law_662 1 rfl rfl ?_
                                    refine j_aload_n S D_W_law_663 0 rfl rfl ?_
                                    refine j_iload_n S D_W_law_664 3 rfl rfl ?_
                                    refine j_iconst S D_W_law_665 ci_1 ?_
                                    refine j_iadd S D_W_law_666 ?_
                                    obtain ⟨g_667, h⟩ := gdE h
                                    refine w_sld S hX hbl hbA D_W_law_667 g_667 ?_
                                    obtain ⟨r_668, m_668, e_668, h⟩ := bdE h
                                    refine j_callVI (As := [.int (xs (ix (b3 + 1)))]) S D_W_law_668 mv_R_law_72 (c_S_sneeze (cxL X) E (xs (ix (b3 + 1))) e_668) (by decide) sh_Sand rfl rfl rfl rfl (Nat.le_of_ble_eq_true rfl) ?_
                                    refine j_aload_n S D_W_law_671 2 rfl rfl ?_
                                    refine j_aload_n S D_W_law_672 0 rfl rfl ?_
                                    refine j_iload_n S D_W_law_673 3 rfl rfl ?_
                                    refine j_iconst S D_W_law_674 ci_1 ?_
                                    refine j_iadd S D_W_law_675 ?_
                                    refine w_sld S hX hbl hbA D_W_law_676 g_667 ?_
                                    obtain ⟨r_677, m_677, e_677, h⟩ := bdE h
                                    refine j_callVI (As := [.int (xs (ix (b3 + 1)))]) S D_W_law_677 mv_R_law_75 (c_M_sneeze (cxL X) E (xs (ix (b3 + 1))) e_677) (by decide) sh_Mod rfl rfl rfl rfl (Nat.le_of_ble_eq_true rfl) ?_
                                    refine j_icmp_eq S D_W_law_680 (fun c_680 => ?_) (fun c_680 => ?_)
                                    · have h := ifT c_680 h
                                      refine j_iinc S D_W_law_1499 3 rfl (congrArg (fun z => b3 + z) ci_6) (lv := [(3, .int (b3 + 6)), (0, .ref b0), (1, .ref (eb E + 0)), (2, .ref (eb E + 91))]) rfl (Nat.le_of_ble_eq_true rfl) ?_
                                      refine j_goto S D_W_law_1502 ?_
                                      refine j_locals [1, 2, 3, 0] rfl (ih (b3 + 6) m_677 h)
                                    · have h := ifF c_680 h
                                      refine j_iconst S D_W_law_683 ci_0 ?_
                                      cases h
                                  · have h := ifF c_33_14 h
                                    by_cases c_33_15 : ((xs (ix b3)) &&& 63) = 15
                                    · have h := ifT c_33_15 h
                                      refine j_tabIn (tg := 685) (off := 652) S D_W_law_33 15 c_33_15 (by decide +kernel) ?_
                                      refine j_aload_n S D_W_law_685 1 rfl rfl ?_
                                      refine j_aload_n S D_W_law_686 0 rfl rfl ?_
                                      refine j_iload_n S D_W_law_687 3 rfl rfl ?_
                                      refine j_iconst S D_W_law_688 ci_1 ?_
                                      refine j_iadd S D_W_law_689 ?_
                                      obtain ⟨g_690, h⟩ := gdE h
                                      refine w_sld S hX hbl hbA D_W_law_690 g_690 ?_
                                      refine j_aload_n S D_W_law_691 0 rfl rfl ?_
                                      refine j_iload_n S D_W_law_692 3 rfl rfl ?_
                                      refine j_iconst S D_W_law_693 ci_2 ?_
                                      refine j_iadd S D_W_law_694 ?_
                                      obtain ⟨g_695, h⟩ := gdE h
                                      refine w_sld S hX hbl hbA D_W_law_695 g_695 ?_
                                      obtain ⟨r_696, m_696, e_696, h⟩ := bdE h
                                      refine j_callVI (As := [.int (xs (ix (b3 + 1))), .int (xs (ix (b3 + 2)))]) S D_W_law_696 mv_R_law_76 (c_S_behind (cxL X) E N (xs (ix (b3 + 1))) (xs (ix (b3 + 2))) e_696) (by decide) sh_Sand rfl rfl rfl rfl (Nat.le_of_ble_eq_true rfl) ?_
                                      refine j_aload_n S D_W_law_699 2 rfl rfl ?_
                                      refine j_aload_n S D_W_law_700 0 rfl rfl ?_
                                      refine j_iload_n S D_W_law_701 3 rfl rfl ?_
                                      refine j_iconst S D_W_law_702 ci_1 ?_
                                      refine j_iadd S D_W_law_703 ?_
                                      refine w_sld S hX hbl hbA D_W_law_704 g_690 ?_
                                      refine j_aload_n S D_W_law_705 0 rfl rfl ?_
                                      refine j_iload_n S D_W_law_706 3 rfl rfl ?_
                                      refine j_iconst S D_W_law_707 ci_2 ?_
                                      refine j_iadd S D_W_law_708 ?_
                                      refine w_sld S hX hbl hbA D_W_law_709 g_695 ?_
                                      obtain ⟨r_710, m_710, e_710, h⟩ := bdE h
                                      refine j_callVI (As := [.int (xs (ix (b3 + 1))), .int (xs (ix (b3 + 2)))]) S D_W_law_710 mv_R_law_79 (c_M_behind (cxL X) E N (xs (ix (b3 + 1))) (xs (ix (b3 + 2))) e_710) (by decide) sh_Mod rfl rfl rfl rfl (Nat.le_of_ble_eq_true rfl) ?_
                                      refine j_icmp_eq S D_W_law_713 (fun c_713 => ?_) (fun c_713 => ?_)
                                      · have h := ifT c_713 h
                                        refine j_iinc S D_W_law_1499 3 rfl (congrArg (fun z => b3 + z) ci_6) (lv := [(3, .int (b3 + 6)), (0, .ref b0), (1, .ref (eb E + 0)), (2, .ref (eb E + 91))]) rfl (Nat.le_of_ble_eq_true rfl) ?_
                                        refine j_goto S D_W_law_1502 ?_
                                        refine j_locals [1, 2, 3, 0] rfl (ih (b3 + 6) m_710 h)
                                      · have h := ifF c_713 h
                                        refine j_iconst S D_W_law_716 ci_0 ?_
                                        cases h
                                    · have h := ifF c_33_15 h
                                      by_cases c_33_16 : ((xs (ix b3)) &&& 63) = 16
                                      · have h := ifT c_33_16 h
                                        refine j_tabIn (tg := 718) (off := 685) S D_W_law_33 16 c_33_16 (by decide +kernel) ?_
                                        refine j_aload_n S D_W_law_718 1 rfl rfl ?_
                                        refine j_aload_n S D_W_law_719 0 rfl rfl ?_
                                        refine j_iload_n S D_W_law_720 3 rfl rfl ?_
                                        refine j_iconst S D_W_law_721 ci_1 ?_
                                        refine j_iadd S D_W_law_722 ?_
                                        obtain ⟨g_723, h⟩ := gdE h
                                        refine w_sld S hX hbl hbA D_W_law_723 g_723 ?_
                                        obtain ⟨r_724, m_724, e_724, h⟩ := bdE h
                                        refine j_callVI (As := [.int (xs (ix (b3 + 1)))]) S D_W_law_724 mv_R_law_80 (c_S_lacks (cxL X) E N (xs (ix (b3 + 1))) e_724) (by decide) sh_Sand rfl rfl rfl rfl (Nat.le_of_ble_eq_true rfl) ?_
                                        refine j_aload_n S D_W_law_727 2 rfl rfl ?_
                                        refine j_aload_n S D_W_law_728 0 rfl rfl ?_
                                        refine j_iload_n S D_W_law_729 3 rfl rfl ?_
                                        refine j_iconst S D_W_law_730 ci_1 ?_
                                        refine j_iadd S D_W_law_731 ?_
                                        refine w_sld S hX hbl hbA D_W_law_732 g_723 ?_
                                        obtain ⟨r_733, m_733, e_733, h⟩ := bdE h
                                        refine j_callVI (As := [.int (xs (ix (b3 + 1)))]) S D_W_law_733 mv_R_law_83 (c_M_lacks (cxL X) E N (xs (ix (b3 + 1))) e_733) (by decide) sh_Mod rfl rfl rfl rfl (Nat.le_of_ble_eq_true rfl) ?_
                                        refine j_icmp_eq S D_W_law_736 (fun c_736 => ?_) (fun c_736 => ?_)
                                        · have h := ifT c_736 h
                                          refine j_iinc S D_W_law_1499 3 rfl (congrArg (fun z => b3 + z) ci_6) (lv := [(3, .int (b3 + 6)), (0, .ref b0), (1, .ref (eb E + 0)), (2, .ref (eb E + 91))]) rfl (Nat.le_of_ble_eq_true rfl) ?_
                                          refine j_goto S D_W_law_1502 ?_
                                          refine j_locals [1, 2, 3, 0] rfl (ih (b3 + 6) m_733 h)
                                        · have h := ifF c_736 h
                                          refine j_iconst S D_W_law_739 ci_0 ?_
                                          cases h
                                      · have h := ifF c_33_16 h
                                        by_cases c_33_17 : ((xs (ix b3)) &&& 63) = 17
                                        · have h := ifT c_33_17 h
                                          refine j_tabIn (tg := 741) (off := 708) S D_W_law_33 17 c_33_17 (by decide +kernel) ?_
                                          refine j_aload_n S D_W_law_741 1 rfl rfl ?_
                                          refine j_aload_n S D_W_law_742 0 rfl rfl ?_
                                          refine j_iload_n S D_W_law_743 3 rfl rfl ?_
                                          refine j_iconst S D_W_law_744 ci_1 ?_
                                          refine j_iadd S D_W_law_745 ?_
                                          obtain ⟨g_746, h⟩ := gdE h
                                          refine w_sld S hX hbl hbA D_W_law_746 g_746 ?_
                                          obtain ⟨r_747, m_747, e_747, h⟩ := bdE h
                                          refine j_callVI (As := [.int (xs (ix (b3 + 1)))]) S D_W_law_747 mv_R_law_84 (c_S_dry (cxL X) E N (xs (ix (b3 + 1))) e_747) (by decide) sh_Sand rfl rfl rfl rfl (Nat.le_of_ble_eq_true rfl) ?_
                                          refine j_aload_n S D_W_law_750 2 rfl rfl ?_
                                          refine j_aload_n S D_W_law_751 0 rfl rfl ?_
                                          refine j_iload_n S D_W_law_752 3 rfl rfl ?_
                                          refine j_iconst S D_W_law_753 ci_1 ?_
                                          refine j_iadd S D_W_law_754 ?_
                                          refine w_sld S hX hbl hbA D_W_law_755 g_746 ?_
                                          obtain ⟨r_756, m_756, e_756, h⟩ := bdE h
                                          refine j_callVI (As := [.int (xs (ix (b3 + 1)))]) S D_W_law_756 mv_R_law_87 (c_M_dry (cxL X) E N (xs (ix (b3 + 1))) e_756) (by decide) sh_Mod rfl rfl rfl rfl (Nat.le_of_ble_eq_true rfl) ?_
                                          refine j_icmp_eq S D_W_law_759 (fun c_759 => ?_) (fun c_759 => ?_)
                                          · have h := ifT c_759 h
                                            refine j_iinc S D_W_law_1499 3 rfl (congrArg (fun z => b3 + z) ci_6) (lv := [(3, .int (b3 + 6)), (0, .ref b0), (1, .ref (eb E + 0)), (2, .ref (eb E + 91))]) rfl (Nat.le_of_ble_eq_true rfl) ?_
                                            refine j_goto S D_W_law_1502 ?_
                                            refine j_locals [1, 2, 3, 0] rfl (ih (b3 + 6) m_756 h)
                                          · have h := ifF c_759 h
                                            refine j_iconst S D_W_law_762 ci_0 ?_
                                            cases h
                                        · have h := ifF c_33_17 h
                                          by_cases c_33_18 : ((xs (ix b3)) &&& 63) = 18
                                          · have h := ifT c_33_18 h
                                            refine j_tabIn (tg := 764) (off := 731) S D_W_law_33 18 c_33_18 (by decide +kernel) ?_
                                            refine j_aload_n S D_W_law_764 1 rfl rfl ?_
                                            refine j_aload_n S D_W_law_765 0 rfl rfl ?_
                                            refine j_iload_n S D_W_law_766 3 rfl rfl ?_
                                            refine j_iconst S D_W_law_767 ci_1 ?_
                                            refine j_iadd S D_W_law_768 ?_
                                            obtain ⟨g_769, h⟩ := gdE h
                                            refine w_sld S hX hbl hbA D_W_law_769 g_769 ?_
                                            refine j_aload_n S D_W_law_770 0 rfl rfl ?_
                                            refine j_iload_n S D_W_law_771 3 rfl rfl ?_
                                            refine j_iconst S D_W_law_772 ci_2 ?_
                                            refine j_iadd S D_W_law_773 ?_
                                            obtain ⟨g_774, h⟩ := gdE h
                                            refine w_sld S hX hbl hbA D_W_law_774 g_774 ?_
                                            refine j_aload_n S D_W_law_775 0 rfl rfl ?_
                                            refine j_iload_n S D_W_law_776 3 rfl rfl ?_
                                            refine j_iconst S D_W_law_777 ci_3 ?_
                                            refine j_iadd S D_W_law_778 ?_
                                            obtain ⟨g_779, h⟩ := gdE h
                                            refine w_sld S hX hbl hbA D_W_law_779 g_779 ?_
                                            obtain ⟨r_780, m_780, e_780, h⟩ := bdE h
                                            refine j_callVI (As := [.int (xs (ix (b3 + 1))), .int (xs (ix (b3 + 2))), .int (xs (ix (b3 + 3)))]) S D_W_law_780 mv_R_law_88 (c_S_goes (cxL X) E N (xs (ix (b3 + 1))) (xs (ix (b3 + 2))) (xs (ix (b3 + 3))) e_780) (by decide) sh_Sand rfl rfl rfl rfl (Nat.le_of_ble_eq_true rfl) ?_
                                            refine j_aload_n S D_W_law_783 2 rfl rfl ?_
                                            refine j_aload_n S D_W_law_784 0 rfl rfl ?_
                                            refine j_iload_n S D_W_law_785 3 rfl rfl ?_
                                            refine j_iconst S D_W_law_786 ci_1 ?_
                                            refine j_iadd S D_W_law_787 ?_
                                            refine w_sld S hX hbl hbA D_W_law_788 g_769 ?_
                                            refine j_aload_n S D_W_law_789 0 rfl rfl ?_
                                            refine j_iload_n S D_W_law_790 3 rfl rfl ?_
                                            refine j_iconst S D_W_law_791 ci_2 ?_
                                            refine j_iadd S D_W_law_792 ?_
                                            refine w_sld S hX hbl hbA D_W_law_793 g_774 ?_
                                            refine j_aload_n S D_W_law_794 0 rfl rfl ?_
                                            refine j_iload_n S D_W_law_795 3 rfl rfl ?_
                                            refine j_iconst S D_W_law_796 ci_3 ?_
                                            refine j_iadd S D_W_law_797 ?_
                                            refine w_sld S hX hbl hbA D_W_law_798 g_779 ?_
                                            obtain ⟨r_799, m_799, e_799, h⟩ := bdE h
                                            refine j_callVI (As := [.int (xs (ix (b3 + 1))), .int (xs (ix (b3 + 2))), .int (xs (ix (b3 + 3)))]) S D_W_law_799 mv_R_law_91 (c_M_goes (cxL X) E N (xs (ix (b3 + 1))) (xs (ix (b3 + 2))) (xs (ix (b3 + 3))) e_799) (by decide) sh_Mod rfl rfl rfl rfl (Nat.le_of_ble_eq_true rfl) ?_
                                            refine j_icmp_eq S D_W_law_802 (fun c_802 => ?_) (fun c_802 => ?_)
                                            · have h := ifT c_802 h
                                              refine j_iinc S D_W_law_1499 3 rfl (congrArg (fun z => b3 + z) ci_6) (lv := [(3, .int (b3 + 6)), (0, .ref b0), (1, .ref (eb E + 0)), (2, .ref (eb E + 91))]) rfl (Nat.le_of_ble_eq_true rfl) ?_
                                              refine j_goto S D_W_law_1502 ?_
                                              refine j_locals [1, 2, 3, 0] rfl (ih (b3 + 6) m_799 h)
                                            · have h := ifF c_802 h
                                              refine j_iconst S D_W_law_805 ci_0 ?_
                                              cases h
                                          · have h := ifF c_33_18 h
                                            by_cases c_33_19 : ((xs (ix b3)) &&& 63) = 19
                                            · have h := ifT c_33_19 h
                                              refine j_tabIn (tg := 807) (off := 774) S D_W_law_33 19 c_33_19 (by decide +kernel) ?_
                                              refine j_aload_n S D_W_law_807 1 rfl rfl ?_
                                              refine j_aload_n S D_W_law_808 0 rfl rfl ?_
                                              refine j_iload_n S D_W_law_809 3 rfl rfl ?_
                                              refine j_iconst S D_W_law_810 ci_1 ?_
                                              refine j_iadd S D_W_law_811 ?_
                                              obtain ⟨g_812, h⟩ := gdE h
                                              refine w_sld S hX hbl hbA D_W_law_812 g_812 ?_
                                              obtain ⟨r_813, m_813, e_813, h⟩ := bdE h
                                              refine j_callVI (As := [.int (xs (ix (b3 + 1)))]) S D_W_law_813 mv_R_law_92 (c_S_blamed (cxL X) E N (xs (ix (b3 + 1))) e_813) (by decide) sh_Sand rfl rfl rfl rfl (Nat.le_of_ble_eq_true rfl) ?_
                                              refine j_aload_n S D_W_law_816 2 rfl rfl ?_
                                              refine j_aload_n S D_W_law_817 0 rfl rfl ?_
                                              refine j_iload_n S D_W_law_818 3 rfl rfl ?_
                                              refine j_iconst S D_W_law_819 ci_1 ?_
                                              refine j_iadd S D_W_law_820 ?_
                                              refine w_sld S hX hbl hbA D_W_law_821 g_812 ?_
                                              obtain ⟨r_822, m_822, e_822, h⟩ := bdE h
                                              refine j_callVI (As := [.int (xs (ix (b3 + 1)))]) S D_W_law_822 mv_R_law_95 (c_M_blamed (cxL X) E N (xs (ix (b3 + 1))) e_822) (by decide) sh_Mod rfl rfl rfl rfl (Nat.le_of_ble_eq_true rfl) ?_
                                              refine j_icmp_eq S D_W_law_825 (fun c_825 => ?_) (fun c_825 => ?_)
                                              · have h := ifT c_825 h
                                                refine j_iinc S D_W_law_1499 3 rfl (congrArg (fun z => b3 + z) ci_6) (lv := [(3, .int (b3 + 6)), (0, .ref b0), (1, .ref (eb E + 0)), (2, .ref (eb E + 91))]) rfl (Nat.le_of_ble_eq_true rfl) ?_
                                                refine j_goto S D_W_law_1502 ?_
                                                refine j_locals [1, 2, 3, 0] rfl (ih (b3 + 6) m_822 h)
                                              · have h := ifF c_825 h
                                                refine j_iconst S D_W_law_828 ci_0 ?_
                                                cases h
                                            · have h := ifF c_33_19 h
                                              by_cases c_33_20 : ((xs (ix b3)) &&& 63) = 20
                                              · have h := ifT c_33_20 h
                                                refine j_tabIn (tg := 830) (off := 797) S D_W_law_33 20 c_33_20 (by decide +kernel) ?_
                                                refine j_aload_n S D_W_law_830 1 rfl rfl ?_
                                                obtain ⟨r_831, m_831, e_831, h⟩ := bdE h
                                                refine j_callVI (As := []) S D_W_law_831 mv_R_law_96 (c_S_never (cxL X) E N e_831) (by decide) sh_Sand rfl rfl rfl rfl (Nat.le_of_ble_eq_true rfl) ?_
                                                refine j_aload_n S D_W_law_834 2 rfl rfl ?_
                                                obtain ⟨r_835, m_835, e_835, h⟩ := bdE h
                                                refine j_callVI (As := []) S D_W_law_835 mv_R_law_100 (c_M_never (cxL X) E N e_835) (by decide) sh_Mod rfl rfl rfl rfl (Nat.le_of_ble_eq_true rfl) ?_
                                                refine j_icmp_eq S D_W_law_838 (fun c_838 => ?_) (fun c_838 => ?_)
                                                · have h := ifT c_838 h
                                                  refine j_iinc S D_W_law_1499 3 rfl (congrArg (fun z => b3 + z) ci_6) (lv := [(3, .int (b3 + 6)), (0, .ref b0), (1, .ref (eb E + 0)), (2, .ref (eb E + 91))]) rfl (Nat.le_of_ble_eq_true rfl) ?_
                                                  refine j_goto S D_W_law_1502 ?_
                                                  refine j_locals [1, 2, 3, 0] rfl (ih (b3 + 6) m_835 h)
                                                · have h := ifF c_838 h
                                                  refine j_iconst S D_W_law_841 ci_0 ?_
                                                  cases h
                                              · have h := ifF c_33_20 h
                                                by_cases c_33_21 : ((xs (ix b3)) &&& 63) = 21
                                                · have h := ifT c_33_21 h
                                                  refine j_tabIn (tg := 843) (off := 810) S D_W_law_33 21 c_33_21 (by decide +kernel) ?_
                                                  refine j_aload_n S D_W_law_843 1 rfl rfl ?_
                                                  refine j_aload_n S D_W_law_844 0 rfl rfl ?_
                                                  refine j_iload_n S D_W_law_845 3 rfl rfl ?_
                                                  refine j_iconst S D_W_law_846 ci_1 ?_
                                                  refine j_iadd S D_W_law_847 ?_
                                                  obtain ⟨g_848, h⟩ := gdE h
                                                  refine w_sld S hX hbl hbA D_W_law_848 g_848 ?_
                                                  refine j_aload_n S D_W_law_849 0 rfl rfl ?_
                                                  refine j_iload_n S D_W_law_850 3 rfl rfl ?_
                                                  refine j_iconst S D_W_law_851 ci_2 ?_
                                                  refine j_iadd S D_W_law_852 ?_
                                                  obtain ⟨g_853, h⟩ := gdE h
                                                  refine w_sld S hX hbl hbA D_W_law_853 g_853 ?_
                                                  obtain ⟨r_854, m_854, e_854, h⟩ := bdE h
                                                  refine j_callVI (As := [.int (xs (ix (b3 + 1))), .int (xs (ix (b3 + 2)))]) S D_W_law_854 mv_R_law_101 (c_S_slower (cxL X) E N (xs (ix (b3 + 1))) (xs (ix (b3 + 2))) e_854) (by decide) sh_Sand rfl rfl rfl rfl (Nat.le_of_ble_eq_true rfl) ?_
                                                  refine j_aload_n S D_W_law_857 2 rfl rfl ?_
                                                  refine j_aload_n S D_W_law_858 0 rfl rfl ?_
                                                  refine j_iload_n S D_W_law_859 3 rfl rfl ?_
                                                  refine j_iconst S D_W_law_860 ci_1 ?_
                                                  refine j_iadd S D_W_law_861 ?_
                                                  refine w_sld S hX hbl hbA D_W_law_862 g_848 ?_
                                                  refine j_aload_n S D_W_law_863 0 rfl rfl ?_
                                                  refine j_iload_n S D_W_law_864 3 rfl rfl ?_
                                                  refine j_iconst S D_W_law_865 ci_2 ?_
                                                  refine j_iadd S D_W_law_866 ?_
                                                  refine w_sld S hX hbl hbA D_W_law_867 g_853 ?_
                                                  obtain ⟨r_868, m_868, e_868, h⟩ := bdE h
                                                  refine j_callVI (As := [.int (xs (ix (b3 + 1))), .int (xs (ix (b3 + 2)))]) S D_W_law_868 mv_R_law_104 (c_M_slower (cxL X) E N (xs (ix (b3 + 1))) (xs (ix (b3 + 2))) e_868) (by decide) sh_Mod rfl rfl rfl rfl (Nat.le_of_ble_eq_true rfl) ?_
                                                  refine j_icmp_eq S D_W_law_871 (fun c_871 => ?_) (fun c_871 => ?_)
                                                  · have h := ifT c_871 h
                                                    refine j_iinc S D_W_law_1499 3 rfl (congrArg (fun z => b3 + z) ci_6) (lv := [(3, .int (b3 + 6)), (0, .ref b0), (1, .ref (eb E + 0)), (2, .ref (eb E + 91))]) rfl (Nat.le_of_ble_eq_true rfl) ?_
                                                    refine j_goto S D_W_law_1502 ?_
                                                    refine j_locals [1, 2, 3, 0] rfl (ih (b3 + 6) m_868 h)
                                                  · have h := ifF c_871 h
                                                    refine j_iconst S D_W_law_874 ci_0 ?_
                                                    cases h
                                                · have h := ifF c_33_21 h
                                                  by_cases c_33_22 : ((xs (ix b3)) &&& 63) = 22
                                                  · have h := ifT c_33_22 h
                                                    refine j_tabIn (tg := 876) (off := 843) S D_W_law_33 22 c_33_22 (by decide +kernel) ?_
                                                    refine j_aload_n S D_W_law_876 1 rfl rfl ?_
                                                    refine j_aload_n S D_W_law_877 0 rfl rfl ?_
                                                    refine j_iload_n S D_W_law_878 3 rfl rfl ?_
                                                    refine j_iconst S D_W_law_879 ci_1 ?_
                                                    refine j_iadd S D_W_law_880 ?_
                                                    obtain ⟨g_881, h⟩ := gdE h
                                                    refine w_sld S hX hbl hbA D_W_law_881 g_881 ?_
                                                    refine j_aload_n S D_W_law_882 0 rfl rfl ?_
                                                    refine j_iload_n S D_W_law_883 3 rfl rfl ?_
                                                    refine j_iconst S D_W_law_884 ci_2 ?_
                                                    refine j_iadd S D_W_law_885 ?_
                                                    obtain ⟨g_886, h⟩ := gdE h
                                                    refine w_sld S hX hbl hbA D_W_law_886 g_886 ?_
                                                    refine j_aload_n S D_W_law_887 0 rfl rfl ?_
                                                    refine j_iload_n S D_W_law_888 3 rfl rfl ?_
                                                    refine j_iconst S D_W_law_889 ci_3 ?_
                                                    refine j_iadd S D_W_law_890 ?_
                                                    obtain ⟨g_891, h⟩ := gdE h
                                                    refine w_sld S hX hbl hbA D_W_law_891 g_891 ?_
                                                    obtain ⟨r_892, m_892, e_892, h⟩ := bdE h
                                                    refine j_callVI (As := [.int (xs (ix (b3 + 1))), .int (xs (ix (b3 + 2))), .int (xs (ix (b3 + 3)))]) S D_W_law_892 mv_R_law_105 (c_S_paced (cxL X) E N (xs (ix (b3 + 1))) (xs (ix (b3 + 2))) (xs (ix (b3 + 3))) e_892) (by decide) sh_Sand rfl rfl rfl rfl (Nat.le_of_ble_eq_true rfl) ?_
                                                    refine j_aload_n S D_W_law_895 2 rfl rfl ?_
                                                    refine j_aload_n S D_W_law_896 0 rfl rfl ?_
                                                    refine j_iload_n S D_W_law_897 3 rfl rfl ?_
                                                    refine j_iconst S D_W_law_898 ci_1 ?_
                                                    refine j_iadd S D_W_law_899 ?_
                                                    refine w_sld S hX hbl hbA D_W_law_900 g_881 ?_
                                                    refine j_aload_n S D_W_law_901 0 rfl rfl ?_
                                                    refine j_iload_n S D_W_law_902 3 rfl rfl ?_
                                                    refine j_iconst S D_W_law_903 ci_2 ?_
                                                    refine j_iadd S D_W_law_904 ?_
                                                    refine w_sld S hX hbl hbA D_W_law_905 g_886 ?_
                                                    refine j_aload_n S D_W_law_906 0 rfl rfl ?_
                                                    refine j_iload_n S D_W_law_907 3 rfl rfl ?_
                                                    refine j_iconst S D_W_law_908 ci_3 ?_
                                                    refine j_iadd S D_W_law_909 ?_
                                                    refine w_sld S hX hbl hbA D_W_law_910 g_891 ?_
                                                    obtain ⟨r_911, m_911, e_911, h⟩ := bdE h
                                                    refine j_callVI (As := [.int (xs (ix (b3 + 1))), .int (xs (ix (b3 + 2))), .int (xs (ix (b3 + 3)))]) S D_W_law_911 mv_R_law_108 (c_M_paced (cxL X) E N (xs (ix (b3 + 1))) (xs (ix (b3 + 2))) (xs (ix (b3 + 3))) e_911) (by decide) sh_Mod rfl rfl rfl rfl (Nat.le_of_ble_eq_true rfl) ?_
                                                    refine j_icmp_eq S D_W_law_914 (fun c_914 => ?_) (fun c_914 => ?_)
                                                    · have h := ifT c_914 h
                                                      refine j_iinc S D_W_law_1499 3 rfl (congrArg (fun z => b3 + z) ci_6) (lv := [(3, .int (b3 + 6)), (0, .ref b0), (1, .ref (eb E + 0)), (2, .ref (eb E + 91))]) rfl (Nat.le_of_ble_eq_true rfl) ?_
                                                      refine j_goto S D_W_law_1502 ?_
                                                      refine j_locals [1, 2, 3, 0] rfl (ih (b3 + 6) m_911 h)
                                                    · have h := ifF c_914 h
                                                      refine j_iconst S D_W_law_917 ci_0 ?_
                                                      cases h
                                                  · have h := ifF c_33_22 h
                                                    by_cases c_33_23 : ((xs (ix b3)) &&& 63) = 23
                                                    · have h := ifT c_33_23 h
                                                      refine j_tabIn (tg := 919) (off := 886) S D_W_law_33 23 c_33_23 (by decide +kernel) ?_
                                                      refine j_aload_n S D_W_law_919 1 rfl rfl ?_
                                                      obtain ⟨r_920, m_920, e_920, h⟩ := bdE h
                                                      refine j_callVI (As := []) S D_W_law_920 mv_R_law_109 (c_S_fine (cxL X) E N e_920) (by decide) sh_Sand rfl rfl rfl rfl (Nat.le_of_ble_eq_true rfl) ?_
                                                      refine j_aload_n S D_W_law_923 2 rfl rfl ?_
                                                      obtain ⟨r_924, m_924, e_924, h⟩ := bdE h
                                                      refine j_callVI (As := []) S D_W_law_924 mv_R_law_112 (c_M_fine (cxL X) E N e_924) (by decide) sh_Mod rfl rfl rfl rfl (Nat.le_of_ble_eq_true rfl) ?_
                                                      refine j_icmp_eq S D_W_law_927 (fun c_927 => ?_) (fun c_927 => ?_)
                                                      · have h := ifT c_927 h
                                                        refine j_iinc S D_W_law_1499 3 rfl (congrArg (fun z => b3 + z) ci_6) (lv := [(3, .int (b3 + 6)), (0, .ref b0), (1, .ref (eb E + 0)), (2, .ref (eb E + 91))]) rfl (Nat.le_of_ble_eq_true rfl) ?_
                                                        refine j_goto S D_W_law_1502 ?_
                                                        refine j_locals [1, 2, 3, 0] rfl (ih (b3 + 6) m_924 h)
                                                      · have h := ifF c_927 h
                                                        refine j_iconst S D_W_law_930 ci_0 ?_
                                                        cases h
                                                    · have h := ifF c_33_23 h
                                                      by_cases c_33_24 : ((xs (ix b3)) &&& 63) = 24
                                                      · have h := ifT c_33_24 h
                                                        refine j_tabIn (tg := 932) (off := 899) S D_W_law_33 24 c_33_24 (by decide +kernel) ?_
                                                        refine j_aload_n S D_W_law_932 1 rfl rfl ?_
                                                        refine j_aload_n S D_W_law_933 0 rfl rfl ?_
                                                        refine j_iload_n S D_W_law_934 3 rfl rfl ?_
                                                        refine j_iconst S D_W_law_935 ci_1 ?_
                                                        refine j_iadd S D_W_law_936 ?_
                                                        obtain ⟨g_937, h⟩ := gdE h
                                                        refine w_sld S hX hbl hbA D_W_law_937 g_937 ?_
                                                        refine j_aload_n S D_W_law_938 0 rfl rfl ?_
                                                        refine j_iload_n S D_W_law_939 3 rfl rfl ?_
                                                        refine j_iconst S D_W_law_940 ci_2 ?_
                                                        refine j_iadd S D_W_law_941 ?_
                                                        obtain ⟨g_942, h⟩ := gdE h
                                                        refine w_sld S hX hbl hbA D_W_law_942 g_942 ?_
                                                        refine j_aload_n S D_W_law_943 0 rfl rfl ?_
                                                        refine j_iload_n S D_W_law_944 3 rfl rfl ?_
                                                        refine j_iconst S D_W_law_945 ci_3 ?_
                                                        refine j_iadd S D_W_law_946 ?_
                                                        obtain ⟨g_947, h⟩ := gdE h
                                                        refine w_sld S hX hbl hbA D_W_law_947 g_947 ?_
                                                        obtain ⟨r_948, m_948, e_948, h⟩ := bdE h
                                                        refine j_callVI (As := [.int (xs (ix (b3 + 1))), .int (xs (ix (b3 + 2))), .int (xs (ix (b3 + 3)))]) S D_W_law_948 mv_R_law_113 (c_S_feed (cxL X) E N (xs (ix (b3 + 1))) (xs (ix (b3 + 2))) (xs (ix (b3 + 3))) e_948) (by decide) sh_Sand rfl rfl rfl rfl (Nat.le_of_ble_eq_true rfl) ?_
                                                        refine j_aload_n S D_W_law_951 2 rfl rfl ?_
                                                        refine j_aload_n S D_W_law_952 0 rfl rfl ?_
                                                        refine j_iload_n S D_W_law_953 3 rfl rfl ?_
                                                        refine j_iconst S D_W_law_954 ci_1 ?_
                                                        refine j_iadd S D_W_law_955 ?_
                                                        refine w_sld S hX hbl hbA D_W_law_956 g_937 ?_
                                                        refine j_aload_n S D_W_law_957 0 rfl rfl ?_
                                                        refine j_iload_n S D_W_law_958 3 rfl rfl ?_
                                                        refine j_iconst S D_W_law_959 ci_2 ?_
                                                        refine j_iadd S D_W_law_960 ?_
                                                        refine w_sld S hX hbl hbA D_W_law_961 g_942 ?_
                                                        refine j_aload_n S D_W_law_962 0 rfl rfl ?_
                                                        refine j_iload_n S D_W_law_963 3 rfl rfl ?_
                                                        refine j_iconst S D_W_law_964 ci_3 ?_
                                                        refine j_iadd S D_W_law_965 ?_
                                                        refine w_sld S hX hbl hbA D_W_law_966 g_947 ?_
                                                        obtain ⟨r_967, m_967, e_967, h⟩ := bdE h
                                                        refine j_callVI (As := [.int (xs (ix (b3 + 1))), .int (xs (ix (b3 + 2))), .int (xs (ix (b3 + 3)))]) S D_W_law_967 mv_R_law_116 (c_M_feed (cxL X) E N (xs (ix (b3 + 1))) (xs (ix (b3 + 2))) (xs (ix (b3 + 3))) e_967) (by decide) sh_Mod rfl rfl rfl rfl (Nat.le_of_ble_eq_true rfl) ?_
                                                        refine j_icmp_eq S D_W_law_970 (fun c_970 => ?_) (fun c_970 => ?_)
                                                        · have h := ifT c_970 h
                                                          refine j_iinc S D_W_law_1499 3 rfl (congrArg (fun z => b3 + z) ci_6) (lv := [(3, .int (b3 + 6)), (0, .ref b0), (1, .ref (eb E + 0)), (2, .ref (eb E + 91))]) rfl (Nat.le_of_ble_eq_true rfl) ?_
                                                          refine j_goto S D_W_law_1502 ?_
                                                          refine j_locals [1, 2, 3, 0] rfl (ih (b3 + 6) m_967 h)
                                                        · have h := ifF c_970 h
                                                          refine j_iconst S D_W_law_973 ci_0 ?_
                                                          cases h
                                                      · have h := ifF c_33_24 h
                                                        by_cases c_33_25 : ((xs (ix b3)) &&& 63) = 25
                                                        · have h := ifT c_33_25 h
                                                          refine j_tabIn (tg := 975) (off := 942) S D_W_law_33 25 c_33_25 (by decide +kernel) ?_
                                                          refine j_aload_n S D_W_law_975 1 rfl rfl ?_
                                                          refine j_aload_n S D_W_law_976 0 rfl rfl ?_
                                                          refine j_iload_n S D_W_law_977 3 rfl rfl ?_
                                                          refine j_iconst S D_W_law_978 ci_1 ?_
                                                          refine j_iadd S D_W_law_979 ?_
                                                          obtain ⟨g_980, h⟩ := gdE h
                                                          refine w_sld S hX hbl hbA D_W_law_980 g_980 ?_
                                                          obtain ⟨r_981, m_981, e_981, h⟩ := bdE h
                                                          refine j_callVI (As := [.int (xs (ix (b3 + 1)))]) S D_W_law_981 mv_R_law_117 (c_S_trim (cxL X) E (xs (ix (b3 + 1))) e_981) (by decide) sh_Sand rfl rfl rfl rfl (Nat.le_of_ble_eq_true rfl) ?_
                                                          refine j_aload_n S D_W_law_984 2 rfl rfl ?_
                                                          refine j_aload_n S D_W_law_985 0 rfl rfl ?_
                                                          refine j_iload_n S D_W_law_986 3 rfl rfl ?_
                                                          refine j_iconst S D_W_law_987 ci_1 ?_
                                                          refine j_iadd S D_W_law_988 ?_
                                                          refine w_sld S hX hbl hbA D_W_law_989 g_980 ?_
                                                          obtain ⟨r_990, m_990, e_990, h⟩ := bdE h
                                                          refine j_callVI (As := [.int (xs (ix (b3 + 1)))]) S D_W_law_990 mv_R_law_120 (c_M_trim (cxL X) E (xs (ix (b3 + 1))) e_990) (by decide) sh_Mod rfl rfl rfl rfl (Nat.le_of_ble_eq_true rfl) ?_
                                                          refine j_icmp_eq S D_W_law_993 (fun c_993 => ?_) (fun c_993 => ?_)
                                                          · have h := ifT c_993 h
                                                            refine j_iinc S D_W_law_1499 3 rfl (congrArg (fun z => b3 + z) ci_6) (lv := [(3, .int (b3 + 6)), (0, .ref b0), (1, .ref (eb E + 0)), (2, .ref (eb E + 91))]) rfl (Nat.le_of_ble_eq_true rfl) ?_
                                                            refine j_goto S D_W_law_1502 ?_
                                                            refine j_locals [1, 2, 3, 0] rfl (ih (b3 + 6) m_990 h)
                                                          · have h := ifF c_993 h
                                                            refine j_iconst S D_W_law_996 ci_0 ?_
                                                            cases h
                                                        · have h := ifF c_33_25 h
                                                          by_cases c_33_26 : ((xs (ix b3)) &&& 63) = 26
                                                          · have h := ifT c_33_26 h
                                                            refine j_tabIn (tg := 998) (off := 965) S D_W_law_33 26 c_33_26 (by decide +kernel) ?_
                                                            refine j_aload_n S D_W_law_998 1 rfl rfl ?_
                                                            obtain ⟨r_999, m_999, e_999, h⟩ := bdE h
                                                            refine j_callVI (As := []) S D_W_law_999 mv_R_law_121 (c_S_text (cxL X) E N e_999) (by decide) sh_Sand rfl rfl rfl rfl (Nat.le_of_ble_eq_true rfl) ?_
                                                            refine j_aload_n S D_W_law_1002 2 rfl rfl ?_
                                                            obtain ⟨r_1003, m_1003, e_1003, h⟩ := bdE h
                                                            refine j_callVI (As := []) S D_W_law_1003 mv_R_law_124 (c_M_text (cxL X) E N e_1003) (by decide) sh_Mod rfl rfl rfl rfl (Nat.le_of_ble_eq_true rfl) ?_
                                                            refine j_icmp_eq S D_W_law_1006 (fun c_1006 => ?_) (fun c_1006 => ?_)
                                                            · have h := ifT c_1006 h
                                                              refine j_iinc S D_W_law_1499 3 rfl (congrArg (fun z => b3 + z) ci_6) (lv := [(3, .int (b3 + 6)), (0, .ref b0), (1, .ref (eb E + 0)), (2, .ref (eb E + 91))]) rfl (Nat.le_of_ble_eq_true rfl) ?_
                                                              refine j_goto S D_W_law_1502 ?_
                                                              refine j_locals [1, 2, 3, 0] rfl (ih (b3 + 6) m_1003 h)
                                                            · have h := ifF c_1006 h
                                                              refine j_iconst S D_W_law_1009 ci_0 ?_
                                                              cases h
                                                          · have h := ifF c_33_26 h
                                                            by_cases c_33_27 : ((xs (ix b3)) &&& 63) = 27
                                                            · have h := ifT c_33_27 h
                                                              refine j_tabIn (tg := 1011) (off := 978) S D_W_law_33 27 c_33_27 (by decide +kernel) ?_
                                                              refine j_aload_n S D_W_law_1011 1 rfl rfl ?_
                                                              refine j_aload_n S D_W_law_1012 0 rfl rfl ?_
                                                              refine j_iload_n S D_W_law_1013 3 rfl rfl ?_
                                                              refine j_iconst S D_W_law_1014 ci_1 ?_
                                                              refine j_iadd S D_W_law_1015 ?_
                                                              obtain ⟨g_1016, h⟩ := gdE h
                                                              refine w_sld S hX hbl hbA D_W_law_1016 g_1016 ?_
                                                              refine j_aload_n S D_W_law_1017 0 rfl rfl ?_
                                                              refine j_iload_n S D_W_law_1018 3 rfl rfl ?_
                                                              refine j_iconst S D_W_law_1019 ci_2 ?_
                                                              refine j_iadd S D_W_law_1020 ?_
                                                              obtain ⟨g_1021, h⟩ := gdE h
                                                              refine w_sld S hX hbl hbA D_W_law_1021 g_1021 ?_
                                                              obtain ⟨r_1022, e_1022, h⟩ := bpE h
                                                              refine j_callVI (As := [.int (xs (ix (b3 + 1))), .int (xs (ix (b3 + 2)))]) S D_W_law_1022 mv_R_law_125 (c_S_textTold (cxL X) E (xs (ix (b3 + 1))) (xs (ix (b3 + 2))) e_1022) (by decide) sh_Sand rfl rfl rfl rfl (Nat.le_of_ble_eq_true rfl) ?_
                                                              refine j_aload_n S D_W_law_1025 2 rfl rfl ?_
                                                              refine j_aload_n S D_W_law_1026 0 rfl rfl ?_
                                                              refine j_iload_n S D_W_law_1027 3 rfl rfl ?_
                                                              refine j_iconst S D_W_law_1028 ci_1 ?_
                                                              refine j_iadd S D_W_law_1029 ?_
                                                              refine w_sld S hX hbl hbA D_W_law_1030 g_1016 ?_
                                                              refine j_aload_n S D_W_law_1031 0 rfl rfl ?_
                                                              refine j_iload_n S D_W_law_1032 3 rfl rfl ?_
                                                              refine j_iconst S D_W_law_1033 ci_2 ?_
                                                              refine j_iadd S D_W_law_1034 ?_
                                                              refine w_sld S hX hbl hbA D_W_law_1035 g_1021 ?_
                                                              obtain ⟨r_1036, e_1036, h⟩ := bpE h
                                                              refine j_callVI (As := [.int (xs (ix (b3 + 1))), .int (xs (ix (b3 + 2)))]) S D_W_law_1036 mv_R_law_128 (c_M_textTold (cxL X) E (xs (ix (b3 + 1))) (xs (ix (b3 + 2))) e_1036) (by decide) sh_Mod rfl rfl rfl rfl (Nat.le_of_ble_eq_true rfl) ?_
                                                              refine j_icmp_eq S D_W_law_1039 (fun c_1039 => ?_) (fun c_1039 => ?_)
                                                              · have h := ifT c_1039 h
                                                                refine j_iinc S D_W_law_1499 3 rfl (congrArg (fun z => b3 + z) ci_6) (lv := [(3, .int (b3 + 6)), (0, .ref b0), (1, .ref (eb E + 0)), (2, .ref (eb E + 91))]) rfl (Nat.le_of_ble_eq_true rfl) ?_
                                                                refine j_goto S D_W_law_1502 ?_
                                                                refine j_locals [1, 2, 3, 0] rfl (ih (b3 + 6) mem h)
                                                              · have h := ifF c_1039 h
                                                                refine j_iconst S D_W_law_1042 ci_0 ?_
                                                                cases h
                                                            · have h := ifF c_33_27 h
                                                              by_cases c_33_28 : ((xs (ix b3)) &&& 63) = 28
                                                              · have h := ifT c_33_28 h
                                                                refine j_tabIn (tg := 1044) (off := 1011) S D_W_law_33 28 c_33_28 (by decide +kernel) ?_
                                                                refine j_aload_n S D_W_law_1044 1 rfl rfl ?_
                                                                refine j_aload_n S D_W_law_1045 0 rfl rfl ?_
                                                                refine j_iload_n S D_W_law_1046 3 rfl rfl ?_
                                                                refine j_iconst S D_W_law_1047 ci_1 ?_
                                                                refine j_iadd S D_W_law_1048 ?_
                                                                obtain ⟨g_1049, h⟩ := gdE h
                                                                refine w_sld S hX hbl hbA D_W_law_1049 g_1049 ?_
                                                                obtain ⟨r_1050, e_1050, h⟩ := bpE h
                                                                refine j_callVI (As := [.int (xs (ix (b3 + 1)))]) S D_W_law_1050 mv_R_law_129 (c_S_why (cxL X) E (xs (ix (b3 + 1))) e_1050) (by decide) sh_Sand rfl rfl rfl rfl (Nat.le_of_ble_eq_true rfl) ?_
                                                                refine j_aload_n S D_W_law_1053 2 rfl rfl ?_
                                                                refine j_aload_n S D_W_law_1054 0 rfl rfl ?_
                                                                refine j_iload_n S D_W_law_1055 3 rfl rfl ?_
                                                                refine j_iconst S D_W_law_1056 ci_1 ?_
                                                                refine j_iadd S D_W_law_1057 ?_
                                                                refine w_sld S hX hbl hbA D_W_law_1058 g_1049 ?_
                                                                obtain ⟨r_1059, e_1059, h⟩ := bpE h
                                                                refine j_callVI (As := [.int (xs (ix (b3 + 1)))]) S D_W_law_1059 mv_R_law_132 (c_M_why (cxL X) E N (xs (ix (b3 + 1))) e_1059) (by decide) sh_Mod rfl rfl rfl rfl (Nat.le_of_ble_eq_true rfl) ?_
                                                                refine j_icmp_eq S D_W_law_1062 (fun c_1062 => ?_) (fun c_1062 => ?_)
                                                                · have h := ifT c_1062 h
                                                                  refine j_iinc S D_W_law_1499 3 rfl (congrArg (fun z => b3 + z) ci_6) (lv := [(3, .int (b3 + 6)), (0, .ref b0), (1, .ref (eb E + 0)), (2, .ref (eb E + 91))]) rfl (Nat.le_of_ble_eq_true rfl) ?_
                                                                  refine j_goto S D_W_law_1502 ?_
                                                                  refine j_locals [1, 2, 3, 0] rfl (ih (b3 + 6) mem h)
                                                                · have h := ifF c_1062 h
                                                                  refine j_iconst S D_W_law_1065 ci_0 ?_
                                                                  cases h
                                                              · have h := ifF c_33_28 h
                                                                by_cases c_33_29 : ((xs (ix b3)) &&& 63) = 29
                                                                · have h := ifT c_33_29 h
                                                                  refine j_tabIn (tg := 1067) (off := 1034) S D_W_law_33 29 c_33_29 (by decide +kernel) ?_
                                                                  refine j_aload_n S D_W_law_1067 1 rfl rfl ?_
                                                                  refine j_aload_n S D_W_law_1068 0 rfl rfl ?_
                                                                  refine j_iload_n S D_W_law_1069 3 rfl rfl ?_
                                                                  refine j_iconst S D_W_law_1070 ci_1 ?_
                                                                  refine j_iadd S D_W_law_1071 ?_
                                                                  obtain ⟨g_1072, h⟩ := gdE h
                                                                  refine w_sld S hX hbl hbA D_W_law_1072 g_1072 ?_
                                                                  refine j_aload_n S D_W_law_1073 0 rfl rfl ?_
                                                                  refine j_iload_n S D_W_law_1074 3 rfl rfl ?_
                                                                  refine j_iconst S D_W_law_1075 ci_2 ?_
                                                                  refine j_iadd S D_W_law_1076 ?_
                                                                  obtain ⟨g_1077, h⟩ := gdE h
                                                                  refine w_sld S hX hbl hbA D_W_law_1077 g_1077 ?_
                                                                  refine j_aload_n S D_W_law_1078 0 rfl rfl ?_
                                                                  refine j_iload_n S D_W_law_1079 3 rfl rfl ?_
                                                                  refine j_iconst S D_W_law_1080 ci_3 ?_
                                                                  refine j_iadd S D_W_law_1081 ?_
                                                                  obtain ⟨g_1082, h⟩ := gdE h
                                                                  refine w_sld S hX hbl hbA D_W_law_1082 g_1082 ?_
                                                                  obtain ⟨r_1083, m_1083, e_1083, h⟩ := bdE h
                                                                  refine j_callVI (As := [.int (xs (ix (b3 + 1))), .int (xs (ix (b3 + 2))), .int (xs (ix (b3 + 3)))]) S D_W_law_1083 mv_R_law_133 (c_S_sheet (cxL X) E N (xs (ix (b3 + 1))) (xs (ix (b3 + 2))) (xs (ix (b3 + 3))) e_1083) (by decide) sh_Sand rfl rfl rfl rfl (Nat.le_of_ble_eq_true rfl) ?_
                                                                  refine j_aload_n S D_W_law_1086 2 rfl rfl ?_
                                                                  refine j_aload_n S D_W_law_1087 0 rfl rfl ?_
                                                                  refine j_iload_n S D_W_law_1088 3 rfl rfl ?_
                                                                  refine j_iconst S D_W_law_1089 ci_1 ?_
                                                                  refine j_iadd S D_W_law_1090 ?_
                                                                  refine w_sld S hX hbl hbA D_W_law_1091 g_1072 ?_
                                                                  refine j_aload_n S D_W_law_1092 0 rfl rfl ?_
                                                                  refine j_iload_n S D_W_law_1093 3 rfl rfl ?_
                                                                  refine j_iconst S D_W_law_1094 ci_2 ?_
                                                                  refine j_iadd S D_W_law_1095 ?_
                                                                  refine w_sld S hX hbl hbA D_W_law_1096 g_1077 ?_
                                                                  refine j_aload_n S D_W_law_1097 0 rfl rfl ?_
                                                                  refine j_iload_n S D_W_law_1098 3 rfl rfl ?_
                                                                  refine j_iconst S D_W_law_1099 ci_3 ?_
                                                                  refine j_iadd S D_W_law_1100 ?_
                                                                  refine w_sld S hX hbl hbA D_W_law_1101 g_1082 ?_
                                                                  obtain ⟨r_1102, m_1102, e_1102, h⟩ := bdE h
                                                                  refine j_callVI (As := [.int (xs (ix (b3 + 1))), .int (xs (ix (b3 + 2))), .int (xs (ix (b3 + 3)))]) S D_W_law_1102 mv_R_law_136 (c_M_sheet (cxL X) E N (xs (ix (b3 + 1))) (xs (ix (b3 + 2))) (xs (ix (b3 + 3))) e_1102) (by decide) sh_Mod rfl rfl rfl rfl (Nat.le_of_ble_eq_true rfl) ?_
                                                                  refine j_icmp_eq S D_W_law_1105 (fun c_1105 => ?_) (fun c_1105 => ?_)
                                                                  · have h := ifT c_1105 h
                                                                    refine j_iinc S D_W_law_1499 3 rfl (congrArg (fun z => b3 + z) ci_6) (lv := [(3, .int (b3 + 6)), (0, .ref b0), (1, .ref (eb E + 0)), (2, .ref (eb E + 91))]) rfl (Nat.le_of_ble_eq_true rfl) ?_
                                                                    refine j_goto S D_W_law_1502 ?_
                                                                    refine j_locals [1, 2, 3, 0] rfl (ih (b3 + 6) m_1102 h)
                                                                  · have h := ifF c_1105 h
                                                                    refine j_iconst S D_W_law_1108 ci_0 ?_
                                                                    cases h
                                                                · have h := ifF c_33_29 h
                                                                  by_cases c_33_30 : ((xs (ix b3)) &&& 63) = 30
                                                                  · have h := ifT c_33_30 h
                                                                    refine j_tabIn (tg := 1110) (off := 1077) S D_W_law_33 30 c_33_30 (by decide +kernel) ?_
                                                                    refine j_aload_n S D_W_law_1110 1 rfl rfl ?_
                                                                    refine j_aload_n S D_W_law_1111 0 rfl rfl ?_
                                                                    refine j_iload_n S D_W_law_1112 3 rfl rfl ?_
                                                                    refine j_iconst S D_W_law_1113 ci_1 ?_
                                                                    refine j_iadd S D_W_law_1114 ?_
                                                                    obtain ⟨g_1115, h⟩ := gdE h
                                                                    refine w_sld S hX hbl hbA D_W_law_1115 g_1115 ?_
                                                                    refine j_aload_n S D_W_law_1116 0 rfl rfl ?_
                                                                    refine j_iload_n S D_W_law_1117 3 rfl rfl ?_
                                                                    refine j_iconst S D_W_law_1118 ci_2 ?_
                                                                    refine j_iadd S D_W_law_1119 ?_
                                                                    obtain ⟨g_1120, h⟩ := gdE h
                                                                    refine w_sld S hX hbl hbA D_W_law_1120 g_1120 ?_
                                                                    refine j_aload_n S D_W_law_1121 0 rfl rfl ?_
                                                                    refine j_iload_n S D_W_law_1122 3 rfl rfl ?_
                                                                    refine j_iconst S D_W_law_1123 ci_3 ?_
                                                                    refine j_iadd S D_W_law_1124 ?_
                                                                    obtain ⟨g_1125, h⟩ := gdE h
                                                                    refine w_sld S hX hbl hbA D_W_law_1125 g_1125 ?_
                                                                    obtain ⟨r_1126, m_1126, e_1126, h⟩ := bdE h
                                                                    refine j_callVI (As := [.int (xs (ix (b3 + 1))), .int (xs (ix (b3 + 2))), .int (xs (ix (b3 + 3)))]) S D_W_law_1126 mv_R_law_137 (c_S_mark (cxL X) E (xs (ix (b3 + 1))) (xs (ix (b3 + 2))) (xs (ix (b3 + 3))) e_1126) (by decide) sh_Sand rfl rfl rfl rfl (Nat.le_of_ble_eq_true rfl) ?_
                                                                    refine j_aload_n S D_W_law_1129 2 rfl rfl ?_
                                                                    refine j_aload_n S D_W_law_1130 0 rfl rfl ?_
                                                                    refine j_iload_n S D_W_law_1131 3 rfl rfl ?_
                                                                    refine j_iconst S D_W_law_1132 ci_1 ?_
                                                                    refine j_iadd S D_W_law_1133 ?_
                                                                    refine w_sld S hX hbl hbA D_W_law_1134 g_1115 ?_
                                                                    refine j_aload_n S D_W_law_1135 0 rfl rfl ?_
                                                                    refine j_iload_n S D_W_law_1136 3 rfl rfl ?_
                                                                    refine j_iconst S D_W_law_1137 ci_2 ?_
                                                                    refine j_iadd S D_W_law_1138 ?_
                                                                    refine w_sld S hX hbl hbA D_W_law_1139 g_1120 ?_
                                                                    refine j_aload_n S D_W_law_1140 0 rfl rfl ?_
                                                                    refine j_iload_n S D_W_law_1141 3 rfl rfl ?_
                                                                    refine j_iconst S D_W_law_1142 ci_3 ?_
                                                                    refine j_iadd S D_W_law_1143 ?_
                                                                    refine w_sld S hX hbl hbA D_W_law_1144 g_1125 ?_
                                                                    obtain ⟨r_1145, m_1145, e_1145, h⟩ := bdE h
                                                                    refine j_callVI (As := [.int (xs (ix (b3 + 1))), .int (xs (ix (b3 + 2))), .int (xs (ix (b3 + 3)))]) S D_W_law_1145 mv_R_law_140 (c_M_mark (cxL X) E (xs (ix (b3 + 1))) (xs (ix (b3 + 2))) (xs (ix (b3 + 3))) e_1145) (by decide) sh_Mod rfl rfl rfl rfl (Nat.le_of_ble_eq_true rfl) ?_
                                                                    refine j_icmp_eq S D_W_law_1148 (fun c_1148 => ?_) (fun c_1148 => ?_)
                                                                    · have h := ifT c_1148 h
                                                                      refine j_iinc S D_W_law_1499 3 rfl (congrArg (fun z => b3 + z) ci_6) (lv := [(3, .int (b3 + 6)), (0, .ref b0), (1, .ref (eb E + 0)), (2, .ref (eb E + 91))]) rfl (Nat.le_of_ble_eq_true rfl) ?_
                                                                      refine j_goto S D_W_law_1502 ?_
                                                                      refine j_locals [1, 2, 3, 0] rfl (ih (b3 + 6) m_1145 h)
                                                                    · have h := ifF c_1148 h
                                                                      refine j_iconst S D_W_law_1151 ci_0 ?_
                                                                      cases h
                                                                  · have h := ifF c_33_30 h
                                                                    by_cases c_33_31 : ((xs (ix b3)) &&& 63) = 31
                                                                    · have h := ifT c_33_31 h
                                                                      refine j_tabIn (tg := 1153) (off := 1120) S D_W_law_33 31 c_33_31 (by decide +kernel) ?_
                                                                      refine j_aload_n S D_W_law_1153 1 rfl rfl ?_
                                                                      refine j_aload_n S D_W_law_1154 0 rfl rfl ?_
                                                                      refine j_iload_n S D_W_law_1155 3 rfl rfl ?_
                                                                      refine j_iconst S D_W_law_1156 ci_1 ?_
                                                                      refine j_iadd S D_W_law_1157 ?_
                                                                      obtain ⟨g_1158, h⟩ := gdE h
                                                                      refine w_sld S hX hbl hbA D_W_law_1158 g_1158 ?_
                                                                      obtain ⟨r_1159, m_1159, e_1159, h⟩ := bdE h
                                                                      refine j_callVI (As := [.int (xs (ix (b3 + 1)))]) S D_W_law_1159 mv_R_law_141 (c_S_pour (cxL X) E N (xs (ix (b3 + 1))) e_1159) (by decide) sh_Sand rfl rfl rfl rfl (Nat.le_of_ble_eq_true rfl) ?_
                                                                      refine j_aload_n S D_W_law_1162 2 rfl rfl ?_
                                                                      refine j_aload_n S D_W_law_1163 0 rfl rfl ?_
                                                                      refine j_iload_n S D_W_law_1164 3 rfl rfl ?_
                                                                      refine j_iconst S D_W_law_1165 ci_1 ?_
                                                                      refine j_iadd S D_W_law_1166 ?_
                                                                      refine w_sld S hX hbl hbA D_W_law_1167 g_1158 ?_
                                                                      obtain ⟨r_1168, m_1168, e_1168, h⟩ := bdE h
                                                                      refine j_callVI (As := [.int (xs (ix (b3 + 1)))]) S D_W_law_1168 mv_R_law_144 (c_M_pour (cxL X) E N (xs (ix (b3 + 1))) e_1168) (by decide) sh_Mod rfl rfl rfl rfl (Nat.le_of_ble_eq_true rfl) ?_
                                                                      refine j_icmp_eq S D_W_law_1171 (fun c_1171 => ?_) (fun c_1171 => ?_)
                                                                      · have h := ifT c_1171 h
                                                                        refine j_iinc S D_W_law_1499 3 rfl (congrArg (fun z => b3 + z) ci_6) (lv := [(3, .int (b3 + 6)), (0, .ref b0), (1, .ref (eb E + 0)), (2, .ref (eb E + 91))]) rfl (Nat.le_of_ble_eq_true rfl) ?_
                                                                        refine j_goto S D_W_law_1502 ?_
                                                                        refine j_locals [1, 2, 3, 0] rfl (ih (b3 + 6) m_1168 h)
                                                                      · have h := ifF c_1171 h
                                                                        refine j_iconst S D_W_law_1174 ci_0 ?_
                                                                        cases h
                                                                    · have h := ifF c_33_31 h
                                                                      by_cases c_33_32 : ((xs (ix b3)) &&& 63) = 32
                                                                      · have h := ifT c_33_32 h
                                                                        refine j_tabIn (tg := 1176) (off := 1143) S D_W_law_33 32 c_33_32 (by decide +kernel) ?_
                                                                        refine j_aload_n S D_W_law_1176 1 rfl rfl ?_
                                                                        refine j_aload_n S D_W_law_1177 0 rfl rfl ?_
                                                                        refine j_iload_n S D_W_law_1178 3 rfl rfl ?_
                                                                        refine j_iconst S D_W_law_1179 ci_1 ?_
                                                                        refine j_iadd S D_W_law_1180 ?_
                                                                        obtain ⟨g_1181, h⟩ := gdE h
                                                                        refine w_sld S hX hbl hbA D_W_law_1181 g_1181 ?_
                                                                        obtain ⟨r_1182, e_1182, h⟩ := bpE h
                                                                        refine j_callVI (As := [.int (xs (ix (b3 + 1)))]) S D_W_law_1182 mv_R_law_145 (c_S_reads (cxL X) E N (xs (ix (b3 + 1))) e_1182) (by decide) sh_Sand rfl rfl rfl rfl (Nat.le_of_ble_eq_true rfl) ?_
                                                                        refine j_aload_n S D_W_law_1185 2 rfl rfl ?_
                                                                        refine j_aload_n S D_W_law_1186 0 rfl rfl ?_
                                                                        refine j_iload_n S D_W_law_1187 3 rfl rfl ?_
                                                                        refine j_iconst S D_W_law_1188 ci_1 ?_
                                                                        refine j_iadd S D_W_law_1189 ?_
                                                                        refine w_sld S hX hbl hbA D_W_law_1190 g_1181 ?_
                                                                        obtain ⟨r_1191, e_1191, h⟩ := bpE h
                                                                        refine j_callVI (As := [.int (xs (ix (b3 + 1)))]) S D_W_law_1191 mv_R_law_148 (c_M_reads (cxL X) E N (xs (ix (b3 + 1))) e_1191) (by decide) sh_Mod rfl rfl rfl rfl (Nat.le_of_ble_eq_true rfl) ?_
                                                                        refine j_icmp_eq S D_W_law_1194 (fun c_1194 => ?_) (fun c_1194 => ?_)
                                                                        · have h := ifT c_1194 h
                                                                          refine j_iinc S D_W_law_1499 3 rfl (congrArg (fun z => b3 + z) ci_6) (lv := [(3, .int (b3 + 6)), (0, .ref b0), (1, .ref (eb E + 0)), (2, .ref (eb E + 91))]) rfl (Nat.le_of_ble_eq_true rfl) ?_
                                                                          refine j_goto S D_W_law_1502 ?_
                                                                          refine j_locals [1, 2, 3, 0] rfl (ih (b3 + 6) mem h)
                                                                        · have h := ifF c_1194 h
                                                                          refine j_iconst S D_W_law_1197 ci_0 ?_
                                                                          cases h
                                                                      · have h := ifF c_33_32 h
                                                                        by_cases c_33_33 : ((xs (ix b3)) &&& 63) = 33
                                                                        · have h := ifT c_33_33 h
                                                                          refine j_tabIn (tg := 1199) (off := 1166) S D_W_law_33 33 c_33_33 (by decide +kernel) ?_
                                                                          refine j_aload_n S D_W_law_1199 1 rfl rfl ?_
                                                                          refine j_aload_n S D_W_law_1200 0 rfl rfl ?_
                                                                          refine j_iload_n S D_W_law_1201 3 rfl rfl ?_
                                                                          refine j_iconst S D_W_law_1202 ci_1 ?_
                                                                          refine j_iadd S D_W_law_1203 ?_
                                                                          obtain ⟨g_1204, h⟩ := gdE h
                                                                          refine w_sld S hX hbl hbA D_W_law_1204 g_1204 ?_
                                                                          refine j_aload_n S D_W_law_1205 0 rfl rfl ?_
                                                                          refine j_iload_n S D_W_law_1206 3 rfl rfl ?_
                                                                          refine j_iconst S D_W_law_1207 ci_2 ?_
                                                                          refine j_iadd S D_W_law_1208 ?_
                                                                          obtain ⟨g_1209, h⟩ := gdE h
                                                                          refine w_sld S hX hbl hbA D_W_law_1209 g_1209 ?_
                                                                          refine j_aload_n S D_W_law_1210 0 rfl rfl ?_
                                                                          refine j_iload_n S D_W_law_1211 3 rfl rfl ?_
                                                                          refine j_iconst S D_W_law_1212 ci_3 ?_
                                                                          refine j_iadd S D_W_law_1213 ?_
                                                                          obtain ⟨g_1214, h⟩ := gdE h
                                                                          refine w_sld S hX hbl hbA D_W_law_1214 g_1214 ?_
                                                                          refine j_aload_n S D_W_law_1215 0 rfl rfl ?_
                                                                          refine j_iload_n S D_W_law_1216 3 rfl rfl ?_
                                                                          refine j_iconst S D_W_law_1217 ci_4 ?_
                                                                          refine j_iadd S D_W_law_1218 ?_
                                                                          obtain ⟨g_1219, h⟩ := gdE h
                                                                          refine w_sld S hX hbl hbA D_W_law_1219 g_1219 ?_
                                                                          refine j_aload_n S D_W_law_1220 0 rfl rfl ?_
                                                                          refine j_iload_n S D_W_law_1221 3 rfl rfl ?_
                                                                          refine j_iconst S D_W_law_1222 ci_5 ?_
                                                                          refine j_iadd S D_W_law_1223 ?_
                                                                          obtain ⟨g_1224, h⟩ := gdE h
                                                                          refine w_sld S hX hbl hbA D_W_law_1224 g_1224 ?_
                                                                          obtain ⟨r_1225, m_1225, e_1225, h⟩ := bdE h
                                                                          refine j_callVI (As := [.int (xs (ix (b3 + 1))), .int (xs (ix (b3 + 2))), .int (xs (ix (b3 + 3))), .int (xs (ix (b3 + 4))), .int (xs (ix (b3 + 5)))]) S D_W_law_1225 mv_R_law_149 (c_S_copy (cxL X) E (xs (ix (b3 + 1))) (xs (ix (b3 + 2))) (xs (ix (b3 + 3))) (xs (ix (b3 + 4))) (xs (ix (b3 + 5))) e_1225) (by decide) sh_Sand rfl rfl rfl rfl (Nat.le_of_ble_eq_true rfl) ?_
                                                                          refine j_aload_n S D_W_law_1228 2 rfl rfl ?_
                                                                          refine j_aload_n S D_W_law_1229 0 rfl rfl ?_
                                                                          refine j_iload_n S D_W_law_1230 3 rfl rfl ?_
                                                                          refine j_iconst S D_W_law_1231 ci_1 ?_
                                                                          refine j_iadd S D_W_law_1232 ?_
                                                                          refine w_sld S hX hbl hbA D_W_law_1233 g_1204 ?_
                                                                          refine j_aload_n S D_W_law_1234 0 rfl rfl ?_
                                                                          refine j_iload_n S D_W_law_1235 3 rfl rfl ?_
                                                                          refine j_iconst S D_W_law_1236 ci_2 ?_
                                                                          refine j_iadd S D_W_law_1237 ?_
                                                                          refine w_sld S hX hbl hbA D_W_law_1238 g_1209 ?_
                                                                          refine j_aload_n S D_W_law_1239 0 rfl rfl ?_
                                                                          refine j_iload_n S D_W_law_1240 3 rfl rfl ?_
                                                                          refine j_iconst S D_W_law_1241 ci_3 ?_
                                                                          refine j_iadd S D_W_law_1242 ?_
                                                                          refine w_sld S hX hbl hbA D_W_law_1243 g_1214 ?_
                                                                          refine j_aload_n S D_W_law_1244 0 rfl rfl ?_
                                                                          refine j_iload_n S D_W_law_1245 3 rfl rfl ?_
                                                                          refine j_iconst S D_W_law_1246 ci_4 ?_
                                                                          refine j_iadd S D_W_law_1247 ?_
                                                                          refine w_sld S hX hbl hbA D_W_law_1248 g_1219 ?_
                                                                          refine j_aload_n S D_W_law_1249 0 rfl rfl ?_
                                                                          refine j_iload_n S D_W_law_1250 3 rfl rfl ?_
                                                                          refine j_iconst S D_W_law_1251 ci_5 ?_
                                                                          refine j_iadd S D_W_law_1252 ?_
                                                                          refine w_sld S hX hbl hbA D_W_law_1253 g_1224 ?_
                                                                          obtain ⟨r_1254, m_1254, e_1254, h⟩ := bdE h
                                                                          refine j_callVI (As := [.int (xs (ix (b3 + 1))), .int (xs (ix (b3 + 2))), .int (xs (ix (b3 + 3))), .int (xs (ix (b3 + 4))), .int (xs (ix (b3 + 5)))]) S D_W_law_1254 mv_R_law_153 (c_M_copy (cxL X) E N (xs (ix (b3 + 1))) (xs (ix (b3 + 2))) (xs (ix (b3 + 3))) (xs (ix (b3 + 4))) (xs (ix (b3 + 5))) e_1254) (by decide) sh_Mod rfl rfl rfl rfl (Nat.le_of_ble_eq_true rfl) ?_
                                                                          refine j_icmp_eq S D_W_law_1257 (fun c_1257 => ?_) (fun c_1257 => ?_)
                                                                          · have h := ifT c_1257 h
                                                                            refine j_iinc S D_W_law_1499 3 rfl (congrArg (fun z => b3 + z) ci_6) (lv := [(3, .int (b3 + 6)), (0, .ref b0), (1, .ref (eb E + 0)), (2, .ref (eb E + 91))]) rfl (Nat.le_of_ble_eq_true rfl) ?_
                                                                            refine j_goto S D_W_law_1502 ?_
                                                                            refine j_locals [1, 2, 3, 0] rfl (ih (b3 + 6) m_1254 h)
                                                                          · have h := ifF c_1257 h
                                                                            refine j_iconst S D_W_law_1260 ci_0 ?_
                                                                            cases h
                                                                        · have h := ifF c_33_33 h
                                                                          by_cases c_33_34 : ((xs (ix b3)) &&& 63) = 34
                                                                          · have h := ifT c_33_34 h
                                                                            refine j_tabIn (tg := 1262) (off := 1229) S D_W_law_33 34 c_33_34 (by decide +kernel) ?_
                                                                            refine j_aload_n S D_W_law_1262 1 rfl rfl ?_
                                                                            refine j_aload_n S D_W_law_1263 0 rfl rfl ?_
                                                                            refine j_iload_n S D_W_law_1264 3 rfl rfl ?_
                                                                            refine j_iconst S D_W_law_1265 ci_1 ?_
                                                                            refine j_iadd S D_W_law_1266 ?_
                                                                            obtain ⟨g_1267, h⟩ := gdE h
                                                                            refine w_sld S hX hbl hbA D_W_law_1267 g_1267 ?_
                                                                            refine j_aload_n S D_W_law_1268 0 rfl rfl ?_
                                                                            refine j_iload_n S D_W_law_1269 3 rfl rfl ?_
                                                                            refine j_iconst S D_W_law_1270 ci_2 ?_
                                                                            refine j_iadd S D_W_law_1271 ?_
                                                                            obtain ⟨g_1272, h⟩ := gdE h
                                                                            refine w_sld S hX hbl hbA D_W_law_1272 g_1272 ?_
                                                                            refine j_aload_n S D_W_law_1273 0 rfl rfl ?_
                                                                            refine j_iload_n S D_W_law_1274 3 rfl rfl ?_
                                                                            refine j_iconst S D_W_law_1275 ci_3 ?_
                                                                            refine j_iadd S D_W_law_1276 ?_
                                                                            obtain ⟨g_1277, h⟩ := gdE h
                                                                            refine w_sld S hX hbl hbA D_W_law_1277 g_1277 ?_
                                                                            obtain ⟨r_1278, m_1278, e_1278, h⟩ := bdE h
                                                                            refine j_callVI (As := [.int (xs (ix (b3 + 1))), .int (xs (ix (b3 + 2))), .int (xs (ix (b3 + 3)))]) S D_W_law_1278 mv_R_law_154 (c_S_lay (cxL X) E (xs (ix (b3 + 1))) (xs (ix (b3 + 2))) (xs (ix (b3 + 3))) e_1278) (by decide) sh_Sand rfl rfl rfl rfl (Nat.le_of_ble_eq_true rfl) ?_
                                                                            refine j_aload_n S D_W_law_1281 2 rfl rfl ?_
                                                                            refine j_aload_n S D_W_law_1282 0 rfl rfl ?_
                                                                            refine j_iload_n S D_W_law_1283 3 rfl rfl ?_
                                                                            refine j_iconst S D_W_law_1284 ci_1 ?_
                                                                            refine j_iadd S D_W_law_1285 ?_
                                                                            refine w_sld S hX hbl hbA D_W_law_1286 g_1267 ?_
                                                                            refine j_aload_n S D_W_law_1287 0 rfl rfl ?_
                                                                            refine j_iload_n S D_W_law_1288 3 rfl rfl ?_
                                                                            refine j_iconst S D_W_law_1289 ci_2 ?_
                                                                            refine j_iadd S D_W_law_1290 ?_
                                                                            refine w_sld S hX hbl hbA D_W_law_1291 g_1272 ?_
                                                                            refine j_aload_n S D_W_law_1292 0 rfl rfl ?_
                                                                            refine j_iload_n S D_W_law_1293 3 rfl rfl ?_
                                                                            refine j_iconst S D_W_law_1294 ci_3 ?_
                                                                            refine j_iadd S D_W_law_1295 ?_
                                                                            refine w_sld S hX hbl hbA D_W_law_1296 g_1277 ?_
                                                                            obtain ⟨r_1297, m_1297, e_1297, h⟩ := bdE h
                                                                            refine j_callVI (As := [.int (xs (ix (b3 + 1))), .int (xs (ix (b3 + 2))), .int (xs (ix (b3 + 3)))]) S D_W_law_1297 mv_R_law_157 (c_M_lay (cxL X) E N (xs (ix (b3 + 1))) (xs (ix (b3 + 2))) (xs (ix (b3 + 3))) e_1297) (by decide) sh_Mod rfl rfl rfl rfl (Nat.le_of_ble_eq_true rfl) ?_
                                                                            refine j_icmp_eq S D_W_law_1300 (fun c_1300 => ?_) (fun c_1300 => ?_)
                                                                            · have h := ifT c_1300 h
                                                                              refine j_iinc S D_W_law_1499 3 rfl (congrArg (fun z => b3 + z) ci_6) (lv := [(3, .int (b3 + 6)), (0, .ref b0), (1, .ref (eb E + 0)), (2, .ref (eb E + 91))]) rfl (Nat.le_of_ble_eq_true rfl) ?_
                                                                              refine j_goto S D_W_law_1502 ?_
                                                                              refine j_locals [1, 2, 3, 0] rfl (ih (b3 + 6) m_1297 h)
                                                                            · have h := ifF c_1300 h
                                                                              refine j_iconst S D_W_law_1303 ci_0 ?_
                                                                              cases h
                                                                          · have h := ifF c_33_34 h
                                                                            by_cases c_33_35 : ((xs (ix b3)) &&& 63) = 35
                                                                            · have h := ifT c_33_35 h
                                                                              refine j_tabIn (tg := 1305) (off := 1272) S D_W_law_33 35 c_33_35 (by decide +kernel) ?_
                                                                              refine j_aload_n S D_W_law_1305 1 rfl rfl ?_
                                                                              refine j_aload_n S D_W_law_1306 0 rfl rfl ?_
                                                                              refine j_iload_n S D_W_law_1307 3 rfl rfl ?_
                                                                              refine j_iconst S D_W_law_1308 ci_1 ?_
                                                                              refine j_iadd S D_W_law_1309 ?_
                                                                              obtain ⟨g_1310, h⟩ := gdE h
                                                                              refine w_sld S hX hbl hbA D_W_law_1310 g_1310 ?_
                                                                              refine j_aload_n S D_W_law_1311 0 rfl rfl ?_
                                                                              refine j_iload_n S D_W_law_1312 3 rfl rfl ?_
                                                                              refine j_iconst S D_W_law_1313 ci_2 ?_
                                                                              refine j_iadd S D_W_law_1314 ?_
                                                                              obtain ⟨g_1315, h⟩ := gdE h
                                                                              refine w_sld S hX hbl hbA D_W_law_1315 g_1315 ?_
                                                                              obtain ⟨r_1316, e_1316, h⟩ := bpE h
                                                                              refine j_callVI (As := [.int (xs (ix (b3 + 1))), .int (xs (ix (b3 + 2)))]) S D_W_law_1316 mv_R_law_158 (c_S_ask (cxL X) E (xs (ix (b3 + 1))) (xs (ix (b3 + 2))) e_1316) (by decide) sh_Sand rfl rfl rfl rfl (Nat.le_of_ble_eq_true rfl) ?_
                                                                              refine j_aload_n S D_W_law_1319 2 rfl rfl ?_
                                                                              refine j_aload_n S D_W_law_1320 0 rfl rfl ?_
                                                                              refine j_iload_n S D_W_law_1321 3 rfl rfl ?_
                                                                              refine j_iconst S D_W_law_1322 ci_1 ?_
                                                                              refine j_iadd S D_W_law_1323 ?_
                                                                              refine w_sld S hX hbl hbA D_W_law_1324 g_1310 ?_
                                                                              refine j_aload_n S D_W_law_1325 0 rfl rfl ?_
                                                                              refine j_iload_n S D_W_law_1326 3 rfl rfl ?_
                                                                              refine j_iconst S D_W_law_1327 ci_2 ?_
                                                                              refine j_iadd S D_W_law_1328 ?_
                                                                              refine w_sld S hX hbl hbA D_W_law_1329 g_1315 ?_
                                                                              obtain ⟨r_1330, e_1330, h⟩ := bpE h
                                                                              refine j_callVI (As := [.int (xs (ix (b3 + 1))), .int (xs (ix (b3 + 2)))]) S D_W_law_1330 mv_R_law_161 (c_M_ask (cxL X) E (xs (ix (b3 + 1))) (xs (ix (b3 + 2))) e_1330) (by decide) sh_Mod rfl rfl rfl rfl (Nat.le_of_ble_eq_true rfl) ?_
                                                                              refine j_icmp_eq S D_W_law_1333 (fun c_1333 => ?_) (fun c_1333 => ?_)
                                                                              · have h := ifT c_1333 h
                                                                                refine j_iinc S D_W_law_1499 3 rfl (congrArg (fun z => b3 + z) ci_6) (lv := [(3, .int (b3 + 6)), (0, .ref b0), (1, .ref (eb E + 0)), (2, .ref (eb E + 91))]) rfl (Nat.le_of_ble_eq_true rfl) ?_
                                                                                refine j_goto S D_W_law_1502 ?_
                                                                                refine j_locals [1, 2, 3, 0] rfl (ih (b3 + 6) mem h)
                                                                              · have h := ifF c_1333 h
                                                                                refine j_iconst S D_W_law_1336 ci_0 ?_
                                                                                cases h
                                                                            · have h := ifF c_33_35 h
                                                                              by_cases c_33_36 : ((xs (ix b3)) &&& 63) = 36
                                                                              · have h := ifT c_33_36 h
                                                                                refine j_tabIn (tg := 1338) (off := 1305) S D_W_law_33 36 c_33_36 (by decide +kernel) ?_
                                                                                refine j_aload_n S D_W_law_1338 1 rfl rfl ?_
                                                                                refine j_aload_n S D_W_law_1339 0 rfl rfl ?_
                                                                                refine j_iload_n S D_W_law_1340 3 rfl rfl ?_
                                                                                refine j_iconst S D_W_law_1341 ci_1 ?_
                                                                                refine j_iadd S D_W_law_1342 ?_
                                                                                obtain ⟨g_1343, h⟩ := gdE h
                                                                                refine w_sld S hX hbl hbA D_W_law_1343 g_1343 ?_
                                                                                refine j_aload_n S D_W_law_1344 0 rfl rfl ?_
                                                                                refine j_iload_n S D_W_law_1345 3 rfl rfl ?_
                                                                                refine j_iconst S D_W_law_1346 ci_2 ?_
                                                                                refine j_iadd S D_W_law_1347 ?_
                                                                                obtain ⟨g_1348, h⟩ := gdE h
                                                                                refine w_sld S hX hbl hbA D_W_law_1348 g_1348 ?_
                                                                                obtain ⟨r_1349, e_1349, h⟩ := bpE h
                                                                                refine j_callVI (As := [.int (xs (ix (b3 + 1))), .int (xs (ix (b3 + 2)))]) S D_W_law_1349 mv_R_law_162 (c_S_item (cxL X) E (xs (ix (b3 + 1))) (xs (ix (b3 + 2))) e_1349) (by decide) sh_Sand rfl rfl rfl rfl (Nat.le_of_ble_eq_true rfl) ?_
                                                                                refine j_aload_n S D_W_law_1352 2 rfl rfl ?_
                                                                                refine j_aload_n S D_W_law_1353 0 rfl rfl ?_
                                                                                refine j_iload_n S D_W_law_1354 3 rfl rfl ?_
                                                                                refine j_iconst S D_W_law_1355 ci_1 ?_
                                                                                refine j_iadd S D_W_law_1356 ?_
                                                                                refine w_sld S hX hbl hbA D_W_law_1357 g_1343 ?_
                                                                                refine j_aload_n S D_W_law_1358 0 rfl rfl ?_
                                                                                refine j_iload_n S D_W_law_1359 3 rfl rfl ?_
                                                                                refine j_iconst S D_W_law_1360 ci_2 ?_
                                                                                refine j_iadd S D_W_law_1361 ?_
                                                                                refine w_sld S hX hbl hbA D_W_law_1362 g_1348 ?_
                                                                                obtain ⟨r_1363, e_1363, h⟩ := bpE h
                                                                                refine j_callVI (As := [.int (xs (ix (b3 + 1))), .int (xs (ix (b3 + 2)))]) S D_W_law_1363 mv_R_law_165 (c_M_item (cxL X) E (xs (ix (b3 + 1))) (xs (ix (b3 + 2))) e_1363) (by decide) sh_Mod rfl rfl rfl rfl (Nat.le_of_ble_eq_true rfl) ?_
                                                                                refine j_icmp_eq S D_W_law_1366 (fun c_1366 => ?_) (fun c_1366 => ?_)
                                                                                · have h := ifT c_1366 h
                                                                                  refine j_iinc S D_W_law_1499 3 rfl (congrArg (fun z => b3 + z) ci_6) (lv := [(3, .int (b3 + 6)), (0, .ref b0), (1, .ref (eb E + 0)), (2, .ref (eb E + 91))]) rfl (Nat.le_of_ble_eq_true rfl) ?_
                                                                                  refine j_goto S D_W_law_1502 ?_
                                                                                  refine j_locals [1, 2, 3, 0] rfl (ih (b3 + 6) mem h)
                                                                                · have h := ifF c_1366 h
                                                                                  refine j_iconst S D_W_law_1369 ci_0 ?_
                                                                                  cases h
                                                                              · have h := ifF c_33_36 h
                                                                                by_cases c_33_37 : ((xs (ix b3)) &&& 63) = 37
                                                                                · have h := ifT c_33_37 h
                                                                                  refine j_tabIn (tg := 1371) (off := 1338) S D_W_law_33 37 c_33_37 (by decide +kernel) ?_
                                                                                  refine j_aload_n S D_W_law_1371 1 rfl rfl ?_
                                                                                  refine j_aload_n S D_W_law_1372 0 rfl rfl ?_
                                                                                  refine j_iload_n S D_W_law_1373 3 rfl rfl ?_
                                                                                  refine j_iconst S D_W_law_1374 ci_1 ?_
                                                                                  refine j_iadd S D_W_law_1375 ?_
                                                                                  obtain ⟨g_1376, h⟩ := gdE h
                                                                                  refine w_sld S hX hbl hbA D_W_law_1376 g_1376 ?_
                                                                                  refine j_aload_n S D_W_law_1377 0 rfl rfl ?_
                                                                                  refine j_iload_n S D_W_law_1378 3 rfl rfl ?_
                                                                                  refine j_iconst S D_W_law_1379 ci_2 ?_
                                                                                  refine j_iadd S D_W_law_1380 ?_
                                                                                  obtain ⟨g_1381, h⟩ := gdE h
                                                                                  refine w_sld S hX hbl hbA D_W_law_1381 g_1381 ?_
                                                                                  obtain ⟨r_1382, e_1382, h⟩ := bpE h
                                                                                  refine j_callVI (As := [.int (xs (ix (b3 + 1))), .int (xs (ix (b3 + 2)))]) S D_W_law_1382 mv_R_law_166 (c_S_rest (cxL X) E (xs (ix (b3 + 1))) (xs (ix (b3 + 2))) e_1382) (by decide) sh_Sand rfl rfl rfl rfl (Nat.le_of_ble_eq_true rfl) ?_
                                                                                  refine j_aload_n S D_W_law_1385 2 rfl rfl ?_
                                                                                  refine j_aload_n S D_W_law_1386 0 rfl rfl ?_
                                                                                  refine j_iload_n S D_W_law_1387 3 rfl rfl ?_
                                                                                  refine j_iconst S D_W_law_1388 ci_1 ?_
                                                                                  refine j_iadd S D_W_law_1389 ?_
                                                                                  refine w_sld S hX hbl hbA D_W_law_1390 g_1376 ?_
                                                                                  refine j_aload_n S D_W_law_1391 0 rfl rfl ?_
                                                                                  refine j_iload_n S D_W_law_1392 3 rfl rfl ?_
                                                                                  refine j_iconst S D_W_law_1393 ci_2 ?_
                                                                                  refine j_iadd S D_W_law_1394 ?_
                                                                                  refine w_sld S hX hbl hbA D_W_law_1395 g_1381 ?_
                                                                                  obtain ⟨r_1396, e_1396, h⟩ := bpE h
                                                                                  refine j_callVI (As := [.int (xs (ix (b3 + 1))), .int (xs (ix (b3 + 2)))]) S D_W_law_1396 mv_R_law_169 (c_M_rest (cxL X) E (xs (ix (b3 + 1))) (xs (ix (b3 + 2))) e_1396) (by decide) sh_Mod rfl rfl rfl rfl (Nat.le_of_ble_eq_true rfl) ?_
                                                                                  refine j_icmp_eq S D_W_law_1399 (fun c_1399 => ?_) (fun c_1399 => ?_)
                                                                                  · have h := ifT c_1399 h
                                                                                    refine j_iinc S D_W_law_1499 3 rfl (congrArg (fun z => b3 + z) ci_6) (lv := [(3, .int (b3 + 6)), (0, .ref b0), (1, .ref (eb E + 0)), (2, .ref (eb E + 91))]) rfl (Nat.le_of_ble_eq_true rfl) ?_
                                                                                    refine j_goto S D_W_law_1502 ?_
                                                                                    refine j_locals [1, 2, 3, 0] rfl (ih (b3 + 6) mem h)
                                                                                  · have h := ifF c_1399 h
                                                                                    refine j_iconst S D_W_law_1402 ci_0 ?_
                                                                                    cases h
                                                                                · have h := ifF c_33_37 h
                                                                                  by_cases c_33_38 : ((xs (ix b3)) &&& 63) = 38
                                                                                  · have h := ifT c_33_38 h
                                                                                    refine j_tabIn (tg := 1404) (off := 1371) S D_W_law_33 38 c_33_38 (by decide +kernel) ?_
                                                                                    refine j_aload_n S D_W_law_1404 1 rfl rfl ?_
                                                                                    refine j_aload_n S D_W_law_1405 0 rfl rfl ?_
                                                                                    refine j_iload_n S D_W_law_1406 3 rfl rfl ?_
                                                                                    refine j_iconst S D_W_law_1407 ci_1 ?_
                                                                                    refine j_iadd S D_W_law_1408 ?_
                                                                                    obtain ⟨g_1409, h⟩ := gdE h
                                                                                    refine w_sld S hX hbl hbA D_W_law_1409 g_1409 ?_
                                                                                    obtain ⟨r_1410, m_1410, e_1410, h⟩ := bdE h
                                                                                    refine j_callVI (As := [.int (xs (ix (b3 + 1)))]) S D_W_law_1410 mv_R_law_170 (c_S_tell (cxL X) E (xs (ix (b3 + 1))) e_1410) (by decide) sh_Sand rfl rfl rfl rfl (Nat.le_of_ble_eq_true rfl) ?_
                                                                                    refine j_aload_n S D_W_law_1413 2 rfl rfl ?_
                                                                                    refine j_aload_n S D_W_law_1414 0 rfl rfl ?_
                                                                                    refine j_iload_n S D_W_law_1415 3 rfl rfl ?_
                                                                                    refine j_iconst S D_W_law_1416 ci_1 ?_
                                                                                    refine j_iadd S D_W_law_1417 ?_
                                                                                    refine w_sld S hX hbl hbA D_W_law_1418 g_1409 ?_
                                                                                    obtain ⟨r_1419, m_1419, e_1419, h⟩ := bdE h
                                                                                    refine j_callVI (As := [.int (xs (ix (b3 + 1)))]) S D_W_law_1419 mv_R_law_173 (c_M_tell (cxL X) E (xs (ix (b3 + 1))) e_1419) (by decide) sh_Mod rfl rfl rfl rfl (Nat.le_of_ble_eq_true rfl) ?_
                                                                                    refine j_icmp_eq S D_W_law_1422 (fun c_1422 => ?_) (fun c_1422 => ?_)
                                                                                    · have h := ifT c_1422 h
                                                                                      refine j_iinc S D_W_law_1499 3 rfl (congrArg (fun z => b3 + z) ci_6) (lv := [(3, .int (b3 + 6)), (0, .ref b0), (1, .ref (eb E + 0)), (2, .ref (eb E + 91))]) rfl (Nat.le_of_ble_eq_true rfl) ?_
                                                                                      refine j_goto S D_W_law_1502 ?_
                                                                                      refine j_locals [1, 2, 3, 0] rfl (ih (b3 + 6) m_1419 h)
                                                                                    · have h := ifF c_1422 h
                                                                                      refine j_iconst S D_W_law_1425 ci_0 ?_
                                                                                      cases h
                                                                                  · have h := ifF c_33_38 h
                                                                                    by_cases c_33_39 : ((xs (ix b3)) &&& 63) = 39
                                                                                    · have h := ifT c_33_39 h
                                                                                      refine j_tabIn (tg := 1427) (off := 1394) S D_W_law_33 39 c_33_39 (by decide +kernel) ?_
                                                                                      refine j_aload_n S D_W_law_1427 1 rfl rfl ?_
                                                                                      refine j_aload_n S D_W_law_1428 0 rfl rfl ?_
                                                                                      refine j_iload_n S D_W_law_1429 3 rfl rfl ?_
                                                                                      refine j_iconst S D_W_law_1430 ci_1 ?_
                                                                                      refine j_iadd S D_W_law_1431 ?_
                                                                                      obtain ⟨g_1432, h⟩ := gdE h
                                                                                      refine w_sld S hX hbl hbA D_W_law_1432 g_1432 ?_
                                                                                      obtain ⟨r_1433, m_1433, e_1433, h⟩ := bdE h
                                                                                      refine j_callVI (As := [.int (xs (ix (b3 + 1)))]) S D_W_law_1433 mv_R_law_174 (c_S_check (cxL X) E N (xs (ix (b3 + 1))) e_1433) (by decide) sh_Sand rfl rfl rfl rfl (Nat.le_of_ble_eq_true rfl) ?_
                                                                                      refine j_aload_n S D_W_law_1436 2 rfl rfl ?_
                                                                                      refine j_aload_n S D_W_law_1437 0 rfl rfl ?_
                                                                                      refine j_iload_n S D_W_law_1438 3 rfl rfl ?_
                                                                                      refine j_iconst S D_W_law_1439 ci_1 ?_
                                                                                      refine j_iadd S D_W_law_1440 ?_
                                                                                      refine w_sld S hX hbl hbA D_W_law_1441 g_1432 ?_
                                                                                      obtain ⟨r_1442, m_1442, e_1442, h⟩ := bdE h
                                                                                      refine j_callVI (As := [.int (xs (ix (b3 + 1)))]) S D_W_law_1442 mv_R_law_177 (c_M_check (cxL X) E N (xs (ix (b3 + 1))) e_1442) (by decide) sh_Mod rfl rfl rfl rfl (Nat.le_of_ble_eq_true rfl) ?_
                                                                                      refine j_icmp_eq S D_W_law_1445 (fun c_1445 => ?_) (fun c_1445 => ?_)
                                                                                      · have h := ifT c_1445 h
                                                                                        refine j_iinc S D_W_law_1499 3 rfl (congrArg (fun z => b3 + z) ci_6) (lv := [(3, .int (b3 + 6)), (0, .ref b0), (1, .ref (eb E + 0)), (2, .ref (eb E + 91))]) rfl (Nat.le_of_ble_eq_true rfl) ?_
                                                                                        refine j_goto S D_W_law_1502 ?_
                                                                                        refine j_locals [1, 2, 3, 0] rfl (ih (b3 + 6) m_1442 h)
                                                                                      · have h := ifF c_1445 h
                                                                                        refine j_iconst S D_W_law_1448 ci_0 ?_
                                                                                        cases h
                                                                                    · have h := ifF c_33_39 h
                                                                                      by_cases c_33_40 : ((xs (ix b3)) &&& 63) = 40
                                                                                      · have h := ifT c_33_40 h
                                                                                        refine j_tabIn (tg := 1450) (off := 1417) S D_W_law_33 40 c_33_40 (by decide +kernel) ?_
                                                                                        refine j_aload_n S D_W_law_1450 1 rfl rfl ?_
                                                                                        obtain ⟨r_1451, m_1451, e_1451, h⟩ := bdE h
                                                                                        refine j_callVI (As := []) S D_W_law_1451 mv_R_law_178 (c_S_keep (cxL X) E e_1451) (by decide) sh_Sand rfl rfl rfl rfl (Nat.le_of_ble_eq_true rfl) ?_
                                                                                        refine j_aload_n S D_W_law_1454 2 rfl rfl ?_
                                                                                        obtain ⟨r_1455, m_1455, e_1455, h⟩ := bdE h
                                                                                        refine j_callVI (As := []) S D_W_law_1455 mv_R_law_181 (c_M_keep (cxL X) E N e_1455) (by decide) sh_Mod rfl rfl rfl rfl (Nat.le_of_ble_eq_true rfl) ?_
                                                                                        refine j_icmp_eq S D_W_law_1458 (fun c_1458 => ?_) (fun c_1458 => ?_)
                                                                                        · have h := ifT c_1458 h
                                                                                          refine j_iinc S D_W_law_1499 3 rfl (congrArg (fun z => b3 + z) ci_6) (lv := [(3, .int (b3 + 6)), (0, .ref b0), (1, .ref (eb E + 0)), (2, .ref (eb E + 91))]) rfl (Nat.le_of_ble_eq_true rfl) ?_
                                                                                          refine j_goto S D_W_law_1502 ?_
                                                                                          refine j_locals [1, 2, 3, 0] rfl (ih (b3 + 6) m_1455 h)
                                                                                        · have h := ifF c_1458 h
                                                                                          refine j_iconst S D_W_law_1461 ci_0 ?_
                                                                                          cases h
                                                                                      · have h := ifF c_33_40 h
                                                                                        by_cases c_33_41 : ((xs (ix b3)) &&& 63) = 41
                                                                                        · have h := ifT c_33_41 h
                                                                                          refine j_tabIn (tg := 1463) (off := 1430) S D_W_law_33 41 c_33_41 (by decide +kernel) ?_
                                                                                          refine j_aload_n S D_W_law_1463 1 rfl rfl ?_
                                                                                          obtain ⟨r_1464, m_1464, e_1464, h⟩ := bdE h
                                                                                          refine j_callVI (As := []) S D_W_law_1464 mv_R_law_182 (c_S_back (cxL X) E e_1464) (by decide) sh_Sand rfl rfl rfl rfl (Nat.le_of_ble_eq_true rfl) ?_
                                                                                          refine j_aload_n S D_W_law_1467 2 rfl rfl ?_
                                                                                          obtain ⟨r_1468, m_1468, e_1468, h⟩ := bdE h
                                                                                          refine j_callVI (As := []) S D_W_law_1468 mv_R_law_185 (c_M_back (cxL X) E N e_1468) (by decide) sh_Mod rfl rfl rfl rfl (Nat.le_of_ble_eq_true rfl) ?_
                                                                                          refine j_icmp_eq S D_W_law_1471 (fun c_1471 => ?_) (fun c_1471 => ?_)
                                                                                          · have h := ifT c_1471 h
                                                                                            refine j_iinc S D_W_law_1499 3 rfl (congrArg (fun z => b3 + z) ci_6) (lv := [(3, .int (b3 + 6)), (0, .ref b0), (1, .ref (eb E + 0)), (2, .ref (eb E + 91))]) rfl (Nat.le_of_ble_eq_true rfl) ?_
                                                                                            refine j_goto S D_W_law_1502 ?_
                                                                                            refine j_locals [1, 2, 3, 0] rfl (ih (b3 + 6) m_1468 h)
                                                                                          · have h := ifF c_1471 h
                                                                                            refine j_iconst S D_W_law_1474 ci_0 ?_
                                                                                            cases h
                                                                                        · have h := ifF c_33_41 h
                                                                                          by_cases c_33_42 : ((xs (ix b3)) &&& 63) = 42
                                                                                          · have h := ifT c_33_42 h
                                                                                            refine j_tabIn (tg := 1476) (off := 1443) S D_W_law_33 42 c_33_42 (by decide +kernel) ?_
                                                                                            refine j_aload_n S D_W_law_1476 1 rfl rfl ?_
                                                                                            refine j_aload_n S D_W_law_1477 0 rfl rfl ?_
                                                                                            refine j_iload_n S D_W_law_1478 3 rfl rfl ?_
                                                                                            refine j_iconst S D_W_law_1479 ci_1 ?_
                                                                                            refine j_iadd S D_W_law_1480 ?_
                                                                                            obtain ⟨g_1481, h⟩ := gdE h
                                                                                            refine w_sld S hX hbl hbA D_W_law_1481 g_1481 ?_
                                                                                            obtain ⟨r_1482, e_1482, h⟩ := bpE h
                                                                                            refine j_callVI (As := [.int (xs (ix (b3 + 1)))]) S D_W_law_1482 mv_R_law_186 (c_S_count (cxL X) E N (xs (ix (b3 + 1))) e_1482) (by decide) sh_Sand rfl rfl rfl rfl (Nat.le_of_ble_eq_true rfl) ?_
                                                                                            refine j_aload_n S D_W_law_1485 2 rfl rfl ?_
                                                                                            refine j_aload_n S D_W_law_1486 0 rfl rfl ?_
                                                                                            refine j_iload_n S D_W_law_1487 3 rfl rfl ?_
                                                                                            refine j_iconst S D_W_law_1488 ci_1 ?_
                                                                                            refine j_iadd S D_W_law_1489 ?_
                                                                                            refine w_sld S hX hbl hbA D_W_law_1490 g_1481 ?_
                                                                                            obtain ⟨r_1491, e_1491, h⟩ := bpE h
                                                                                            refine j_callVI (As := [.int (xs (ix (b3 + 1)))]) S D_W_law_1491 mv_R_law_189 (c_M_count (cxL X) E N (xs (ix (b3 + 1))) e_1491) (by decide) sh_Mod rfl rfl rfl rfl (Nat.le_of_ble_eq_true rfl) ?_
                                                                                            refine j_icmp_eq S D_W_law_1494 (fun c_1494 => ?_) (fun c_1494 => ?_)
                                                                                            · have h := ifT c_1494 h
                                                                                              refine j_iinc S D_W_law_1499 3 rfl (congrArg (fun z => b3 + z) ci_6) (lv := [(3, .int (b3 + 6)), (0, .ref b0), (1, .ref (eb E + 0)), (2, .ref (eb E + 91))]) rfl (Nat.le_of_ble_eq_true rfl) ?_
                                                                                              refine j_goto S D_W_law_1502 ?_
                                                                                              refine j_locals [1, 2, 3, 0] rfl (ih (b3 + 6) mem h)
                                                                                            · have h := ifF c_1494 h
                                                                                              refine j_iconst S D_W_law_1497 ci_0 ?_
                                                                                              cases h
                                                                                          · have h := ifF c_33_42 h
                                                                                            refine j_tabOut S D_W_law_33o (tout_0_42 c_33_0 c_33_1 c_33_2 c_33_3 c_33_4 c_33_5 c_33_6 c_33_7 c_33_8 c_33_9 c_33_10 c_33_11 c_33_12 c_33_13 c_33_14 c_33_15 c_33_16 c_33_17 c_33_18 c_33_19 c_33_20 c_33_21 c_33_22 c_33_23 c_33_24 c_33_25 c_33_26 c_33_27 c_33_28 c_33_29 c_33_30 c_33_31 c_33_32 c_33_33 c_33_34 c_33_35 c_33_36 c_33_37 c_33_38 c_33_39 c_33_40 c_33_41 c_33_42) ?_
                                                                                            refine j_iinc S D_W_law_1499 3 rfl (congrArg (fun z => b3 + z) ci_6) (lv := [(3, .int (b3 + 6)), (0, .ref b0), (1, .ref (eb E + 0)), (2, .ref (eb E + 91))]) rfl (Nat.le_of_ble_eq_true rfl) ?_
                                                                                            refine j_goto S D_W_law_1502 ?_
                                                                                            refine j_locals [1, 2, 3, 0] rfl (ih (b3 + 6) mem h)
