/-! THE SHAPES of all cells: the class (0 .. 90), the reference (91 .. 112) -/
def SH : List Sh := [
  .inl (5, [some (some 1), some (some 2), some (some 38), some (some 48), some (some 58), none, some (some 4), some (some 5), some (some 6), none]),
  .inr (.inr (3, [some 7, some 9, some 11, some 13, some 15, some 17, some 19, some 21, some 23, some 25, some 27, some 29, some 31, some 33, some 35])),
  .inl (3, [none, some (some 3), none, none, none, none]),
  .inr (.inl (0, 96)),
  .inr (.inr (4, [some 68, some 70, some 72, some 74])),
  .inr (.inr (5, [some 76, some 79, some 82, some 85, some 88])),
  .inr (.inl (0, 60)),
  .inl (4, [none, none, none, some (some 8)]),
  .inr (.inl (0, 96)),
  .inl (4, [none, none, none, some (some 10)]),
  .inr (.inl (0, 96)),
  .inl (4, [none, none, none, some (some 12)]),
  .inr (.inl (0, 96)),
  .inl (4, [none, none, none, some (some 14)]),
  .inr (.inl (0, 96)),
  .inl (4, [none, none, none, some (some 16)]),
  .inr (.inl (0, 96)),
  .inl (4, [none, none, none, some (some 18)]),
  .inr (.inl (0, 96)),
  .inl (4, [none, none, none, some (some 20)]),
  .inr (.inl (0, 96)),
  .inl (4, [none, none, none, some (some 22)]),
  .inr (.inl (0, 96)),
  .inl (4, [none, none, none, some (some 24)]),
  .inr (.inl (0, 96)),
  .inl (4, [none, none, none, some (some 26)]),
  .inr (.inl (0, 96)),
  .inl (4, [none, none, none, some (some 28)]),
  .inr (.inl (0, 96)),
  .inl (4, [none, none, none, some (some 30)]),
  .inr (.inl (0, 96)),
  .inl (4, [none, none, none, some (some 32)]),
  .inr (.inl (0, 96)),
  .inl (4, [none, none, none, some (some 34)]),
  .inr (.inl (0, 96)),
  .inl (4, [none, none, none, some (some 36)]),
  .inr (.inl (0, 96)),
  .inr (.inl (0, 96)),
  .inl (0, [some (some 1), some (some 37), none, some (some 39), none, some (some 40), some (some 41), some (some 42), some (some 43), some (some 44), some (some 45), some (some 46), some (some 47), none, none, none, none, none, none]),
  .inr (.inl (0, 3)),
  .inr (.inl (0, 10)),
  .inr (.inl (0, 10)),
  .inr (.inl (0, 10)),
  .inr (.inl (0, 6)),
  .inr (.inl (0, 6)),
  .inr (.inl (0, 6)),
  .inr (.inl (0, 6)),
  .inr (.inl (0, 3)),
  .inl (0, [some (some 1), some (some 37), none, some (some 49), none, some (some 50), some (some 51), some (some 52), some (some 53), some (some 54), some (some 55), some (some 56), some (some 57), none, none, none, none, none, none]),
  .inr (.inl (0, 3)),
  .inr (.inl (0, 10)),
  .inr (.inl (0, 10)),
  .inr (.inl (0, 10)),
  .inr (.inl (0, 6)),
  .inr (.inl (0, 6)),
  .inr (.inl (0, 6)),
  .inr (.inl (0, 6)),
  .inr (.inl (0, 3)),
  .inl (0, [some (some 1), some (some 37), none, some (some 59), none, some (some 60), some (some 61), some (some 62), some (some 63), some (some 64), some (some 65), some (some 66), some (some 67), none, none, none, none, none, none]),
  .inr (.inl (0, 3)),
  .inr (.inl (0, 10)),
  .inr (.inl (0, 10)),
  .inr (.inl (0, 10)),
  .inr (.inl (0, 6)),
  .inr (.inl (0, 6)),
  .inr (.inl (0, 6)),
  .inr (.inl (0, 6)),
  .inr (.inl (0, 3)),
  .inl (1, [none, none, some (some 69)]),
  .inr (.inl (0, 24)),
  .inl (1, [none, none, some (some 71)]),
  .inr (.inl (0, 24)),
  .inl (1, [none, none, some (some 73)]),
  .inr (.inl (0, 24)),
  .inl (1, [none, none, some (some 75)]),
  .inr (.inl (0, 24)),
  .inl (2, [none, none, none, none, some (some 77)]),
  .inl (1, [none, none, some (some 78)]),
  .inr (.inl (0, 24)),
  .inl (2, [none, none, none, none, some (some 80)]),
  .inl (1, [none, none, some (some 81)]),
  .inr (.inl (0, 24)),
  .inl (2, [none, none, none, none, some (some 83)]),
  .inl (1, [none, none, some (some 84)]),
  .inr (.inl (0, 24)),
  .inl (2, [none, none, none, none, some (some 86)]),
  .inl (1, [none, none, some (some 87)]),
  .inr (.inl (0, 24)),
  .inl (2, [none, none, none, none, some (some 89)]),
  .inl (1, [none, none, some (some 90)]),
  .inr (.inl (0, 24)),
  .inl (6, [some (some 92), some (some 93), some (some 94), none, none, some (some 95), some (some 96), none, none, none, none, none, none, none, some (some 97), some (some 98), some (some 99), none, none, some (some 100), none, some (some 101), some (some 102), some (some 103), some (some 104), some (some 105), some (some 106), some (some 107), some (some 108), some (some 109), some (some 110), some (some 111), some (some 112), none]),
  .inr (.inl (0, 1436)),
  .inr (.inl (0, 1436)),
  .inr (.inl (0, 1436)),
  .inr (.inl (0, 64)),
  .inr (.inl (0, 96)),
  .inr (.inl (2, 12)),
  .inr (.inl (0, 4)),
  .inr (.inl (0, 96)),
  .inr (.inl (0, 96)),
  .inr (.inl (1, 10)),
  .inr (.inl (0, 96)),
  .inr (.inl (0, 4)),
  .inr (.inl (0, 4)),
  .inr (.inl (0, 4)),
  .inr (.inl (0, 96)),
  .inr (.inl (0, 5)),
  .inr (.inl (0, 5)),
  .inr (.inl (0, 5)),
  .inr (.inl (0, 120)),
  .inr (.inl (0, 24)),
  .inr (.inl (0, 60))]
abbrev slSand : List Sl := [some (some 1), some (some 2), some (some 38), some (some 48), some (some 58), none, some (some 4), some (some 5), some (some 6), none]
abbrev slTape : List Sl := [none, some (some 3), none, none, none, none]
abbrev slMod : List Sl := [some (some 92), some (some 93), some (some 94), none, none, some (some 95), some (some 96), none, none, none, none, none, none, none, some (some 97), some (some 98), some (some 99), none, none, some (some 100), none, some (some 101), some (some 102), some (some 103), some (some 104), some (some 105), some (some 106), some (some 107), some (some 108), some (some 109), some (some 110), some (some 111), some (some 112), none]
abbrev slPic (p : Nat) : List Sl := [some (some 1), some (some 37), none, some (some (p + 1)), none, some (some (p + 2)), some (some (p + 3)), some (some (p + 4)), some (some (p + 5)), some (some (p + 6)), some (some (p + 7)), some (some (p + 8)), some (some (p + 9)), none, none, none, none, none, none]
abbrev slTxt (k : Nat) : List Sl := [none, none, none, some (some (k + 1))]
abbrev slSht (k : Nat) : List Sl := [none, none, some (some (k + 1))]
abbrev slSlt (k : Nat) : List Sl := [none, none, none, none, some (some (k + 1))]
theorem sh_Sand : SH[0]? = some (.inl (5, slSand)) := rfl
theorem sh_Tape : SH[2]? = some (.inl (3, slTape)) := rfl
theorem sh_Mod : SH[91]? = some (.inl (6, slMod)) := rfl
theorem sh_1 : SH[1]? = some (.inr (.inr (3, [some 7, some 9, some 11, some 13, some 15, some 17, some 19, some 21, some 23, some 25, some 27, some 29, some 31, some 33, some 35]))) := rfl
theorem sh_3 : SH[3]? = some (.inr (.inl (0, 96))) := rfl
theorem sh_4 : SH[4]? = some (.inr (.inr (4, [some 68, some 70, some 72, some 74]))) := rfl
theorem sh_5 : SH[5]? = some (.inr (.inr (5, [some 76, some 79, some 82, some 85, some 88]))) := rfl
theorem sh_6 : SH[6]? = some (.inr (.inl (0, 60))) := rfl
theorem sh_8 : SH[8]? = some (.inr (.inl (0, 96))) := rfl
theorem sh_10 : SH[10]? = some (.inr (.inl (0, 96))) := rfl
theorem sh_12 : SH[12]? = some (.inr (.inl (0, 96))) := rfl
theorem sh_14 : SH[14]? = some (.inr (.inl (0, 96))) := rfl
theorem sh_16 : SH[16]? = some (.inr (.inl (0, 96))) := rfl
theorem sh_18 : SH[18]? = some (.inr (.inl (0, 96))) := rfl
theorem sh_20 : SH[20]? = some (.inr (.inl (0, 96))) := rfl
theorem sh_22 : SH[22]? = some (.inr (.inl (0, 96))) := rfl
theorem sh_24 : SH[24]? = some (.inr (.inl (0, 96))) := rfl
theorem sh_26 : SH[26]? = some (.inr (.inl (0, 96))) := rfl
theorem sh_28 : SH[28]? = some (.inr (.inl (0, 96))) := rfl
theorem sh_30 : SH[30]? = some (.inr (.inl (0, 96))) := rfl
theorem sh_32 : SH[32]? = some (.inr (.inl (0, 96))) := rfl
theorem sh_34 : SH[34]? = some (.inr (.inl (0, 96))) := rfl
theorem sh_36 : SH[36]? = some (.inr (.inl (0, 96))) := rfl
theorem sh_37 : SH[37]? = some (.inr (.inl (0, 96))) := rfl
theorem sh_39 : SH[39]? = some (.inr (.inl (0, 3))) := rfl
theorem sh_40 : SH[40]? = some (.inr (.inl (0, 10))) := rfl
theorem sh_41 : SH[41]? = some (.inr (.inl (0, 10))) := rfl
theorem sh_42 : SH[42]? = some (.inr (.inl (0, 10))) := rfl
theorem sh_43 : SH[43]? = some (.inr (.inl (0, 6))) := rfl
theorem sh_44 : SH[44]? = some (.inr (.inl (0, 6))) := rfl
theorem sh_45 : SH[45]? = some (.inr (.inl (0, 6))) := rfl
theorem sh_46 : SH[46]? = some (.inr (.inl (0, 6))) := rfl
theorem sh_47 : SH[47]? = some (.inr (.inl (0, 3))) := rfl
theorem sh_49 : SH[49]? = some (.inr (.inl (0, 3))) := rfl
theorem sh_50 : SH[50]? = some (.inr (.inl (0, 10))) := rfl
theorem sh_51 : SH[51]? = some (.inr (.inl (0, 10))) := rfl
theorem sh_52 : SH[52]? = some (.inr (.inl (0, 10))) := rfl
theorem sh_53 : SH[53]? = some (.inr (.inl (0, 6))) := rfl
theorem sh_54 : SH[54]? = some (.inr (.inl (0, 6))) := rfl
theorem sh_55 : SH[55]? = some (.inr (.inl (0, 6))) := rfl
theorem sh_56 : SH[56]? = some (.inr (.inl (0, 6))) := rfl
theorem sh_57 : SH[57]? = some (.inr (.inl (0, 3))) := rfl
theorem sh_59 : SH[59]? = some (.inr (.inl (0, 3))) := rfl
theorem sh_60 : SH[60]? = some (.inr (.inl (0, 10))) := rfl
theorem sh_61 : SH[61]? = some (.inr (.inl (0, 10))) := rfl
theorem sh_62 : SH[62]? = some (.inr (.inl (0, 10))) := rfl
theorem sh_63 : SH[63]? = some (.inr (.inl (0, 6))) := rfl
theorem sh_64 : SH[64]? = some (.inr (.inl (0, 6))) := rfl
theorem sh_65 : SH[65]? = some (.inr (.inl (0, 6))) := rfl
theorem sh_66 : SH[66]? = some (.inr (.inl (0, 6))) := rfl
theorem sh_67 : SH[67]? = some (.inr (.inl (0, 3))) := rfl
theorem sh_69 : SH[69]? = some (.inr (.inl (0, 24))) := rfl
theorem sh_71 : SH[71]? = some (.inr (.inl (0, 24))) := rfl
theorem sh_73 : SH[73]? = some (.inr (.inl (0, 24))) := rfl
theorem sh_75 : SH[75]? = some (.inr (.inl (0, 24))) := rfl
theorem sh_78 : SH[78]? = some (.inr (.inl (0, 24))) := rfl
theorem sh_81 : SH[81]? = some (.inr (.inl (0, 24))) := rfl
theorem sh_84 : SH[84]? = some (.inr (.inl (0, 24))) := rfl
theorem sh_87 : SH[87]? = some (.inr (.inl (0, 24))) := rfl
theorem sh_90 : SH[90]? = some (.inr (.inl (0, 24))) := rfl
theorem sh_92 : SH[92]? = some (.inr (.inl (0, 1436))) := rfl
theorem sh_93 : SH[93]? = some (.inr (.inl (0, 1436))) := rfl
theorem sh_94 : SH[94]? = some (.inr (.inl (0, 1436))) := rfl
theorem sh_95 : SH[95]? = some (.inr (.inl (0, 64))) := rfl
theorem sh_96 : SH[96]? = some (.inr (.inl (0, 96))) := rfl
theorem sh_97 : SH[97]? = some (.inr (.inl (2, 12))) := rfl
theorem sh_98 : SH[98]? = some (.inr (.inl (0, 4))) := rfl
theorem sh_99 : SH[99]? = some (.inr (.inl (0, 96))) := rfl
theorem sh_100 : SH[100]? = some (.inr (.inl (0, 96))) := rfl
theorem sh_101 : SH[101]? = some (.inr (.inl (1, 10))) := rfl
theorem sh_102 : SH[102]? = some (.inr (.inl (0, 96))) := rfl
theorem sh_103 : SH[103]? = some (.inr (.inl (0, 4))) := rfl
theorem sh_104 : SH[104]? = some (.inr (.inl (0, 4))) := rfl
theorem sh_105 : SH[105]? = some (.inr (.inl (0, 4))) := rfl
theorem sh_106 : SH[106]? = some (.inr (.inl (0, 96))) := rfl
theorem sh_107 : SH[107]? = some (.inr (.inl (0, 5))) := rfl
theorem sh_108 : SH[108]? = some (.inr (.inl (0, 5))) := rfl
theorem sh_109 : SH[109]? = some (.inr (.inl (0, 5))) := rfl
theorem sh_110 : SH[110]? = some (.inr (.inl (0, 120))) := rfl
theorem sh_111 : SH[111]? = some (.inr (.inl (0, 24))) := rfl
theorem sh_112 : SH[112]? = some (.inr (.inl (0, 60))) := rfl
def isPic (k : Nat) : Prop := k ∈ ([38, 48, 58] : List Nat)
def isTxt (k : Nat) : Prop := k ∈ ([7, 9, 11, 13, 15, 17, 19, 21, 23, 25, 27, 29, 31, 33, 35] : List Nat)
def isSht (k : Nat) : Prop := k ∈ ([68, 70, 72, 74, 77, 80, 83, 86, 89] : List Nat)
def isSlt (k : Nat) : Prop := k ∈ ([76, 79, 82, 85, 88] : List Nat)
theorem sh_pic {k : Nat} (h : isPic k) : SH[k]? = some (.inl (0, slPic k)) := by
  unfold isPic at h
  simp only [List.mem_cons, List.not_mem_nil, or_false] at h
  rcases h with rfl | rfl | rfl <;> rfl
theorem sh_pic1 {k : Nat} (h : isPic k) : SH[k + 1]? = some (.inr (.inl (0, 3))) := by
  unfold isPic at h
  simp only [List.mem_cons, List.not_mem_nil, or_false] at h
  rcases h with rfl | rfl | rfl <;> rfl
theorem sh_pic2 {k : Nat} (h : isPic k) : SH[k + 2]? = some (.inr (.inl (0, 10))) := by
  unfold isPic at h
  simp only [List.mem_cons, List.not_mem_nil, or_false] at h
  rcases h with rfl | rfl | rfl <;> rfl
theorem sh_pic3 {k : Nat} (h : isPic k) : SH[k + 3]? = some (.inr (.inl (0, 10))) := by
  unfold isPic at h
  simp only [List.mem_cons, List.not_mem_nil, or_false] at h
  rcases h with rfl | rfl | rfl <;> rfl
theorem sh_pic4 {k : Nat} (h : isPic k) : SH[k + 4]? = some (.inr (.inl (0, 10))) := by
  unfold isPic at h
  simp only [List.mem_cons, List.not_mem_nil, or_false] at h
  rcases h with rfl | rfl | rfl <;> rfl
theorem sh_pic5 {k : Nat} (h : isPic k) : SH[k + 5]? = some (.inr (.inl (0, 6))) := by
  unfold isPic at h
  simp only [List.mem_cons, List.not_mem_nil, or_false] at h
  rcases h with rfl | rfl | rfl <;> rfl
theorem sh_pic6 {k : Nat} (h : isPic k) : SH[k + 6]? = some (.inr (.inl (0, 6))) := by
  unfold isPic at h
  simp only [List.mem_cons, List.not_mem_nil, or_false] at h
  rcases h with rfl | rfl | rfl <;> rfl
theorem sh_pic7 {k : Nat} (h : isPic k) : SH[k + 7]? = some (.inr (.inl (0, 6))) := by
  unfold isPic at h
  simp only [List.mem_cons, List.not_mem_nil, or_false] at h
  rcases h with rfl | rfl | rfl <;> rfl
theorem sh_pic8 {k : Nat} (h : isPic k) : SH[k + 8]? = some (.inr (.inl (0, 6))) := by
  unfold isPic at h
  simp only [List.mem_cons, List.not_mem_nil, or_false] at h
  rcases h with rfl | rfl | rfl <;> rfl
theorem sh_pic9 {k : Nat} (h : isPic k) : SH[k + 9]? = some (.inr (.inl (0, 3))) := by
  unfold isPic at h
  simp only [List.mem_cons, List.not_mem_nil, or_false] at h
  rcases h with rfl | rfl | rfl <;> rfl
theorem sh_txt {k : Nat} (h : isTxt k) : SH[k]? = some (.inl (4, slTxt k)) := by
  unfold isTxt at h
  simp only [List.mem_cons, List.not_mem_nil, or_false] at h
  rcases h with rfl | rfl | rfl | rfl | rfl | rfl | rfl | rfl | rfl | rfl | rfl | rfl | rfl | rfl | rfl <;> rfl
theorem sh_txt1 {k : Nat} (h : isTxt k) : SH[k + 1]? = some (.inr (.inl (0, 96))) := by
  unfold isTxt at h
  simp only [List.mem_cons, List.not_mem_nil, or_false] at h
  rcases h with rfl | rfl | rfl | rfl | rfl | rfl | rfl | rfl | rfl | rfl | rfl | rfl | rfl | rfl | rfl <;> rfl
theorem sh_sht {k : Nat} (h : isSht k) : SH[k]? = some (.inl (1, slSht k)) := by
  unfold isSht at h
  simp only [List.mem_cons, List.not_mem_nil, or_false] at h
  rcases h with rfl | rfl | rfl | rfl | rfl | rfl | rfl | rfl | rfl <;> rfl
theorem sh_sht1 {k : Nat} (h : isSht k) : SH[k + 1]? = some (.inr (.inl (0, 24))) := by
  unfold isSht at h
  simp only [List.mem_cons, List.not_mem_nil, or_false] at h
  rcases h with rfl | rfl | rfl | rfl | rfl | rfl | rfl | rfl | rfl <;> rfl
theorem sh_slt {k : Nat} (h : isSlt k) : SH[k]? = some (.inl (2, slSlt k)) := by
  unfold isSlt at h
  simp only [List.mem_cons, List.not_mem_nil, or_false] at h
  rcases h with rfl | rfl | rfl | rfl | rfl <;> rfl
theorem inb_lt {x : Int32} {n : Nat} (h : inb x n = true) : ix x < n := by
  unfold inb at h
  simp only [Bool.and_eq_true, decide_eq_true_eq] at h
  exact h.2
theorem el_txt {x : Int32} (h : inb x 15 = true) : ([some 7, some 9, some 11, some 13, some 15, some 17, some 19, some 21, some 23, some 25, some 27, some 29, some 31, some 33, some 35] : List (Option Nat))[ix x]? = some (some (7 + 2 * ix x)) := by
  have hx := inb_lt h
  generalize ix x = j at hx ⊢
  match j, hx with
  | 0, _ => rfl
  | 1, _ => rfl
  | 2, _ => rfl
  | 3, _ => rfl
  | 4, _ => rfl
  | 5, _ => rfl
  | 6, _ => rfl
  | 7, _ => rfl
  | 8, _ => rfl
  | 9, _ => rfl
  | 10, _ => rfl
  | 11, _ => rfl
  | 12, _ => rfl
  | 13, _ => rfl
  | 14, _ => rfl
  | j + 15, h => exact absurd h (by omega)
theorem ro_txt {x : Int32} (h : inb x 15 = true) : isTxt (7 + 2 * ix x) := by
  have hx := inb_lt h
  generalize ix x = j at hx ⊢
  match j, hx with
  | 0, _ => exact List.mem_of_getElem? (i := 0) rfl
  | 1, _ => exact List.mem_of_getElem? (i := 1) rfl
  | 2, _ => exact List.mem_of_getElem? (i := 2) rfl
  | 3, _ => exact List.mem_of_getElem? (i := 3) rfl
  | 4, _ => exact List.mem_of_getElem? (i := 4) rfl
  | 5, _ => exact List.mem_of_getElem? (i := 5) rfl
  | 6, _ => exact List.mem_of_getElem? (i := 6) rfl
  | 7, _ => exact List.mem_of_getElem? (i := 7) rfl
  | 8, _ => exact List.mem_of_getElem? (i := 8) rfl
  | 9, _ => exact List.mem_of_getElem? (i := 9) rfl
  | 10, _ => exact List.mem_of_getElem? (i := 10) rfl
  | 11, _ => exact List.mem_of_getElem? (i := 11) rfl
  | 12, _ => exact List.mem_of_getElem? (i := 12) rfl
  | 13, _ => exact List.mem_of_getElem? (i := 13) rfl
  | 14, _ => exact List.mem_of_getElem? (i := 14) rfl
  | j + 15, h => exact absurd h (by omega)
theorem el_sht {x : Int32} (h : inb x 4 = true) : ([some 68, some 70, some 72, some 74] : List (Option Nat))[ix x]? = some (some (68 + 2 * ix x)) := by
  have hx := inb_lt h
  generalize ix x = j at hx ⊢
  match j, hx with
  | 0, _ => rfl
  | 1, _ => rfl
  | 2, _ => rfl
  | 3, _ => rfl
  | j + 4, h => exact absurd h (by omega)
theorem ro_sht {x : Int32} (h : inb x 4 = true) : isSht (68 + 2 * ix x) := by
  have hx := inb_lt h
  generalize ix x = j at hx ⊢
  match j, hx with
  | 0, _ => exact List.mem_of_getElem? (i := 0) rfl
  | 1, _ => exact List.mem_of_getElem? (i := 1) rfl
  | 2, _ => exact List.mem_of_getElem? (i := 2) rfl
  | 3, _ => exact List.mem_of_getElem? (i := 3) rfl
  | j + 4, h => exact absurd h (by omega)
theorem el_slt {x : Int32} (h : inb x 5 = true) : ([some 76, some 79, some 82, some 85, some 88] : List (Option Nat))[ix x]? = some (some (76 + 3 * ix x)) := by
  have hx := inb_lt h
  generalize ix x = j at hx ⊢
  match j, hx with
  | 0, _ => rfl
  | 1, _ => rfl
  | 2, _ => rfl
  | 3, _ => rfl
  | 4, _ => rfl
  | j + 5, h => exact absurd h (by omega)
theorem ro_slt {x : Int32} (h : inb x 5 = true) : isSlt (76 + 3 * ix x) := by
  have hx := inb_lt h
  generalize ix x = j at hx ⊢
  match j, hx with
  | 0, _ => exact List.mem_of_getElem? (i := 0) rfl
  | 1, _ => exact List.mem_of_getElem? (i := 1) rfl
  | 2, _ => exact List.mem_of_getElem? (i := 2) rfl
  | 3, _ => exact List.mem_of_getElem? (i := 3) rfl
  | 4, _ => exact List.mem_of_getElem? (i := 4) rfl
  | j + 5, h => exact absurd h (by omega)
theorem ro_slsh {k : Nat} (h : isSlt k) : isSht (k + 1) := by
  unfold isSlt at h
  simp only [List.mem_cons, List.not_mem_nil, or_false] at h
  rcases h with rfl | rfl | rfl | rfl | rfl <;> (unfold isSht; decide)
theorem pic_38 : isPic 38 := by unfold isPic; decide
theorem pic_48 : isPic 48 := by unfold isPic; decide
theorem pic_58 : isPic 58 := by unfold isPic; decide
