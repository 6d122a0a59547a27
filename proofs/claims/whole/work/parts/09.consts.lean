theorem cb_m10 : (Int8.ofInt (-10)).toInt32 = (-10) := by decide +kernel
theorem cb_m100 : (Int8.ofInt (-100)).toInt32 = (-100) := by decide +kernel
theorem cb_m11 : (Int8.ofInt (-11)).toInt32 = (-11) := by decide +kernel
theorem cb_m2 : (Int8.ofInt (-2)).toInt32 = (-2) := by decide +kernel
theorem cb_m3 : (Int8.ofInt (-3)).toInt32 = (-3) := by decide +kernel
theorem cb_m33 : (Int8.ofInt (-33)).toInt32 = (-33) := by decide +kernel
theorem cb_m4 : (Int8.ofInt (-4)).toInt32 = (-4) := by decide +kernel
theorem cb_m5 : (Int8.ofInt (-5)).toInt32 = (-5) := by decide +kernel
theorem cb_m6 : (Int8.ofInt (-6)).toInt32 = (-6) := by decide +kernel
theorem cb_m7 : (Int8.ofInt (-7)).toInt32 = (-7) := by decide +kernel
theorem cb_m8 : (Int8.ofInt (-8)).toInt32 = (-8) := by decide +kernel
theorem cb_m9 : (Int8.ofInt (-9)).toInt32 = (-9) := by decide +kernel
theorem cb_10 : (Int8.ofInt 10).toInt32 = 10 := by decide +kernel
theorem cb_100 : (Int8.ofInt 100).toInt32 = 100 := by decide +kernel
theorem cb_102 : (Int8.ofInt 102).toInt32 = 102 := by decide +kernel
theorem cb_104 : (Int8.ofInt 104).toInt32 = 104 := by decide +kernel
theorem cb_112 : (Int8.ofInt 112).toInt32 = 112 := by decide +kernel
theorem cb_115 : (Int8.ofInt 115).toInt32 = 115 := by decide +kernel
theorem cb_119 : (Int8.ofInt 119).toInt32 = 119 := by decide +kernel
theorem cb_12 : (Int8.ofInt 12).toInt32 = 12 := by decide +kernel
theorem cb_120 : (Int8.ofInt 120).toInt32 = 120 := by decide +kernel
theorem cb_122 : (Int8.ofInt 122).toInt32 = 122 := by decide +kernel
theorem cb_124 : (Int8.ofInt 124).toInt32 = 124 := by decide +kernel
theorem cb_14 : (Int8.ofInt 14).toInt32 = 14 := by decide +kernel
theorem cb_20 : (Int8.ofInt 20).toInt32 = 20 := by decide +kernel
theorem cb_24 : (Int8.ofInt 24).toInt32 = 24 := by decide +kernel
theorem cb_30 : (Int8.ofInt 30).toInt32 = 30 := by decide +kernel
theorem cb_32 : (Int8.ofInt 32).toInt32 = 32 := by decide +kernel
theorem cb_33 : (Int8.ofInt 33).toInt32 = 33 := by decide +kernel
theorem cb_34 : (Int8.ofInt 34).toInt32 = 34 := by decide +kernel
theorem cb_38 : (Int8.ofInt 38).toInt32 = 38 := by decide +kernel
theorem cb_40 : (Int8.ofInt 40).toInt32 = 40 := by decide +kernel
theorem cb_41 : (Int8.ofInt 41).toInt32 = 41 := by decide +kernel
theorem cb_42 : (Int8.ofInt 42).toInt32 = 42 := by decide +kernel
theorem cb_43 : (Int8.ofInt 43).toInt32 = 43 := by decide +kernel
theorem cb_45 : (Int8.ofInt 45).toInt32 = 45 := by decide +kernel
theorem cb_47 : (Int8.ofInt 47).toInt32 = 47 := by decide +kernel
theorem cb_48 : (Int8.ofInt 48).toInt32 = 48 := by decide +kernel
theorem cb_57 : (Int8.ofInt 57).toInt32 = 57 := by decide +kernel
theorem cb_6 : (Int8.ofInt 6).toInt32 = 6 := by decide +kernel
theorem cb_60 : (Int8.ofInt 60).toInt32 = 60 := by decide +kernel
theorem cb_61 : (Int8.ofInt 61).toInt32 = 61 := by decide +kernel
theorem cb_62 : (Int8.ofInt 62).toInt32 = 62 := by decide +kernel
theorem cb_64 : (Int8.ofInt 64).toInt32 = 64 := by decide +kernel
theorem cb_7 : (Int8.ofInt 7).toInt32 = 7 := by decide +kernel
theorem cb_8 : (Int8.ofInt 8).toInt32 = 8 := by decide +kernel
theorem cb_9 : (Int8.ofInt 9).toInt32 = 9 := by decide +kernel
theorem cb_90 : (Int8.ofInt 90).toInt32 = 90 := by decide +kernel
theorem cb_92 : (Int8.ofInt 92).toInt32 = 92 := by decide +kernel
theorem cb_96 : (Int8.ofInt 96).toInt32 = 96 := by decide +kernel
theorem cb_97 : (Int8.ofInt 97).toInt32 = 97 := by decide +kernel
theorem cb_99 : (Int8.ofInt 99).toInt32 = 99 := by decide +kernel
theorem cp_0_10_10 : cpok 0 10 10 = true := by decide +kernel
theorem cp_0_24_24 : cpok 0 24 24 = true := by decide +kernel
theorem cp_0_3_3 : cpok 0 3 3 = true := by decide +kernel
theorem cp_0_6_6 : cpok 0 6 6 = true := by decide +kernel
theorem ci_m1 : Int32.ofInt (-1) = (-1) := by decide +kernel
theorem ci_m8 : Int32.ofInt (-8) = (-8) := by decide +kernel
theorem ci_0 : Int32.ofInt 0 = 0 := by decide +kernel
theorem ci_1 : Int32.ofInt 1 = 1 := by decide +kernel
theorem ci_2 : Int32.ofInt 2 = 2 := by decide +kernel
theorem ci_3 : Int32.ofInt 3 = 3 := by decide +kernel
theorem ci_4 : Int32.ofInt 4 = 4 := by decide +kernel
theorem ci_5 : Int32.ofInt 5 = 5 := by decide +kernel
theorem inbc_0_10 : inb 0 10 = true := by decide +kernel
theorem inbc_0_1436 : inb 0 1436 = true := by decide +kernel
theorem inbc_0_3 : inb 0 3 = true := by decide +kernel
theorem inbc_0_4 : inb 0 4 = true := by decide +kernel
theorem inbc_0_96 : inb 0 96 = true := by decide +kernel
theorem inbc_1_1436 : inb 1 1436 = true := by decide +kernel
theorem inbc_1_3 : inb 1 3 = true := by decide +kernel
theorem inbc_1_4 : inb 1 4 = true := by decide +kernel
theorem inbc_2_1436 : inb 2 1436 = true := by decide +kernel
theorem inbc_2_3 : inb 2 3 = true := by decide +kernel
theorem inbc_2_4 : inb 2 4 = true := by decide +kernel
theorem inbc_3_1436 : inb 3 1436 = true := by decide +kernel
theorem inbc_4_1436 : inb 4 1436 = true := by decide +kernel
theorem inbc_5_1436 : inb 5 1436 = true := by decide +kernel
theorem inbc_5_64 : inb 5 64 = true := by decide +kernel
theorem inbc_6_1436 : inb 6 1436 = true := by decide +kernel
theorem inbc_7_1436 : inb 7 1436 = true := by decide +kernel
theorem inbc_8_1436 : inb 8 1436 = true := by decide +kernel
theorem inbc_9_1436 : inb 9 1436 = true := by decide +kernel
theorem cl_0 : Int64.ofNat ((0 : Fin 2) : Nat) = 0 := by decide +kernel
theorem cn_15 : Int32.ofNat 15 = 15 := by decide +kernel
theorem cn_24 : Int32.ofNat 24 = 24 := by decide +kernel
theorem cn_6 : Int32.ofNat 6 = 6 := by decide +kernel
theorem cn_96 : Int32.ofNat 96 = 96 := by decide +kernel
theorem nn_10 : (0 : Int32) ≤ 10 := by decide +kernel
theorem nn_24 : (0 : Int32) ≤ 24 := by decide +kernel
theorem nn_3 : (0 : Int32) ≤ 3 := by decide +kernel
theorem nn_6 : (0 : Int32) ≤ 6 := by decide +kernel
theorem nz_10 : ¬ (10 : Int32) = 0 := by decide +kernel
theorem nz_100 : ¬ (100 : Int32) = 0 := by decide +kernel
theorem nz_1000 : ¬ (1000 : Int32) = 0 := by decide +kernel
theorem nz_2 : ¬ (2 : Int32) = 0 := by decide +kernel
theorem nz_20 : ¬ (20 : Int32) = 0 := by decide +kernel
theorem nz_3 : ¬ (3 : Int32) = 0 := by decide +kernel
theorem nz_4 : ¬ (4 : Int32) = 0 := by decide +kernel
theorem nz_6 : ¬ (6 : Int32) = 0 := by decide +kernel
theorem tout_m8_m1 {x : Int32} (h0 : ¬ x = (-8)) (h1 : ¬ x = (-7)) (h2 : ¬ x = (-6)) (h3 : ¬ x = (-5)) (h4 : ¬ x = (-4)) (h5 : ¬ x = (-3)) (h6 : ¬ x = (-2)) (h7 : ¬ x = (-1)) : x.toInt < (-8) ∨ (-1) < x.toInt := by
  have g0 := lv_neT (a := (-8)) h0 (by decide +kernel)
  have g1 := lv_neT (a := (-7)) h1 (by decide +kernel)
  have g2 := lv_neT (a := (-6)) h2 (by decide +kernel)
  have g3 := lv_neT (a := (-5)) h3 (by decide +kernel)
  have g4 := lv_neT (a := (-4)) h4 (by decide +kernel)
  have g5 := lv_neT (a := (-3)) h5 (by decide +kernel)
  have g6 := lv_neT (a := (-2)) h6 (by decide +kernel)
  have g7 := lv_neT (a := (-1)) h7 (by decide +kernel)
  omega
theorem tout_0_2 {x : Int32} (h0 : ¬ x = 0) (h1 : ¬ x = 1) (h2 : ¬ x = 2) : x.toInt < 0 ∨ 2 < x.toInt := by
  have g0 := lv_neT (a := 0) h0 (by decide +kernel)
  have g1 := lv_neT (a := 1) h1 (by decide +kernel)
  have g2 := lv_neT (a := 2) h2 (by decide +kernel)
  omega
theorem tout_0_3 {x : Int32} (h0 : ¬ x = 0) (h1 : ¬ x = 1) (h2 : ¬ x = 2) (h3 : ¬ x = 3) : x.toInt < 0 ∨ 3 < x.toInt := by
  have g0 := lv_neT (a := 0) h0 (by decide +kernel)
  have g1 := lv_neT (a := 1) h1 (by decide +kernel)
  have g2 := lv_neT (a := 2) h2 (by decide +kernel)
  have g3 := lv_neT (a := 3) h3 (by decide +kernel)
  omega
theorem tout_0_7 {x : Int32} (h0 : ¬ x = 0) (h1 : ¬ x = 1) (h2 : ¬ x = 2) (h3 : ¬ x = 3) (h4 : ¬ x = 4) (h5 : ¬ x = 5) (h6 : ¬ x = 6) (h7 : ¬ x = 7) : x.toInt < 0 ∨ 7 < x.toInt := by
  have g0 := lv_neT (a := 0) h0 (by decide +kernel)
  have g1 := lv_neT (a := 1) h1 (by decide +kernel)
  have g2 := lv_neT (a := 2) h2 (by decide +kernel)
  have g3 := lv_neT (a := 3) h3 (by decide +kernel)
  have g4 := lv_neT (a := 4) h4 (by decide +kernel)
  have g5 := lv_neT (a := 5) h5 (by decide +kernel)
  have g6 := lv_neT (a := 6) h6 (by decide +kernel)
  have g7 := lv_neT (a := 7) h7 (by decide +kernel)
  omega
theorem tout_1_5 {x : Int32} (h0 : ¬ x = 1) (h1 : ¬ x = 2) (h2 : ¬ x = 3) (h3 : ¬ x = 4) (h4 : ¬ x = 5) : x.toInt < 1 ∨ 5 < x.toInt := by
  have g0 := lv_neT (a := 1) h0 (by decide +kernel)
  have g1 := lv_neT (a := 2) h1 (by decide +kernel)
  have g2 := lv_neT (a := 3) h2 (by decide +kernel)
  have g3 := lv_neT (a := 4) h3 (by decide +kernel)
  have g4 := lv_neT (a := 5) h4 (by decide +kernel)
  omega
theorem cs_1000 : (Int16.ofInt 1000).toInt32 = 1000 := by decide +kernel
theorem cs_10000 : (Int16.ofInt 10000).toInt32 = 10000 := by decide +kernel
theorem cs_12345 : (Int16.ofInt 12345).toInt32 = 12345 := by decide +kernel
theorem cs_1436 : (Int16.ofInt 1436).toInt32 = 1436 := by decide +kernel
theorem cs_255 : (Int16.ofInt 255).toInt32 = 255 := by decide +kernel
theorem cs_300 : (Int16.ofInt 300).toInt32 = 300 := by decide +kernel
theorem cs_999 : (Int16.ofInt 999).toInt32 = 999 := by decide +kernel
theorem cs_9999 : (Int16.ofInt 9999).toInt32 = 9999 := by decide +kernel
