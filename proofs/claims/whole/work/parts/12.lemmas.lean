theorem kc_b_10 : (Int8.ofInt (10)).toInt32 = (10 : Int32) := by decide
theorem kc_b_100 : (Int8.ofInt (100)).toInt32 = (100 : Int32) := by decide
theorem kc_b_109 : (Int8.ofInt (109)).toInt32 = (109 : Int32) := by decide
theorem kc_b_11 : (Int8.ofInt (11)).toInt32 = (11 : Int32) := by decide
theorem kc_b_110 : (Int8.ofInt (110)).toInt32 = (110 : Int32) := by decide
theorem kc_b_112 : (Int8.ofInt (112)).toInt32 = (112 : Int32) := by decide
theorem kc_b_114 : (Int8.ofInt (114)).toInt32 = (114 : Int32) := by decide
theorem kc_b_115 : (Int8.ofInt (115)).toInt32 = (115 : Int32) := by decide
theorem kc_b_117 : (Int8.ofInt (117)).toInt32 = (117 : Int32) := by decide
theorem kc_b_118 : (Int8.ofInt (118)).toInt32 = (118 : Int32) := by decide
theorem kc_b_12 : (Int8.ofInt (12)).toInt32 = (12 : Int32) := by decide
theorem kc_b_121 : (Int8.ofInt (121)).toInt32 = (121 : Int32) := by decide
theorem kc_b_124 : (Int8.ofInt (124)).toInt32 = (124 : Int32) := by decide
theorem kc_b_125 : (Int8.ofInt (125)).toInt32 = (125 : Int32) := by decide
theorem kc_b_13 : (Int8.ofInt (13)).toInt32 = (13 : Int32) := by decide
theorem kc_b_14 : (Int8.ofInt (14)).toInt32 = (14 : Int32) := by decide
theorem kc_b_16 : (Int8.ofInt (16)).toInt32 = (16 : Int32) := by decide
theorem kc_b_20 : (Int8.ofInt (20)).toInt32 = (20 : Int32) := by decide
theorem kc_b_21 : (Int8.ofInt (21)).toInt32 = (21 : Int32) := by decide
theorem kc_b_24 : (Int8.ofInt (24)).toInt32 = (24 : Int32) := by decide
theorem kc_b_30 : (Int8.ofInt (30)).toInt32 = (30 : Int32) := by decide
theorem kc_b_32 : (Int8.ofInt (32)).toInt32 = (32 : Int32) := by decide
theorem kc_b_33 : (Int8.ofInt (33)).toInt32 = (33 : Int32) := by decide
theorem kc_b_37 : (Int8.ofInt (37)).toInt32 = (37 : Int32) := by decide
theorem kc_b_38 : (Int8.ofInt (38)).toInt32 = (38 : Int32) := by decide
theorem kc_b_40 : (Int8.ofInt (40)).toInt32 = (40 : Int32) := by decide
theorem kc_b_41 : (Int8.ofInt (41)).toInt32 = (41 : Int32) := by decide
theorem kc_b_42 : (Int8.ofInt (42)).toInt32 = (42 : Int32) := by decide
theorem kc_b_43 : (Int8.ofInt (43)).toInt32 = (43 : Int32) := by decide
theorem kc_b_44 : (Int8.ofInt (44)).toInt32 = (44 : Int32) := by decide
theorem kc_b_45 : (Int8.ofInt (45)).toInt32 = (45 : Int32) := by decide
theorem kc_b_47 : (Int8.ofInt (47)).toInt32 = (47 : Int32) := by decide
theorem kc_b_48 : (Int8.ofInt (48)).toInt32 = (48 : Int32) := by decide
theorem kc_b_50 : (Int8.ofInt (50)).toInt32 = (50 : Int32) := by decide
theorem kc_b_57 : (Int8.ofInt (57)).toInt32 = (57 : Int32) := by decide
theorem kc_b_6 : (Int8.ofInt (6)).toInt32 = (6 : Int32) := by decide
theorem kc_b_60 : (Int8.ofInt (60)).toInt32 = (60 : Int32) := by decide
theorem kc_b_61 : (Int8.ofInt (61)).toInt32 = (61 : Int32) := by decide
theorem kc_b_62 : (Int8.ofInt (62)).toInt32 = (62 : Int32) := by decide
theorem kc_b_7 : (Int8.ofInt (7)).toInt32 = (7 : Int32) := by decide
theorem kc_b_70 : (Int8.ofInt (70)).toInt32 = (70 : Int32) := by decide
theorem kc_b_71 : (Int8.ofInt (71)).toInt32 = (71 : Int32) := by decide
theorem kc_b_8 : (Int8.ofInt (8)).toInt32 = (8 : Int32) := by decide
theorem kc_b_9 : (Int8.ofInt (9)).toInt32 = (9 : Int32) := by decide
theorem kc_b_92 : (Int8.ofInt (92)).toInt32 = (92 : Int32) := by decide
theorem kc_b_99 : (Int8.ofInt (99)).toInt32 = (99 : Int32) := by decide
theorem kc_b_m10 : (Int8.ofInt (-10)).toInt32 = (-10 : Int32) := by decide
theorem kc_i_0 : Int32.ofInt (0) = (0 : Int32) := by decide
theorem kc_i_1 : Int32.ofInt (1) = (1 : Int32) := by decide
theorem kc_i_2 : Int32.ofInt (2) = (2 : Int32) := by decide
theorem kc_i_3 : Int32.ofInt (3) = (3 : Int32) := by decide
theorem kc_i_4 : Int32.ofInt (4) = (4 : Int32) := by decide
theorem kc_i_5 : Int32.ofInt (5) = (5 : Int32) := by decide
theorem kc_i_m1 : Int32.ofInt (-1) = (-1 : Int32) := by decide
theorem kc_l_0 : Int64.ofNat (((0 : Fin 2)) : Nat) = (0 : Int64) := by decide
theorem kc_l_1 : Int64.ofNat (((1 : Fin 2)) : Nat) = (1 : Int64) := by decide
theorem kc_s_10000 : (Int16.ofInt (10000)).toInt32 = (10000 : Int32) := by decide
theorem kc_s_12345 : (Int16.ofInt (12345)).toInt32 = (12345 : Int32) := by decide
theorem kc_s_182 : (Int16.ofInt (182)).toInt32 = (182 : Int32) := by decide
theorem kc_s_20000 : (Int16.ofInt (20000)).toInt32 = (20000 : Int32) := by decide
theorem kc_s_255 : (Int16.ofInt (255)).toInt32 = (255 : Int32) := by decide
theorem kc_s_432 : (Int16.ofInt (432)).toInt32 = (432 : Int32) := by decide
theorem kc_s_492 : (Int16.ofInt (492)).toInt32 = (492 : Int32) := by decide
theorem kc_s_516 : (Int16.ofInt (516)).toInt32 = (516 : Int32) := by decide
theorem kc_s_999 : (Int16.ofInt (999)).toInt32 = (999 : Int32) := by decide
theorem kc_s_9999 : (Int16.ofInt (9999)).toInt32 = (9999 : Int32) := by decide
theorem tn_0 : (0 : Int32).toNatClampNeg = 0 := by decide
theorem tn_1 : (1 : Int32).toNatClampNeg = 1 := by decide
theorem tn_2 : (2 : Int32).toNatClampNeg = 2 := by decide
theorem tn_3 : (3 : Int32).toNatClampNeg = 3 := by decide
theorem tn_4 : (4 : Int32).toNatClampNeg = 4 := by decide
theorem tn_5 : (5 : Int32).toNatClampNeg = 5 := by decide
theorem tn_6 : (6 : Int32).toNatClampNeg = 6 := by decide
theorem tn_7 : (7 : Int32).toNatClampNeg = 7 := by decide
theorem tn_8 : (8 : Int32).toNatClampNeg = 8 := by decide
theorem tn_10 : (10 : Int32).toNatClampNeg = 10 := by decide
theorem tn_11 : (11 : Int32).toNatClampNeg = 11 := by decide
theorem tn_12 : (12 : Int32).toNatClampNeg = 12 := by decide
theorem tn_13 : (13 : Int32).toNatClampNeg = 13 := by decide
theorem tn_14 : (14 : Int32).toNatClampNeg = 14 := by decide
theorem tn_99 : (99 : Int32).toNatClampNeg = 99 := by decide
theorem tn_109 : (109 : Int32).toNatClampNeg = 109 := by decide
theorem tn_112 : (112 : Int32).toNatClampNeg = 112 := by decide
theorem tn_114 : (114 : Int32).toNatClampNeg = 114 := by decide
theorem tn_115 : (115 : Int32).toNatClampNeg = 115 := by decide
theorem tn_117 : (117 : Int32).toNatClampNeg = 117 := by decide
theorem tn_118 : (118 : Int32).toNatClampNeg = 118 := by decide
theorem tn_121 : (121 : Int32).toNatClampNeg = 121 := by decide
theorem so_3_1 {t : Nat} (h : sh t = 3) : sh (t + 1) = 5 := sh_off (by decide) (by decide +kernel) h
theorem so_3_3 {t : Nat} (h : sh t = 3) : sh (t + 3) = 5 := sh_off (by decide) (by decide +kernel) h
theorem so_3_5 {t : Nat} (h : sh t = 3) : sh (t + 5) = 5 := sh_off (by decide) (by decide +kernel) h
theorem so_3_7 {t : Nat} (h : sh t = 3) : sh (t + 7) = 5 := sh_off (by decide) (by decide +kernel) h
theorem so_5_1 {t : Nat} (h : sh t = 5) : sh (t + 1) = 0 := sh_off (by decide) (by decide +kernel) h
theorem so_6_1 {t : Nat} (h : sh t = 6) : sh (t + 1) = 5 := sh_off (by decide) (by decide +kernel) h
theorem so_7_1 {t : Nat} (h : sh t = 7) : sh (t + 1) = 5 := sh_off (by decide) (by decide +kernel) h
theorem so_7_3 {t : Nat} (h : sh t = 7) : sh (t + 3) = 5 := sh_off (by decide) (by decide +kernel) h
theorem so_7_5 {t : Nat} (h : sh t = 7) : sh (t + 5) = 5 := sh_off (by decide) (by decide +kernel) h
theorem so_8_1 {t : Nat} (h : sh t = 8) : sh (t + 1) = 5 := sh_off (by decide) (by decide +kernel) h
theorem so_8_3 {t : Nat} (h : sh t = 8) : sh (t + 3) = 5 := sh_off (by decide) (by decide +kernel) h
theorem so_8_5 {t : Nat} (h : sh t = 8) : sh (t + 5) = 5 := sh_off (by decide) (by decide +kernel) h
theorem so_8_7 {t : Nat} (h : sh t = 8) : sh (t + 7) = 5 := sh_off (by decide) (by decide +kernel) h
theorem so_8_9 {t : Nat} (h : sh t = 8) : sh (t + 9) = 5 := sh_off (by decide) (by decide +kernel) h
theorem so_9_1 {t : Nat} (h : sh t = 9) : sh (t + 1) = 3 := sh_off (by decide) (by decide +kernel) h
theorem so_9_10 {t : Nat} (h : sh t = 9) : sh (t + 10) = 8 := sh_off (by decide) (by decide +kernel) h
theorem so_9_11 {t : Nat} (h : sh t = 9) : sh (t + 11) = 5 := sh_off (by decide) (by decide +kernel) h
theorem so_9_13 {t : Nat} (h : sh t = 9) : sh (t + 13) = 5 := sh_off (by decide) (by decide +kernel) h
theorem so_9_15 {t : Nat} (h : sh t = 9) : sh (t + 15) = 5 := sh_off (by decide) (by decide +kernel) h
theorem so_9_17 {t : Nat} (h : sh t = 9) : sh (t + 17) = 5 := sh_off (by decide) (by decide +kernel) h
theorem so_9_2 {t : Nat} (h : sh t = 9) : sh (t + 2) = 5 := sh_off (by decide) (by decide +kernel) h
theorem so_9_21 {t : Nat} (h : sh t = 9) : sh (t + 21) = 5 := sh_off (by decide) (by decide +kernel) h
theorem so_9_23 {t : Nat} (h : sh t = 9) : sh (t + 23) = 5 := sh_off (by decide) (by decide +kernel) h
theorem so_9_25 {t : Nat} (h : sh t = 9) : sh (t + 25) = 5 := sh_off (by decide) (by decide +kernel) h
theorem so_9_27 {t : Nat} (h : sh t = 9) : sh (t + 27) = 5 := sh_off (by decide) (by decide +kernel) h
theorem so_9_29 {t : Nat} (h : sh t = 9) : sh (t + 29) = 7 := sh_off (by decide) (by decide +kernel) h
theorem so_9_30 {t : Nat} (h : sh t = 9) : sh (t + 30) = 5 := sh_off (by decide) (by decide +kernel) h
theorem so_9_36 {t : Nat} (h : sh t = 9) : sh (t + 36) = 7 := sh_off (by decide) (by decide +kernel) h
theorem so_9_37 {t : Nat} (h : sh t = 9) : sh (t + 37) = 5 := sh_off (by decide) (by decide +kernel) h
theorem so_9_4 {t : Nat} (h : sh t = 9) : sh (t + 4) = 5 := sh_off (by decide) (by decide +kernel) h
theorem so_9_43 {t : Nat} (h : sh t = 9) : sh (t + 43) = 5 := sh_off (by decide) (by decide +kernel) h
theorem so_9_45 {t : Nat} (h : sh t = 9) : sh (t + 45) = 5 := sh_off (by decide) (by decide +kernel) h
theorem so_9_6 {t : Nat} (h : sh t = 9) : sh (t + 6) = 5 := sh_off (by decide) (by decide +kernel) h
theorem so_9_8 {t : Nat} (h : sh t = 9) : sh (t + 8) = 5 := sh_off (by decide) (by decide +kernel) h
